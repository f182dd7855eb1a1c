section
-- ===== PART A: goes FIRST, ahead of the names: the tables' words, and 'selects' of the private methods out of them =====
/-- a private method of a class that the tables say can be made, by its rows of tables_1 -/
def lw_okq (q : MethodName × Nat) : Prop := (q.1.cls ≠ "java/lang/invoke/MethodHandle" ∧ q.1.cls ≠ "java/lang/invoke/VarHandle") ∧ Cond.instantiable q.1.cls q.2 ∈ tables_1 ∧ Cond.privateMethod q.1 ∈ tables_1 ∧ Cond.instanceMethod q.1 ∈ tables_1
theorem lw_p0 : lw_okq (⟨"FallingLines$PoemText", "beginLine", "()V"⟩, 4) := ⟨⟨by decide +kernel, by decide +kernel⟩, List.mem_of_getElem? (i := 95) (by decide +kernel), List.mem_of_getElem? (i := 142) (by decide +kernel), List.mem_of_getElem? (i := 143) (by decide +kernel)⟩
theorem lw_p1 : lw_okq (⟨"FallingLines$PoemText", "accepts", "(I)Z"⟩, 4) := ⟨⟨by decide +kernel, by decide +kernel⟩, List.mem_of_getElem? (i := 95) (by decide +kernel), List.mem_of_getElem? (i := 146) (by decide +kernel), List.mem_of_getElem? (i := 147) (by decide +kernel)⟩
theorem lw_p2 : lw_okq (⟨"FallingLines$PoemText", "acceptsDigit", "(I)Z"⟩, 4) := ⟨⟨by decide +kernel, by decide +kernel⟩, List.mem_of_getElem? (i := 95) (by decide +kernel), List.mem_of_getElem? (i := 150) (by decide +kernel), List.mem_of_getElem? (i := 151) (by decide +kernel)⟩
theorem lw_p3 : lw_okq (⟨"FallingLines$PoemText", "acceptsSign", "(I)Z"⟩, 4) := ⟨⟨by decide +kernel, by decide +kernel⟩, List.mem_of_getElem? (i := 95) (by decide +kernel), List.mem_of_getElem? (i := 160) (by decide +kernel), List.mem_of_getElem? (i := 161) (by decide +kernel)⟩
theorem lw_p4 : lw_okq (⟨"FallingLines$Poem", "isAllAtRest", "()Z"⟩, 13) := ⟨⟨by decide +kernel, by decide +kernel⟩, List.mem_of_getElem? (i := 24) (by decide +kernel), List.mem_of_getElem? (i := 182) (by decide +kernel), List.mem_of_getElem? (i := 183) (by decide +kernel)⟩
theorem lw_p5 : lw_okq (⟨"FallingLines$Poem", "isAtRest", "(I)Z"⟩, 13) := ⟨⟨by decide +kernel, by decide +kernel⟩, List.mem_of_getElem? (i := 24) (by decide +kernel), List.mem_of_getElem? (i := 190) (by decide +kernel), List.mem_of_getElem? (i := 191) (by decide +kernel)⟩
theorem lw_p6 : lw_okq (⟨"FallingLines$Poem", "stepOf", "(I)I"⟩, 13) := ⟨⟨by decide +kernel, by decide +kernel⟩, List.mem_of_getElem? (i := 24) (by decide +kernel), List.mem_of_getElem? (i := 194) (by decide +kernel), List.mem_of_getElem? (i := 195) (by decide +kernel)⟩
theorem lw_p7 : lw_okq (⟨"FallingLines$Poem", "isDue", "(I)Z"⟩, 13) := ⟨⟨by decide +kernel, by decide +kernel⟩, List.mem_of_getElem? (i := 24) (by decide +kernel), List.mem_of_getElem? (i := 202) (by decide +kernel), List.mem_of_getElem? (i := 203) (by decide +kernel)⟩
theorem lw_p8 : lw_okq (⟨"FallingLines$Poem", "loadOf", "(I)I"⟩, 13) := ⟨⟨by decide +kernel, by decide +kernel⟩, List.mem_of_getElem? (i := 24) (by decide +kernel), List.mem_of_getElem? (i := 206) (by decide +kernel), List.mem_of_getElem? (i := 207) (by decide +kernel)⟩
theorem lw_p9 : lw_okq (⟨"FallingLines$Poem", "linesNear", "(II)I"⟩, 13) := ⟨⟨by decide +kernel, by decide +kernel⟩, List.mem_of_getElem? (i := 24) (by decide +kernel), List.mem_of_getElem? (i := 210) (by decide +kernel), List.mem_of_getElem? (i := 211) (by decide +kernel)⟩
theorem lw_p10 : lw_okq (⟨"FallingLines$Poem", "strengthOf", "(I)I"⟩, 13) := ⟨⟨by decide +kernel, by decide +kernel⟩, List.mem_of_getElem? (i := 24) (by decide +kernel), List.mem_of_getElem? (i := 214) (by decide +kernel), List.mem_of_getElem? (i := 215) (by decide +kernel)⟩
theorem lw_p11 : lw_okq (⟨"FallingLines$Poem", "letGo", "()V"⟩, 13) := ⟨⟨by decide +kernel, by decide +kernel⟩, List.mem_of_getElem? (i := 24) (by decide +kernel), List.mem_of_getElem? (i := 222) (by decide +kernel), List.mem_of_getElem? (i := 223) (by decide +kernel)⟩
theorem lw_p12 : lw_okq (⟨"FallingLines$Poem", "keyOf", "(II)I"⟩, 13) := ⟨⟨by decide +kernel, by decide +kernel⟩, List.mem_of_getElem? (i := 24) (by decide +kernel), List.mem_of_getElem? (i := 226) (by decide +kernel), List.mem_of_getElem? (i := 227) (by decide +kernel)⟩
theorem lw_p13 : lw_okq (⟨"FallingLines$Poem", "sortKeys", "(I)V"⟩, 13) := ⟨⟨by decide +kernel, by decide +kernel⟩, List.mem_of_getElem? (i := 24) (by decide +kernel), List.mem_of_getElem? (i := 230) (by decide +kernel), List.mem_of_getElem? (i := 231) (by decide +kernel)⟩
theorem lw_p14 : lw_okq (⟨"FallingLines$Poem", "moveLines", "()V"⟩, 13) := ⟨⟨by decide +kernel, by decide +kernel⟩, List.mem_of_getElem? (i := 24) (by decide +kernel), List.mem_of_getElem? (i := 240) (by decide +kernel), List.mem_of_getElem? (i := 241) (by decide +kernel)⟩
theorem lw_p15 : lw_okq (⟨"FallingLines$Poem", "takeStep", "(II)V"⟩, 13) := ⟨⟨by decide +kernel, by decide +kernel⟩, List.mem_of_getElem? (i := 24) (by decide +kernel), List.mem_of_getElem? (i := 244) (by decide +kernel), List.mem_of_getElem? (i := 245) (by decide +kernel)⟩
def lw_privs_1 : List (MethodName × Nat) := [(⟨"FallingLines$PoemText", "beginLine", "()V"⟩, 4), (⟨"FallingLines$PoemText", "accepts", "(I)Z"⟩, 4), (⟨"FallingLines$PoemText", "acceptsDigit", "(I)Z"⟩, 4), (⟨"FallingLines$PoemText", "acceptsSign", "(I)Z"⟩, 4), (⟨"FallingLines$Poem", "isAllAtRest", "()Z"⟩, 13), (⟨"FallingLines$Poem", "isAtRest", "(I)Z"⟩, 13), (⟨"FallingLines$Poem", "stepOf", "(I)I"⟩, 13), (⟨"FallingLines$Poem", "isDue", "(I)Z"⟩, 13), (⟨"FallingLines$Poem", "loadOf", "(I)I"⟩, 13), (⟨"FallingLines$Poem", "linesNear", "(II)I"⟩, 13), (⟨"FallingLines$Poem", "strengthOf", "(I)I"⟩, 13), (⟨"FallingLines$Poem", "letGo", "()V"⟩, 13), (⟨"FallingLines$Poem", "keyOf", "(II)I"⟩, 13), (⟨"FallingLines$Poem", "sortKeys", "(I)V"⟩, 13), (⟨"FallingLines$Poem", "moveLines", "()V"⟩, 13), (⟨"FallingLines$Poem", "takeStep", "(II)V"⟩, 13)]
theorem lw_r1 : ∀ q ∈ lw_privs_1, lw_okq q := List.forall_mem_cons.mpr ⟨lw_p0, List.forall_mem_cons.mpr ⟨lw_p1, List.forall_mem_cons.mpr ⟨lw_p2, List.forall_mem_cons.mpr ⟨lw_p3, List.forall_mem_cons.mpr ⟨lw_p4, List.forall_mem_cons.mpr ⟨lw_p5, List.forall_mem_cons.mpr ⟨lw_p6, List.forall_mem_cons.mpr ⟨lw_p7, List.forall_mem_cons.mpr ⟨lw_p8, List.forall_mem_cons.mpr ⟨lw_p9, List.forall_mem_cons.mpr ⟨lw_p10, List.forall_mem_cons.mpr ⟨lw_p11, List.forall_mem_cons.mpr ⟨lw_p12, List.forall_mem_cons.mpr ⟨lw_p13, List.forall_mem_cons.mpr ⟨lw_p14, List.forall_mem_cons.mpr ⟨lw_p15, fun _ h => absurd h List.not_mem_nil⟩⟩⟩⟩⟩⟩⟩⟩⟩⟩⟩⟩⟩⟩⟩⟩
theorem lw_p16 : lw_okq (⟨"FallingLines$Poem", "fall", "(I)V"⟩, 13) := ⟨⟨by decide +kernel, by decide +kernel⟩, List.mem_of_getElem? (i := 24) (by decide +kernel), List.mem_of_getElem? (i := 248) (by decide +kernel), List.mem_of_getElem? (i := 249) (by decide +kernel)⟩
theorem lw_p17 : lw_okq (⟨"FallingLines$Poem", "breakLines", "()V"⟩, 13) := ⟨⟨by decide +kernel, by decide +kernel⟩, List.mem_of_getElem? (i := 24) (by decide +kernel), List.mem_of_getElem? (i := 256) (by decide +kernel), List.mem_of_getElem? (i := 257) (by decide +kernel)⟩
theorem lw_p18 : lw_okq (⟨"FallingLines$Poem", "takeAway", "(I)V"⟩, 13) := ⟨⟨by decide +kernel, by decide +kernel⟩, List.mem_of_getElem? (i := 24) (by decide +kernel), List.mem_of_getElem? (i := 260) (by decide +kernel), List.mem_of_getElem? (i := 261) (by decide +kernel)⟩
theorem lw_p19 : lw_okq (⟨"FallingLines", "hashOfLooks", "(J)J"⟩, 4) := ⟨⟨by decide +kernel, by decide +kernel⟩, List.mem_of_getElem? (i := 16) (by decide +kernel), List.mem_of_getElem? (i := 278) (by decide +kernel), List.mem_of_getElem? (i := 279) (by decide +kernel)⟩
theorem lw_p20 : lw_okq (⟨"FallingLines$Poem", "linesGone", "()I"⟩, 13) := ⟨⟨by decide +kernel, by decide +kernel⟩, List.mem_of_getElem? (i := 24) (by decide +kernel), List.mem_of_getElem? (i := 287) (by decide +kernel), List.mem_of_getElem? (i := 288) (by decide +kernel)⟩
theorem lw_p21 : lw_okq (⟨"FallingLines$Poem", "linesOnScreen", "()I"⟩, 13) := ⟨⟨by decide +kernel, by decide +kernel⟩, List.mem_of_getElem? (i := 24) (by decide +kernel), List.mem_of_getElem? (i := 291) (by decide +kernel), List.mem_of_getElem? (i := 292) (by decide +kernel)⟩
theorem lw_p22 : lw_okq (⟨"FallingLines$Poem", "linesAtRest", "()I"⟩, 13) := ⟨⟨by decide +kernel, by decide +kernel⟩, List.mem_of_getElem? (i := 24) (by decide +kernel), List.mem_of_getElem? (i := 295) (by decide +kernel), List.mem_of_getElem? (i := 296) (by decide +kernel)⟩
theorem lw_p23 : lw_okq (⟨"FallingLines$Poem", "topmostRow", "()I"⟩, 13) := ⟨⟨by decide +kernel, by decide +kernel⟩, List.mem_of_getElem? (i := 24) (by decide +kernel), List.mem_of_getElem? (i := 299) (by decide +kernel), List.mem_of_getElem? (i := 300) (by decide +kernel)⟩
theorem lw_p24 : lw_okq (⟨"FallingLines$Poem", "greatestLoad", "()I"⟩, 13) := ⟨⟨by decide +kernel, by decide +kernel⟩, List.mem_of_getElem? (i := 24) (by decide +kernel), List.mem_of_getElem? (i := 304) (by decide +kernel), List.mem_of_getElem? (i := 305) (by decide +kernel)⟩
theorem lw_p25 : lw_okq (⟨"FallingLines$Poem", "stateOf", "(I)I"⟩, 13) := ⟨⟨by decide +kernel, by decide +kernel⟩, List.mem_of_getElem? (i := 24) (by decide +kernel), List.mem_of_getElem? (i := 312) (by decide +kernel), List.mem_of_getElem? (i := 313) (by decide +kernel)⟩
theorem lw_p26 : lw_okq (⟨"FallingLines$Poem", "placeOf", "(I)I"⟩, 13) := ⟨⟨by decide +kernel, by decide +kernel⟩, List.mem_of_getElem? (i := 24) (by decide +kernel), List.mem_of_getElem? (i := 316) (by decide +kernel), List.mem_of_getElem? (i := 317) (by decide +kernel)⟩
theorem lw_p27 : lw_okq (⟨"java/lang/Throwable", "fillInStackTrace", "(I)Ljava/lang/Throwable;"⟩, 6) := ⟨⟨by decide +kernel, by decide +kernel⟩, List.mem_of_getElem? (i := 380) (by decide +kernel), List.mem_of_getElem? (i := 378) (by decide +kernel), List.mem_of_getElem? (i := 379) (by decide +kernel)⟩
theorem lw_p28 : lw_okq (⟨"FallingLines", "joinTrial", "(III)I"⟩, 4) := ⟨⟨by decide +kernel, by decide +kernel⟩, List.mem_of_getElem? (i := 16) (by decide +kernel), List.mem_of_getElem? (i := 405) (by decide +kernel), List.mem_of_getElem? (i := 406) (by decide +kernel)⟩
theorem lw_p29 : lw_okq (⟨"FallingLines$History", "dropOldest", "()V"⟩, 2) := ⟨⟨by decide +kernel, by decide +kernel⟩, List.mem_of_getElem? (i := 78) (by decide +kernel), List.mem_of_getElem? (i := 467) (by decide +kernel), List.mem_of_getElem? (i := 468) (by decide +kernel)⟩
theorem lw_p30 : lw_okq (⟨"FallingLines", "isNumber", "(I)Z"⟩, 4) := ⟨⟨by decide +kernel, by decide +kernel⟩, List.mem_of_getElem? (i := 16) (by decide +kernel), List.mem_of_getElem? (i := 495) (by decide +kernel), List.mem_of_getElem? (i := 496) (by decide +kernel)⟩
theorem lw_p31 : lw_okq (⟨"FallingLines", "addToldLine", "()Z"⟩, 4) := ⟨⟨by decide +kernel, by decide +kernel⟩, List.mem_of_getElem? (i := 16) (by decide +kernel), List.mem_of_getElem? (i := 551) (by decide +kernel), List.mem_of_getElem? (i := 552) (by decide +kernel)⟩
def lw_privs_2 : List (MethodName × Nat) := [(⟨"FallingLines$Poem", "fall", "(I)V"⟩, 13), (⟨"FallingLines$Poem", "breakLines", "()V"⟩, 13), (⟨"FallingLines$Poem", "takeAway", "(I)V"⟩, 13), (⟨"FallingLines", "hashOfLooks", "(J)J"⟩, 4), (⟨"FallingLines$Poem", "linesGone", "()I"⟩, 13), (⟨"FallingLines$Poem", "linesOnScreen", "()I"⟩, 13), (⟨"FallingLines$Poem", "linesAtRest", "()I"⟩, 13), (⟨"FallingLines$Poem", "topmostRow", "()I"⟩, 13), (⟨"FallingLines$Poem", "greatestLoad", "()I"⟩, 13), (⟨"FallingLines$Poem", "stateOf", "(I)I"⟩, 13), (⟨"FallingLines$Poem", "placeOf", "(I)I"⟩, 13), (⟨"java/lang/Throwable", "fillInStackTrace", "(I)Ljava/lang/Throwable;"⟩, 6), (⟨"FallingLines", "joinTrial", "(III)I"⟩, 4), (⟨"FallingLines$History", "dropOldest", "()V"⟩, 2), (⟨"FallingLines", "isNumber", "(I)Z"⟩, 4), (⟨"FallingLines", "addToldLine", "()Z"⟩, 4)]
theorem lw_r2 : ∀ q ∈ lw_privs_2, lw_okq q := List.forall_mem_cons.mpr ⟨lw_p16, List.forall_mem_cons.mpr ⟨lw_p17, List.forall_mem_cons.mpr ⟨lw_p18, List.forall_mem_cons.mpr ⟨lw_p19, List.forall_mem_cons.mpr ⟨lw_p20, List.forall_mem_cons.mpr ⟨lw_p21, List.forall_mem_cons.mpr ⟨lw_p22, List.forall_mem_cons.mpr ⟨lw_p23, List.forall_mem_cons.mpr ⟨lw_p24, List.forall_mem_cons.mpr ⟨lw_p25, List.forall_mem_cons.mpr ⟨lw_p26, List.forall_mem_cons.mpr ⟨lw_p27, List.forall_mem_cons.mpr ⟨lw_p28, List.forall_mem_cons.mpr ⟨lw_p29, List.forall_mem_cons.mpr ⟨lw_p30, List.forall_mem_cons.mpr ⟨lw_p31, fun _ h => absurd h List.not_mem_nil⟩⟩⟩⟩⟩⟩⟩⟩⟩⟩⟩⟩⟩⟩⟩⟩
theorem lw_p32 : lw_okq (⟨"FallingLinesModel", "refuses", "(I)Z"⟩, 12) := ⟨⟨by decide +kernel, by decide +kernel⟩, List.mem_of_getElem? (i := 606) (by decide +kernel), List.mem_of_getElem? (i := 657) (by decide +kernel), List.mem_of_getElem? (i := 658) (by decide +kernel)⟩
theorem lw_p33 : lw_okq (⟨"FallingLinesModel", "saves", "()V"⟩, 12) := ⟨⟨by decide +kernel, by decide +kernel⟩, List.mem_of_getElem? (i := 606) (by decide +kernel), List.mem_of_getElem? (i := 677) (by decide +kernel), List.mem_of_getElem? (i := 678) (by decide +kernel)⟩
theorem lw_p34 : lw_okq (⟨"FallingLinesModel", "beat", "([I)I"⟩, 12) := ⟨⟨by decide +kernel, by decide +kernel⟩, List.mem_of_getElem? (i := 606) (by decide +kernel), List.mem_of_getElem? (i := 688) (by decide +kernel), List.mem_of_getElem? (i := 689) (by decide +kernel)⟩
theorem lw_p35 : lw_okq (⟨"FallingLinesModel", "come", "([I)V"⟩, 12) := ⟨⟨by decide +kernel, by decide +kernel⟩, List.mem_of_getElem? (i := 606) (by decide +kernel), List.mem_of_getElem? (i := 692) (by decide +kernel), List.mem_of_getElem? (i := 693) (by decide +kernel)⟩
theorem lw_p36 : lw_okq (⟨"FallingLinesModel", "next", "([I)I"⟩, 12) := ⟨⟨by decide +kernel, by decide +kernel⟩, List.mem_of_getElem? (i := 606) (by decide +kernel), List.mem_of_getElem? (i := 702) (by decide +kernel), List.mem_of_getElem? (i := 703) (by decide +kernel)⟩
theorem lw_p37 : lw_okq (⟨"FallingLinesModel", "moveAll", "([I)V"⟩, 12) := ⟨⟨by decide +kernel, by decide +kernel⟩, List.mem_of_getElem? (i := 606) (by decide +kernel), List.mem_of_getElem? (i := 718) (by decide +kernel), List.mem_of_getElem? (i := 719) (by decide +kernel)⟩
theorem lw_p38 : lw_okq (⟨"FallingLinesModel", "isNumber", "(I)Z"⟩, 12) := ⟨⟨by decide +kernel, by decide +kernel⟩, List.mem_of_getElem? (i := 606) (by decide +kernel), List.mem_of_getElem? (i := 763) (by decide +kernel), List.mem_of_getElem? (i := 764) (by decide +kernel)⟩
theorem lw_p39 : lw_okq (⟨"FallingLinesModel", "canPush", "(IZ)Z"⟩, 12) := ⟨⟨by decide +kernel, by decide +kernel⟩, List.mem_of_getElem? (i := 606) (by decide +kernel), List.mem_of_getElem? (i := 767) (by decide +kernel), List.mem_of_getElem? (i := 768) (by decide +kernel)⟩
theorem lw_p40 : lw_okq (⟨"FallingLinesModel", "isPoem", "()Z"⟩, 12) := ⟨⟨by decide +kernel, by decide +kernel⟩, List.mem_of_getElem? (i := 606) (by decide +kernel), List.mem_of_getElem? (i := 787) (by decide +kernel), List.mem_of_getElem? (i := 788) (by decide +kernel)⟩
theorem lw_p41 : lw_okq (⟨"FallingLinesModel", "isPart", "()Z"⟩, 12) := ⟨⟨by decide +kernel, by decide +kernel⟩, List.mem_of_getElem? (i := 606) (by decide +kernel), List.mem_of_getElem? (i := 791) (by decide +kernel), List.mem_of_getElem? (i := 792) (by decide +kernel)⟩
theorem lw_p42 : lw_okq (⟨"FallingLinesModel", "isTold", "(III)Z"⟩, 12) := ⟨⟨by decide +kernel, by decide +kernel⟩, List.mem_of_getElem? (i := 606) (by decide +kernel), List.mem_of_getElem? (i := 795) (by decide +kernel), List.mem_of_getElem? (i := 796) (by decide +kernel)⟩
theorem lw_p43 : lw_okq (⟨"FallingLinesModel", "sees", "(II)Z"⟩, 12) := ⟨⟨by decide +kernel, by decide +kernel⟩, List.mem_of_getElem? (i := 606) (by decide +kernel), List.mem_of_getElem? (i := 799) (by decide +kernel), List.mem_of_getElem? (i := 800) (by decide +kernel)⟩
theorem lw_p44 : lw_okq (⟨"FallingLinesModel", "takes", "(I)Z"⟩, 12) := ⟨⟨by decide +kernel, by decide +kernel⟩, List.mem_of_getElem? (i := 606) (by decide +kernel), List.mem_of_getElem? (i := 803) (by decide +kernel), List.mem_of_getElem? (i := 804) (by decide +kernel)⟩
theorem lw_p45 : lw_okq (⟨"FallingLinesModel", "isAdded", "(I)Z"⟩, 12) := ⟨⟨by decide +kernel, by decide +kernel⟩, List.mem_of_getElem? (i := 606) (by decide +kernel), List.mem_of_getElem? (i := 811) (by decide +kernel), List.mem_of_getElem? (i := 812) (by decide +kernel)⟩
theorem lw_p46 : lw_okq (⟨"FallingLinesModel", "ofLine", "(II)I"⟩, 12) := ⟨⟨by decide +kernel, by decide +kernel⟩, List.mem_of_getElem? (i := 606) (by decide +kernel), List.mem_of_getElem? (i := 819) (by decide +kernel), List.mem_of_getElem? (i := 820) (by decide +kernel)⟩
theorem lw_p47 : lw_okq (⟨"FallingLinesModel", "howOf", "(I)I"⟩, 12) := ⟨⟨by decide +kernel, by decide +kernel⟩, List.mem_of_getElem? (i := 606) (by decide +kernel), List.mem_of_getElem? (i := 823) (by decide +kernel), List.mem_of_getElem? (i := 824) (by decide +kernel)⟩
def lw_privs_3 : List (MethodName × Nat) := [(⟨"FallingLinesModel", "refuses", "(I)Z"⟩, 12), (⟨"FallingLinesModel", "saves", "()V"⟩, 12), (⟨"FallingLinesModel", "beat", "([I)I"⟩, 12), (⟨"FallingLinesModel", "come", "([I)V"⟩, 12), (⟨"FallingLinesModel", "next", "([I)I"⟩, 12), (⟨"FallingLinesModel", "moveAll", "([I)V"⟩, 12), (⟨"FallingLinesModel", "isNumber", "(I)Z"⟩, 12), (⟨"FallingLinesModel", "canPush", "(IZ)Z"⟩, 12), (⟨"FallingLinesModel", "isPoem", "()Z"⟩, 12), (⟨"FallingLinesModel", "isPart", "()Z"⟩, 12), (⟨"FallingLinesModel", "isTold", "(III)Z"⟩, 12), (⟨"FallingLinesModel", "sees", "(II)Z"⟩, 12), (⟨"FallingLinesModel", "takes", "(I)Z"⟩, 12), (⟨"FallingLinesModel", "isAdded", "(I)Z"⟩, 12), (⟨"FallingLinesModel", "ofLine", "(II)I"⟩, 12), (⟨"FallingLinesModel", "howOf", "(I)I"⟩, 12)]
theorem lw_r3 : ∀ q ∈ lw_privs_3, lw_okq q := List.forall_mem_cons.mpr ⟨lw_p32, List.forall_mem_cons.mpr ⟨lw_p33, List.forall_mem_cons.mpr ⟨lw_p34, List.forall_mem_cons.mpr ⟨lw_p35, List.forall_mem_cons.mpr ⟨lw_p36, List.forall_mem_cons.mpr ⟨lw_p37, List.forall_mem_cons.mpr ⟨lw_p38, List.forall_mem_cons.mpr ⟨lw_p39, List.forall_mem_cons.mpr ⟨lw_p40, List.forall_mem_cons.mpr ⟨lw_p41, List.forall_mem_cons.mpr ⟨lw_p42, List.forall_mem_cons.mpr ⟨lw_p43, List.forall_mem_cons.mpr ⟨lw_p44, List.forall_mem_cons.mpr ⟨lw_p45, List.forall_mem_cons.mpr ⟨lw_p46, List.forall_mem_cons.mpr ⟨lw_p47, fun _ h => absurd h List.not_mem_nil⟩⟩⟩⟩⟩⟩⟩⟩⟩⟩⟩⟩⟩⟩⟩⟩
theorem lw_p48 : lw_okq (⟨"FallingLinesModel", "beside", "(IZ)I"⟩, 12) := ⟨⟨by decide +kernel, by decide +kernel⟩, List.mem_of_getElem? (i := 606) (by decide +kernel), List.mem_of_getElem? (i := 830) (by decide +kernel), List.mem_of_getElem? (i := 831) (by decide +kernel)⟩
theorem lw_p49 : lw_okq (⟨"FallingLinesModel", "readAt", "(I)I"⟩, 12) := ⟨⟨by decide +kernel, by decide +kernel⟩, List.mem_of_getElem? (i := 606) (by decide +kernel), List.mem_of_getElem? (i := 834) (by decide +kernel), List.mem_of_getElem? (i := 835) (by decide +kernel)⟩
theorem lw_p50 : lw_okq (⟨"FallingLinesModel", "lineAt", "(II)I"⟩, 12) := ⟨⟨by decide +kernel, by decide +kernel⟩, List.mem_of_getElem? (i := 606) (by decide +kernel), List.mem_of_getElem? (i := 845) (by decide +kernel), List.mem_of_getElem? (i := 846) (by decide +kernel)⟩
theorem lw_p51 : lw_okq (⟨"FallingLinesModel", "lineRead", "(I)I"⟩, 12) := ⟨⟨by decide +kernel, by decide +kernel⟩, List.mem_of_getElem? (i := 606) (by decide +kernel), List.mem_of_getElem? (i := 853) (by decide +kernel), List.mem_of_getElem? (i := 854) (by decide +kernel)⟩
theorem lw_p52 : lw_okq (⟨"FallingLinesModel", "counted", "(I)I"⟩, 12) := ⟨⟨by decide +kernel, by decide +kernel⟩, List.mem_of_getElem? (i := 606) (by decide +kernel), List.mem_of_getElem? (i := 861) (by decide +kernel), List.mem_of_getElem? (i := 862) (by decide +kernel)⟩
theorem lw_p53 : lw_okq (⟨"FallingLinesModel", "withHow", "(I)I"⟩, 12) := ⟨⟨by decide +kernel, by decide +kernel⟩, List.mem_of_getElem? (i := 606) (by decide +kernel), List.mem_of_getElem? (i := 865) (by decide +kernel), List.mem_of_getElem? (i := 866) (by decide +kernel)⟩
theorem lw_p54 : lw_okq (⟨"FallingLinesModel", "atRest", "()I"⟩, 12) := ⟨⟨by decide +kernel, by decide +kernel⟩, List.mem_of_getElem? (i := 606) (by decide +kernel), List.mem_of_getElem? (i := 869) (by decide +kernel), List.mem_of_getElem? (i := 870) (by decide +kernel)⟩
theorem lw_p55 : lw_okq (⟨"FallingLinesModel", "topmost", "()I"⟩, 12) := ⟨⟨by decide +kernel, by decide +kernel⟩, List.mem_of_getElem? (i := 606) (by decide +kernel), List.mem_of_getElem? (i := 873) (by decide +kernel), List.mem_of_getElem? (i := 874) (by decide +kernel)⟩
theorem lw_p56 : lw_okq (⟨"FallingLinesModel", "squares", "()I"⟩, 12) := ⟨⟨by decide +kernel, by decide +kernel⟩, List.mem_of_getElem? (i := 606) (by decide +kernel), List.mem_of_getElem? (i := 877) (by decide +kernel), List.mem_of_getElem? (i := 878) (by decide +kernel)⟩
theorem lw_p57 : lw_okq (⟨"FallingLinesModel", "greatestLoad", "()I"⟩, 12) := ⟨⟨by decide +kernel, by decide +kernel⟩, List.mem_of_getElem? (i := 606) (by decide +kernel), List.mem_of_getElem? (i := 884) (by decide +kernel), List.mem_of_getElem? (i := 885) (by decide +kernel)⟩
theorem lw_p58 : lw_okq (⟨"FallingLinesModel", "restIn", "()I"⟩, 12) := ⟨⟨by decide +kernel, by decide +kernel⟩, List.mem_of_getElem? (i := 606) (by decide +kernel), List.mem_of_getElem? (i := 892) (by decide +kernel), List.mem_of_getElem? (i := 893) (by decide +kernel)⟩
theorem lw_p59 : lw_okq (⟨"FallingLinesModel", "rests", "([I)I"⟩, 12) := ⟨⟨by decide +kernel, by decide +kernel⟩, List.mem_of_getElem? (i := 606) (by decide +kernel), List.mem_of_getElem? (i := 896) (by decide +kernel), List.mem_of_getElem? (i := 897) (by decide +kernel)⟩
theorem lw_p60 : lw_okq (⟨"FallingLinesModel", "dropped", "(IIII)I"⟩, 12) := ⟨⟨by decide +kernel, by decide +kernel⟩, List.mem_of_getElem? (i := 606) (by decide +kernel), List.mem_of_getElem? (i := 904) (by decide +kernel), List.mem_of_getElem? (i := 905) (by decide +kernel)⟩
theorem lw_p61 : lw_okq (⟨"FallingLinesModel", "best", "(II)I"⟩, 12) := ⟨⟨by decide +kernel, by decide +kernel⟩, List.mem_of_getElem? (i := 606) (by decide +kernel), List.mem_of_getElem? (i := 912) (by decide +kernel), List.mem_of_getElem? (i := 913) (by decide +kernel)⟩
theorem lw_p62 : lw_okq (⟨"FallingLinesModel", "without", "(I)I"⟩, 12) := ⟨⟨by decide +kernel, by decide +kernel⟩, List.mem_of_getElem? (i := 606) (by decide +kernel), List.mem_of_getElem? (i := 920) (by decide +kernel), List.mem_of_getElem? (i := 921) (by decide +kernel)⟩
theorem lw_p63 : lw_okq (⟨"FallingLinesModel", "share", "()D"⟩, 12) := ⟨⟨by decide +kernel, by decide +kernel⟩, List.mem_of_getElem? (i := 606) (by decide +kernel), List.mem_of_getElem? (i := 928) (by decide +kernel), List.mem_of_getElem? (i := 929) (by decide +kernel)⟩
def lw_privs_4 : List (MethodName × Nat) := [(⟨"FallingLinesModel", "beside", "(IZ)I"⟩, 12), (⟨"FallingLinesModel", "readAt", "(I)I"⟩, 12), (⟨"FallingLinesModel", "lineAt", "(II)I"⟩, 12), (⟨"FallingLinesModel", "lineRead", "(I)I"⟩, 12), (⟨"FallingLinesModel", "counted", "(I)I"⟩, 12), (⟨"FallingLinesModel", "withHow", "(I)I"⟩, 12), (⟨"FallingLinesModel", "atRest", "()I"⟩, 12), (⟨"FallingLinesModel", "topmost", "()I"⟩, 12), (⟨"FallingLinesModel", "squares", "()I"⟩, 12), (⟨"FallingLinesModel", "greatestLoad", "()I"⟩, 12), (⟨"FallingLinesModel", "restIn", "()I"⟩, 12), (⟨"FallingLinesModel", "rests", "([I)I"⟩, 12), (⟨"FallingLinesModel", "dropped", "(IIII)I"⟩, 12), (⟨"FallingLinesModel", "best", "(II)I"⟩, 12), (⟨"FallingLinesModel", "without", "(I)I"⟩, 12), (⟨"FallingLinesModel", "share", "()D"⟩, 12)]
theorem lw_r4 : ∀ q ∈ lw_privs_4, lw_okq q := List.forall_mem_cons.mpr ⟨lw_p48, List.forall_mem_cons.mpr ⟨lw_p49, List.forall_mem_cons.mpr ⟨lw_p50, List.forall_mem_cons.mpr ⟨lw_p51, List.forall_mem_cons.mpr ⟨lw_p52, List.forall_mem_cons.mpr ⟨lw_p53, List.forall_mem_cons.mpr ⟨lw_p54, List.forall_mem_cons.mpr ⟨lw_p55, List.forall_mem_cons.mpr ⟨lw_p56, List.forall_mem_cons.mpr ⟨lw_p57, List.forall_mem_cons.mpr ⟨lw_p58, List.forall_mem_cons.mpr ⟨lw_p59, List.forall_mem_cons.mpr ⟨lw_p60, List.forall_mem_cons.mpr ⟨lw_p61, List.forall_mem_cons.mpr ⟨lw_p62, List.forall_mem_cons.mpr ⟨lw_p63, fun _ h => absurd h List.not_mem_nil⟩⟩⟩⟩⟩⟩⟩⟩⟩⟩⟩⟩⟩⟩⟩⟩
theorem lw_p64 : lw_okq (⟨"FallingLinesModel", "mix", "(J)V"⟩, 12) := ⟨⟨by decide +kernel, by decide +kernel⟩, List.mem_of_getElem? (i := 606) (by decide +kernel), List.mem_of_getElem? (i := 938) (by decide +kernel), List.mem_of_getElem? (i := 939) (by decide +kernel)⟩
theorem lw_p65 : lw_okq (⟨"FallingLinesModel", "mixScreen", "()V"⟩, 12) := ⟨⟨by decide +kernel, by decide +kernel⟩, List.mem_of_getElem? (i := 606) (by decide +kernel), List.mem_of_getElem? (i := 943) (by decide +kernel), List.mem_of_getElem? (i := 944) (by decide +kernel)⟩
def lw_privs_5 : List (MethodName × Nat) := [(⟨"FallingLinesModel", "mix", "(J)V"⟩, 12), (⟨"FallingLinesModel", "mixScreen", "()V"⟩, 12)]
theorem lw_r5 : ∀ q ∈ lw_privs_5, lw_okq q := List.forall_mem_cons.mpr ⟨lw_p64, List.forall_mem_cons.mpr ⟨lw_p65, fun _ h => absurd h List.not_mem_nil⟩⟩
def lw_privs : List (MethodName × Nat) := lw_privs_1 ++ (lw_privs_2 ++ (lw_privs_3 ++ (lw_privs_4 ++ (lw_privs_5))))
def lw_tbl : List Cond := k2_sels lw_privs ++ tables_1
theorem lw_privs_ok : ∀ q ∈ lw_privs, lw_okq q := by
  show ∀ q ∈ lw_privs_1 ++ (lw_privs_2 ++ (lw_privs_3 ++ (lw_privs_4 ++ (lw_privs_5)))), lw_okq q
  exact List.forall_mem_append.mpr ⟨lw_r1, List.forall_mem_append.mpr ⟨lw_r2, List.forall_mem_append.mpr ⟨lw_r3, List.forall_mem_append.mpr ⟨lw_r4, lw_r5⟩⟩⟩⟩
/-- the streams that the claim lets the run draw from -/
abbrev lw_cs : List Choice := [Jvm.Choice.named "NaN.bits"]
theorem lw_bits : nanBits ∈ lw_cs := by first | decide | exact List.mem_cons_self | simp [lw_cs, nanBits]
end
section
/-! ===== BEGIN words of one list among another's, by their places ===== -/
theorem goodIn_r {big : List Cond} (ws : List Cond) (ps : List Nat) (hp : ws = ps.filterMap (fun i => big[i]?)) (h : ws.all goodWord = true) : GoodIn big ws := by
  intro w hw
  have h1 := List.all_eq_true.mp h w hw
  rw [hp] at hw
  obtain ⟨i, -, hi⟩ := List.mem_filterMap.mp hw
  have hm : w ∈ big := by first | exact List.mem_of_getElem? hi | exact List.getElem?_mem hi
  exact ⟨hm, good_of_word h1⟩
theorem goodIn_app {big a b : List Cond} (ha : GoodIn big a) (hb : GoodIn big b) : GoodIn big (a ++ b) := fun w h => (List.mem_append.mp h).elim (ha w) (hb w)
theorem goodIn_ca {big a b : List Cond} {c : Cond} (ha : GoodIn big (c :: a)) (hb : GoodIn big b) : GoodIn big (c :: (a ++ b)) := fun w h => (List.mem_cons.mp h).elim (fun e => ha w (List.mem_cons.mpr (Or.inl e))) (fun h => (List.mem_append.mp h).elim (fun h => ha w (List.mem_cons.mpr (Or.inr h))) (hb w))
theorem goodIn_sub {big ws : List Cond} (hm : ∀ w ∈ ws, w ∈ big) (h : ws.all goodWord = true) : GoodIn big ws := fun w hw => ⟨hm w hw, good_of_word (List.all_eq_true.mp h w hw)⟩
/-! ===== END ===== -/

/-! ===== BEGIN exceptions that leave a method, and their catching by the caller (launches without stack traces) ===== -/
section VXA
/-! The laws vx_back, vx_callV, vx_callS, vx_callSW, vx_throw0, vx_throwS follow proofs of the library, with one case more: JvmDerived/Free/Laws.lean (Back.of_free), Shelf42/LK1.lean (callV, callS), Shelf/KitTraced.lean (throwNew0V, throwNewS). -/
/-- where a method has thrown q: the class by its name, the cell, what was written, the world -/
def vx_T (XC : String → State → State → Prop) (st : State) (q : Addr) (t : State) (mc ms : Nat) (free : Addr → Prop) : Prop :=
  ∃ (E : String) (ce : Cell) (L : List Loc), XC E st t ∧ t.heap[q]? = some ce ∧ ce.vm = .none ∧ st.vm.findClass E = some ce.cls ∧ st.WarmedH t.vm ∧ st.sameButNew ({ t with vm := st.vm } : State) L mc ms ∧ ∀ z ∈ L, free z.base
def vx_Q (Qc : Array Value → State → Outcome → State → Prop) (XC : String → State → State → Prop) (mc ms : Nat) (free : Addr → Prop) : Array Value → State → Outcome → State → Prop := fun a st o t =>
  (Qc a st o t ∧ ∃ L, FrameEnd st o t L mc ms ∧ ∀ q ∈ L, free q.base) ∨ ∃ q, o = .threw q ∧ vx_T XC st q t mc ms free
/-- a callee that returns or throws -/
def vx_Met (l : Launch) (y : MethodName) (ws : List Cond) (rm : Room) (Pc : Array Value → State → Prop) (Qc : Array Value → State → Outcome → State → Prop) (XC : String → State → State → Prop) (mc ms : Nat) (free : Addr → Prop) : Prop :=
  MetFree l y (headSpec ws rm) Pc (fun _ _ _ _ _ => True) (vx_Q Qc XC mc ms free)
def vx_Post (XC : String → State → State → Prop) (mc ms : Nat) (free : Addr → Prop) : Pt → Array Value → Addr → Pt → Prop := fun A a q B =>
  ∃ (g : JFrame) (mk : MethodId) (t : State) (L : List Loc) (E : String) (ce : Cell), B.U.heap = t.heap ∧ B.U.vm = t.vm ∧ XC E (A.U.calling g mk a) t ∧ t.heap[q]? = some ce ∧ ce.vm = .none ∧ A.U.vm.findClass E = some ce.cls ∧ B.locs = A.locs ++ L ∧ (∀ z ∈ L, free z.base) ∧ B.cells = A.cells + mc ∧ B.slots = A.slots + ms
def vx_Back (l : Launch) (R : Room) (p : Program) (e : Env) (below : List Frame) (s : State) (sargs : Array Value) (y : MethodName) (len W9 : Nat)
    (Pre : Pt → Array Value → Prop) (Post : Pt → Array Value → Option Value → Pt → Prop) (PostX : Pt → Array Value → Addr → Pt → Prop) : Prop :=
  ∀ (m : MethodId) (meth : Method) (c : Code) (A : Pt) (g : JFrame) (ig : Instr) (mk : MethodId) (a : Array Value),
    Stand p l e R s m sargs below meth c A.U A.locs A.cells A.slots → g.method = m → g.locals.size = c.maxLocals → decode c.code g.pc = .ok (ig, len) →
    2 * g.monitorRoom + (g.stack.map fun v => v.category).sum ≤ W9 → A.U.methodNamed? y = some mk → Pre A a →
    (∃ (v : Option Value) (B : Pt), Stand p l e R s m sargs below meth c B.U B.locs B.cells B.slots ∧ Post A a v B ∧
      Steps p.tables e below (doInvoke e (A.U.setTop g) [] mk a).1 (B.U.setTop { g with pc := g.pc + len, stack := v.toList ++ g.stack })) ∨
    (∃ (q : Addr) (B : Pt), Stand p l e R s m sargs below meth c B.U B.locs B.cells B.slots ∧ PostX A a q B ∧
      Steps p.tables e below (doInvoke e (A.U.setTop g) [] mk a).1 ((B.U.setTop g).pushFrame (.throwing q)))
section Payer
variable {l : Launch} {R : Room} {p : Program} {e : Env} {below : List Frame} {s : State} {sargs : Array Value} {y : MethodName} {len W9 : Nat}
theorem vx_back {ws : List Cond} {rm : Room} {Pc : Array Value → State → Prop} {Qc : Array Value → State → Outcome → State → Prop} {XC : String → State → State → Prop} {mc ms : Nat} {free : Addr → Prop} {bytes : ByteArray} {maxL : Nat} {ret : Option FieldType}
    (hM : vx_Met l y ws rm Pc Qc XC mc ms free) (hblind : FrameBlind Pc) (hrc : rm.cells = mc) (hrs : rm.slots = ms)
    (hframes : rm.frames + 1 ≤ R.frames) (hlocals : W9 + (maxL + 11) + rm.locals ≤ R.locals)
    (hws : ∀ w ∈ ws, ∀ a' U, s.WarmedH U.vm → w.before a' U = true) (hcode : Cond.code y bytes maxL ret ∈ ws) (hinit : ∀ a' U, s.WarmedH U.vm → (Cond.initialized y.cls).before a' U = true) :
    vx_Back l R p e below s sargs y len W9 (PreOf R mc ms Pc) (PostOf Qc mc ms free) (vx_Post XC mc ms free) := by
  intro m meth c A g ig mk a X hg hsize hdg hW hn hp
  have h1 : (headSpec ws rm).pre.before a A.U = true := atoms_intro fun w hw => hws w hw _ _ X.warmed
  have h2 : (Cond.code y bytes maxL ret).before a A.U = true := hws _ hcode _ _ X.warmed
  have h3 : (Cond.initialized y.cls).before a A.U = true := hinit _ _ X.warmed
  have h4 : A.cells + (headSpec ws rm).room.cells ≤ R.cells := by rw [show (headSpec ws rm).room.cells = mc from hrc]; exact hp.1
  have h5 : A.slots + (headSpec ws rm).room.slots ≤ R.slots := by rw [show (headSpec ws rm).room.slots = ms from hrs]; exact hp.2.1
  have hPc : Pc a (A.U.calling g mk a) := hblind _ _ _ _ hp.2.2
  obtain ⟨U, Ls, c0, s0⟩ := A
  dsimp only [Pt.U, Pt.locs, Pt.cells, Pt.slots] at h1 h2 h3 h4 h5 X hn hPc ⊢
  obtain ⟨methY, cY, hmY, hcY, -, hlY, -, -, -, -⟩ := Cond.code_spec hn h2
  obtain ⟨kY, hkY, -⟩ := className_of_methodNamed hn
  have hinitY : kY.init = .initialized := Cond.initialized_spec (findClass_of_methodNamed hn) hkY h3
  have h : At U g.method c below := by rw [hg]; exact X.here
  have hlocals9 : W9 + (maxL + 11) + (headSpec ws rm).room.locals ≤ R.locals := hlocals
  have happ : (headSpec ws rm).appliesLoose y e.platform (U.calling g mk a) = true :=
    Spec.appliesLoose_calling (g := g) h hdg hn hkY hinitY
      (X.room_calling (g := g) (R' := (headSpec ws rm).room) hsize hmY hcY hframes (by rw [hlY]; omega) h4 h5) h1
  obtain ⟨mid, hmid⟩ := h.above
  have hfr : (U.setTop g).frames = (.java g :: mid) ++ below := by rw [State.frames_setTop' g h.top, hmid]; rfl
  obtain ⟨o, s₂, hsteps, -, hend, hq⟩ := Steps.callFree hM p X.admits X.cas X.clock (acts := []) hfr happ hPc trivial
  have hq' : vx_Q Qc XC mc ms free a (U.calling g mk a) o s₂ := hq
  rw [State.frames_setTop' g h.top] at hend
  obtain ⟨g₀, hg0⟩ := Option.isSome_iff_exists.mp h.top
  obtain ⟨r, hr⟩ := State.topJava?_eq_some.mp hg0
  have hr' : (({ U with heap := s₂.heap, slotsUsed := s₂.slotsUsed } : State).setVm s₂.vm).frames = .java g₀ :: r := hr
  rcases hq' with ⟨hqc, L, hfe, hL⟩ | ⟨q, rfl, E, ce, L, hx, hce, hcv, hcl, hW₂, hsm, hL⟩
  · obtain ⟨⟨v, rfl⟩, hW₂, e2, q2, q3, q4, q5, q6⟩ := id hfe
    have e3 : s₂ = ({ (U.calling g mk a).setFrames s₂.frames with heap := s₂.heap, slotsUsed := s₂.slotsUsed } : State).setVm s₂.vm := by
      have : s₂ = ({ s₂ with vm := (U.calling g mk a).vm } : State).setVm s₂.vm := rfl
      rw [e2] at this
      exact this
    obtain ⟨c₂, i₂, len₂, hc₂, hd₂, hf₂⟩ := hend
    have hW' : U.WarmedH s₂.vm := hW₂
    have hcc : c₂ = c := by
      have h1 : s₂.code? g.method = U.code? g.method := by
        rw [State.code?_eq, State.code?_eq, hW'.alike.method?]
      exact Option.some.inj (hc₂.symm.trans (h1.trans h.code))
    subst hcc
    have hlen : len₂ = len := by rw [hdg] at hd₂; cases hd₂; rfl
    subst hlen
    have hs₂ : s₂ = (({ U with heap := s₂.heap, slotsUsed := s₂.slotsUsed } : State).setVm s₂.vm).setTop { g with pc := g.pc + len₂, stack := v.toList ++ g.stack } := by
      refine e3.trans ?_
      rw [hf₂, State.calling_eq h.top, State.setFrames_setFrames, State.setTop_of_frames _ hr', hr]
      rfl
    have hsame : U.sameButNew ({ U with heap := s₂.heap, slotsUsed := s₂.slotsUsed } : State) L mc ms := by
      refine ⟨?_, q2, q3, q4, q5, q6⟩
      obtain ⟨t, ht, -⟩ := State.frames_cons hr
      show ({ U with heap := s₂.heap, slotsUsed := s₂.slotsUsed } : State) = { U.setFrames U.frames with heap := s₂.heap, slotsUsed := s₂.slotsUsed }
      rw [State.setFrames_self ht]
    subst hg
    refine Or.inl ⟨v, ⟨(({ U with heap := s₂.heap, slotsUsed := s₂.slotsUsed } : State).setVm s₂.vm), Ls ++ L, c0 + mc, s0 + ms⟩,
      ⟨X.admits, X.cas, X.clock, X.frames, X.room, X.hears, X.method, X.code, (X.here.setHeapUsed s₂.heap s₂.slotsUsed).setVm hW'.alike, X.tail, State.WarmedH.trans X.warmed hW', X.limits, X.bytes, X.same.trans (hsame.setVm s.vm)⟩,
      ⟨g, mk, s₂, L, rfl, rfl, hqc, rfl, hL, rfl, rfl⟩, ?_⟩
    show Steps p.tables e below _ ((({ U with heap := s₂.heap, slotsUsed := s₂.slotsUsed } : State).setVm s₂.vm).setTop { g with pc := g.pc + len₂, stack := v.toList ++ g.stack })
    rw [← hs₂]
    exact hsteps
  · obtain ⟨e2, q2, q3, q4, q5, q6⟩ := id hsm
    have e3 : s₂ = ({ (U.calling g mk a).setFrames s₂.frames with heap := s₂.heap, slotsUsed := s₂.slotsUsed } : State).setVm s₂.vm := by
      have : s₂ = ({ s₂ with vm := (U.calling g mk a).vm } : State).setVm s₂.vm := rfl
      rw [e2] at this
      exact this
    have hf₂ : s₂.frames = .throwing q :: .java g :: U.frames.tail := hend
    have hW' : U.WarmedH s₂.vm := hW₂
    have hs₂ : s₂ = ((({ U with heap := s₂.heap, slotsUsed := s₂.slotsUsed } : State).setVm s₂.vm).setTop g).pushFrame (.throwing q) := by
      refine e3.trans ?_
      rw [hf₂, State.calling_eq h.top, State.setFrames_setFrames, State.pushFrame, State.frames_setTop _ hr', State.setTop_of_frames _ hr', State.setFrames_setFrames, hr]
      rfl
    have hsame : U.sameButNew ({ U with heap := s₂.heap, slotsUsed := s₂.slotsUsed } : State) L mc ms := by
      refine ⟨?_, q2, q3, q4, q5, q6⟩
      obtain ⟨t, ht, -⟩ := State.frames_cons hr
      show ({ U with heap := s₂.heap, slotsUsed := s₂.slotsUsed } : State) = { U.setFrames U.frames with heap := s₂.heap, slotsUsed := s₂.slotsUsed }
      rw [State.setFrames_self ht]
    subst hg
    refine Or.inr ⟨q, ⟨(({ U with heap := s₂.heap, slotsUsed := s₂.slotsUsed } : State).setVm s₂.vm), Ls ++ L, c0 + mc, s0 + ms⟩,
      ⟨X.admits, X.cas, X.clock, X.frames, X.room, X.hears, X.method, X.code, (X.here.setHeapUsed s₂.heap s₂.slotsUsed).setVm hW'.alike, X.tail, State.WarmedH.trans X.warmed hW', X.limits, X.bytes, X.same.trans (hsame.setVm s.vm)⟩,
      ⟨g, mk, s₂, L, E, ce, rfl, rfl, hx, hce, hcv, hcl, rfl, hL, rfl, rfl⟩, ?_⟩
    show Steps p.tables e below _ (((({ U with heap := s₂.heap, slotsUsed := s₂.slotsUsed } : State).setVm s₂.vm).setTop g).pushFrame (.throwing q))
    rw [← hs₂]
    exact hsteps
end Payer
section Calls
variable {p : Program} {l : Launch} {e : Env} {R : Room} {s : State} {m : MethodId} {args : Array Value} {below : List Frame} {meth : Method} {c : Code} {T : State} {locs : List Loc} {cells slots : Nat}
theorem vx_callV (X : Stand p l e R s m args below meth c T locs cells slots) (hexec : p.tables.exec = Jvm.exec) {own C : String} {index : Nat} {y : MethodName} {bytes : ByteArray} {maxL : Nat} {ret : Option FieldType}
    (hown : s.vm.findClass own = some m.cls) (hlink : (Cond.methodLink own index y).before args s = true) (hinst : (Cond.instanceMethod y).before args s = true) (hsel : (Cond.selects C y y).before args s = true)
    (hcode : (Cond.code y bytes maxL ret).before args s = true) (hy : y.cls ≠ "java/lang/invoke/MethodHandle" ∧ y.cls ≠ "java/lang/invoke/VarHandle")
    {W9 : Nat} {Pre : Pt → Array Value → Prop} {Post : Pt → Array Value → Option Value → Pt → Prop} {PostX : Pt → Array Value → Addr → Pt → Prop} (hK : vx_Back l R p e below s args y 3 W9 Pre Post PostX)
    {b : Addr} {cellB : Cell} (hcell : T.heap[b]? = some cellB) (hobj : cellB.vm.isStatics = false) (hcls : s.vm.findClass C = some cellB.cls)
    {g : JFrame} (hg : g.method = m) (hsize : g.locals.size = c.maxLocals) {argsL rest : List Value} (hlen : ∀ sig, parseMethodDescriptor y.desc = some sig → argsL.length = sig.parameters.length)
    (hstack : g.stack = argsL.reverse ++ .ref b :: rest) (hW : 2 * g.monitorRoom + (rest.map fun v => v.category).sum ≤ W9) (hdg : decode c.code g.pc = .ok (.invokevirtual index, 3))
    (hpre : ∀ vm₁, s.WarmedH vm₁ → Pre ⟨T.setVm vm₁, locs, cells, slots⟩ (Value.ref b :: argsL).toArray) :
    (∃ (v : Option Value) (vm₁ : Vm) (B : Pt), s.WarmedH vm₁ ∧ Stand p l e R s m args below meth c B.U B.locs B.cells B.slots ∧ Post ⟨T.setVm vm₁, locs, cells, slots⟩ (Value.ref b :: argsL).toArray v B ∧
      ∀ target, Steps p.tables e below (B.U.setTop { g with pc := g.pc + 3, stack := v.toList ++ rest }) target → Steps p.tables e below (T.setTop g) target) ∨
    (∃ (q : Addr) (vm₁ : Vm) (B : Pt), s.WarmedH vm₁ ∧ Stand p l e R s m args below meth c B.U B.locs B.cells B.slots ∧ PostX ⟨T.setVm vm₁, locs, cells, slots⟩ (Value.ref b :: argsL).toArray q B ∧
      Steps p.tables e below (T.setTop g) ((B.U.setTop { g with stack := rest }).pushFrame (.throwing q))) := by
  obtain ⟨mk, methM, hnamed, hmethM, hstM, habM⟩ := Cond.instanceMethod_spec hinst
  obtain ⟨methM', cM, hmethM', -, -, -, -, -, -, hsigM⟩ := Cond.code_spec hnamed hcode
  cases hmethM.symm.trans hmethM'
  obtain ⟨c2, r2, m2, q1, q2, q3, q4, kP, hkP, hkPi⟩ := Cond.selects_spec hsel
  cases hcls.symm.trans q1
  cases (State.methodFound?_of_named hnamed hy).symm.trans q2
  cases hnamed.symm.trans q3
  have hselP : selectMethod e.platform s.vm cellB.cls mk = .method mk := by rw [Launch.admits_selectMethod X.admits]; exact q4
  obtain ⟨vm₁, X₁, hstep₁⟩ := X.invokevirtual hexec hown hlink hnamed hmethM hstM hkP hkPi hy (a := b) (cell := cellB) hcell
    (fun z h => by rw [h] at hobj; cases hobj) hselP hmethM habM hkP hkPi (g := g) hg (argsL := argsL) (rest := rest) (hlen _ hsigM) hstack hdg
  rcases hK m meth c ⟨T.setVm vm₁, locs, cells, slots⟩ { g with stack := rest } (.invokevirtual index) mk (Value.ref b :: argsL).toArray X₁ hg hsize hdg hW (X₁.named hnamed) (hpre vm₁ X₁.warmed) with ⟨v, B, X', hpost, hsteps⟩ | ⟨q, B, X', hpost, hsteps⟩
  · exact Or.inl ⟨v, vm₁, B, X₁.warmed, X', hpost, fun target h => hstep₁ _ fun acts => by rw [doInvoke_state]; exact hsteps.trans h⟩
  · exact Or.inr ⟨q, vm₁, B, X₁.warmed, X', hpost, hstep₁ _ fun acts => by rw [doInvoke_state]; exact hsteps⟩
theorem vx_callS (X : Stand p l e R s m args below meth c T locs cells slots) (hexec : p.tables.exec = Jvm.exec) {own : String} {index : Nat} {y : MethodName} {bytes : ByteArray} {maxL : Nat} {ret : Option FieldType}
    (hown : s.vm.findClass own = some m.cls) (hlink : (Cond.methodLink own index y).before args s = true) (hstat : (Cond.static y).before args s = true) (hinit : (Cond.initialized y.cls).before args s = true)
    (hcode : (Cond.code y bytes maxL ret).before args s = true) (hy : y.cls ≠ "java/lang/invoke/MethodHandle" ∧ y.cls ≠ "java/lang/invoke/VarHandle")
    {W9 : Nat} {Pre : Pt → Array Value → Prop} {Post : Pt → Array Value → Option Value → Pt → Prop} {PostX : Pt → Array Value → Addr → Pt → Prop} (hK : vx_Back l R p e below s args y 3 W9 Pre Post PostX)
    {g : JFrame} (hg : g.method = m) (hsize : g.locals.size = c.maxLocals) {argsL rest : List Value} (hlen : ∀ sig, parseMethodDescriptor y.desc = some sig → argsL.length = sig.parameters.length)
    (hstack : g.stack = argsL.reverse ++ rest) (hW : 2 * g.monitorRoom + (rest.map fun v => v.category).sum ≤ W9) (hdg : decode c.code g.pc = .ok (.invokestatic index, 3))
    (hpre : ∀ vm₁, s.WarmedH vm₁ → Pre ⟨T.setVm vm₁, locs, cells, slots⟩ argsL.toArray) :
    (∃ (v : Option Value) (vm₁ : Vm) (B : Pt), s.WarmedH vm₁ ∧ Stand p l e R s m args below meth c B.U B.locs B.cells B.slots ∧ Post ⟨T.setVm vm₁, locs, cells, slots⟩ argsL.toArray v B ∧
      ∀ target, Steps p.tables e below (B.U.setTop { g with pc := g.pc + 3, stack := v.toList ++ rest }) target → Steps p.tables e below (T.setTop g) target) ∨
    (∃ (q : Addr) (vm₁ : Vm) (B : Pt), s.WarmedH vm₁ ∧ Stand p l e R s m args below meth c B.U B.locs B.cells B.slots ∧ PostX ⟨T.setVm vm₁, locs, cells, slots⟩ argsL.toArray q B ∧
      Steps p.tables e below (T.setTop g) ((B.U.setTop { g with stack := rest }).pushFrame (.throwing q))) := by
  obtain ⟨mk, hnamed⟩ := Cond.code_named hcode
  obtain ⟨methM, cM, hmethM, -, -, -, -, -, -, hsigM⟩ := Cond.code_spec hnamed hcode
  have hstatic : methM.isStatic = true := Cond.static_spec hnamed hmethM hstat
  obtain ⟨kP, hkP, -⟩ := className_of_methodNamed hnamed
  have hinitP : kP.init = .initialized := Cond.initialized_spec (findClass_of_methodNamed hnamed) hkP hinit
  obtain ⟨vm₁, X₁, hstep₁⟩ := X.invokestatic hexec hown hlink hnamed hmethM hstatic hkP hinitP hy (g := g) hg (argsL := argsL) (rest := rest) (hlen _ hsigM) hstack hdg
  rcases hK m meth c ⟨T.setVm vm₁, locs, cells, slots⟩ { g with stack := rest } (.invokestatic index) mk argsL.toArray X₁ hg hsize hdg hW (X₁.named hnamed) (hpre vm₁ X₁.warmed) with ⟨v, B, X', hpost, hsteps⟩ | ⟨q, B, X', hpost, hsteps⟩
  · exact Or.inl ⟨v, vm₁, B, X₁.warmed, X', hpost, fun target h => hstep₁ _ fun acts => by rw [doInvoke_state]; exact hsteps.trans h⟩
  · exact Or.inr ⟨q, vm₁, B, X₁.warmed, X', hpost, hstep₁ _ fun acts => by rw [doInvoke_state]; exact hsteps⟩
end Calls
theorem vx_cls {s : State} {T : State} {vm₁ : Vm} {E : String} {k : ClassId} (hW : s.WarmedH vm₁) (h : (T.setVm vm₁).vm.findClass E = some k) : s.vm.findClass E = some k := by
  have h1 : vm₁.findClass E = some k := h
  rw [hW.alike.findClass] at h1
  exact h1
/-- the method's frame g, with q thrown over it -/
def vx_W (p : Program) (l : Launch) (e : Env) (R : Room) (s : State) (m : MethodId) (args : Array Value) (below : List Frame) (meth : Method) (c : Code) (H : Heap) (locs : List Loc) (cells slots : Nat) (Q : State → Prop) (g : JFrame) (q : Addr) : Prop :=
  ∀ T : State, T.heap = H → Stand p l e R s m args below meth c T locs cells slots → ∃ t, Steps p.tables e below ((T.setTop g).pushFrame (.throwing q)) t ∧ Q t
def vx_Run (p : Program) (l : Launch) (e : Env) (R : Room) (s : State) (m : MethodId) (args : Array Value) (below : List Frame) (meth : Method) (c : Code) (H : Heap) (locs : List Loc) (cells slots mc ms : Nat) (g : JFrame) (rest : List Value) (Qa : State → Outcome → State → Prop) (XC : String → State → State → Prop) (free : Addr → Prop) : Prop :=
  ∀ T : State, T.heap = H → Stand p l e R s m args below meth c T locs cells slots →
    (∃ (v : Option Value) (st₀ t T' : State) (L : List Loc), st₀.heap = H ∧ Stand p l e R s m args below meth c T' (locs ++ L) (cells + mc) (slots + ms) ∧ (∀ q ∈ L, free q.base) ∧ T'.heap = t.heap ∧ T'.vm = t.vm ∧ Qa st₀ (.returned v) t ∧
      Goes p e below T g T' { g with pc := g.pc + 3, stack := v.toList ++ rest }) ∨
    (∃ (q : Addr) (st₀ t T' : State) (L : List Loc) (E : String) (ce : Cell), st₀.heap = H ∧ Stand p l e R s m args below meth c T' (locs ++ L) (cells + mc) (slots + ms) ∧ (∀ z ∈ L, free z.base) ∧ T'.heap = t.heap ∧ T'.vm = t.vm ∧ XC E st₀ t ∧ t.heap[q]? = some ce ∧ ce.vm = .none ∧ s.vm.findClass E = some ce.cls ∧
      Steps p.tables e below (T.setTop g) ((T'.setTop { g with stack := rest }).pushFrame (.throwing q)))
def vx_X {S : Type} (px : S → Prop) (B : String → S → State → Prop) (A : Nat → Prop) : String → State → State → Prop := fun E st t => ∃ u : S, px u ∧ B E u t ∧ va_F A st t
section Runs
variable {p : Program} {l : Launch} {e : Env} {R : Room} {s : State} {m : MethodId} {args : Array Value} {below : List Frame} {meth : Method} {c : Code} {H : Heap} {locs : List Loc} {cells slots : Nat}
variable {y : MethodName} {bytes cc : ByteArray} {maxL nL mc ms n index : Nat} {ret : Option FieldType} {ws : List Cond} {rm : Room} {Pc : Array Value → State → Prop} {Qc : Array Value → State → Outcome → State → Prop} {XC : String → State → State → Prop} {free : Addr → Prop} {Ts : List Cond} {own C : String} {b : Addr} {As rest : List Value} {g : JFrame}
theorem vx_callBack (cb : CallB R s args own index y bytes maxL ret ws rm mc ms n) (hM : vx_Met l y ws rm Pc Qc XC mc ms free) (hbl : FrameBlind Pc) : vx_Back l R p e below s args y 3 8 (PreOf R mc ms Pc) (PostOf Qc mc ms free) (vx_Post XC mc ms free) := by
  obtain ⟨hrc, hrs, hfr, hlo, hws, hcw, -, hini, -⟩ := cb
  exact vx_back (bytes := bytes) (maxL := maxL) (ret := ret) hM hbl hrc hrs hfr hlo hws hcw (fun a' U hW => word_at hW (Or.inl (by first | rfl | simp [Cond.onTables, Cond.keeps, Cond.steady])) hini)
theorem vx_runV (S : CallFix p m c cc nL s args Ts own) (hM : vx_Met l y ws rm Pc Qc XC mc ms free) (cw : CallW R s args own C index y bytes maxL ret ws rm mc ms n) (hp : PreV s H C b Pc As)
    (hg : g.method = m) (hn : As.length = n) (hsize : g.locals.size = nL) (hstack : g.stack = As.reverse ++ .ref b :: rest) (hW : 2 * g.monitorRoom + (rest.map fun v => v.category).sum ≤ 8) (hdg : decode cc g.pc = .ok (.invokevirtual index, 3)) (hf : cells + mc ≤ R.cells ∧ slots + ms ≤ R.slots) :
    vx_Run p l e R s m args below meth c H locs cells slots mc ms g rest (Qc (Value.ref b :: As).toArray) XC free := by
  have hK : vx_Back l R p e below s args y 3 8 (PreOf R mc ms Pc) (PostOf Qc mc ms free) (vx_Post XC mc ms free) := vx_callBack cw.1 hM hp.1
  obtain ⟨⟨-, -, -, -, -, -, hcode, -, hy, hlen, hl⟩, hin, hse⟩ := cw
  obtain ⟨hx, hb, hml, ho, -⟩ := S
  obtain ⟨-, ⟨cellB, hcB, hoB, hclB⟩, hPc⟩ := hp
  intro T hT X
  rcases vx_callV X hx (C := C) (bytes := bytes) (maxL := maxL) (ret := ret) ho hl hin hse hcode hy hK (by rw [hT]; exact hcB) hoB hclB hg (hsize.trans hml.symm) (argsL := As) (rest := rest) (fun sig h => hn.trans (hlen sig h)) hstack hW (by rw [hb]; exact hdg)
    (fun vm₁ hW₁ => ⟨hf.1, hf.2, hPc (T.setVm vm₁) hT hW₁⟩) with ⟨v, vm₁, ⟨U', l2, c2, s2⟩, hW₁, X', ⟨g', mk, t, L, e1, e2, hq, h1, hL, h2, h3⟩, st⟩ | ⟨q, vm₁, ⟨U', l2, c2, s2⟩, hW₁, X', ⟨g', mk, t, L, E, ce, e1, e2, hq, hce, hcv, hcl, h1, hL, h2, h3⟩, st⟩
  · dsimp only [Pt.U, Pt.locs, Pt.cells, Pt.slots] at X' e1 e2 h1 h2 h3 st
    subst h1; subst h2; subst h3
    exact Or.inl ⟨v, (T.setVm vm₁).calling g' mk (Value.ref b :: As).toArray, t, U', L, hT, X', hL, e1, e2, hq, st⟩
  · dsimp only [Pt.U, Pt.locs, Pt.cells, Pt.slots] at X' e1 e2 h1 h2 h3 st hcl
    subst h1; subst h2; subst h3
    exact Or.inr ⟨q, (T.setVm vm₁).calling g' mk (Value.ref b :: As).toArray, t, U', L, E, ce, hT, X', hL, e1, e2, hq, hce, hcv, vx_cls hW₁ hcl, st⟩
theorem vx_runS (S : CallFix p m c cc nL s args Ts own) (hM : vx_Met l y ws rm Pc Qc XC mc ms free) (cw : CallB R s args own index y bytes maxL ret ws rm mc ms n ∧ (Cond.static y).before args s = true) (hp : PreS s H Pc As)
    (hg : g.method = m) (hn : As.length = n) (hsize : g.locals.size = nL) (hstack : g.stack = As.reverse ++ rest) (hW : 2 * g.monitorRoom + (rest.map fun v => v.category).sum ≤ 8) (hdg : decode cc g.pc = .ok (.invokestatic index, 3)) (hf : cells + mc ≤ R.cells ∧ slots + ms ≤ R.slots) :
    vx_Run p l e R s m args below meth c H locs cells slots mc ms g rest (Qc As.toArray) XC free := by
  have hK : vx_Back l R p e below s args y 3 8 (PreOf R mc ms Pc) (PostOf Qc mc ms free) (vx_Post XC mc ms free) := vx_callBack cw.1 hM hp.1
  obtain ⟨⟨-, -, -, -, -, -, hcode, hini, hy, hlen, hl⟩, hstt⟩ := cw
  obtain ⟨hx, hb, hml, ho, -⟩ := S
  intro T hT X
  rcases vx_callS X hx (bytes := bytes) (maxL := maxL) (ret := ret) ho hl hstt hini hcode hy hK hg (hsize.trans hml.symm) (argsL := As) (rest := rest) (fun sig h => hn.trans (hlen sig h)) hstack hW (by rw [hb]; exact hdg)
    (fun vm₁ hW₁ => ⟨hf.1, hf.2, hp.2 (T.setVm vm₁) hT hW₁⟩) with ⟨v, vm₁, ⟨U', l2, c2, s2⟩, hW₁, X', ⟨g', mk, t, L, e1, e2, hq, h1, hL, h2, h3⟩, st⟩ | ⟨q, vm₁, ⟨U', l2, c2, s2⟩, hW₁, X', ⟨g', mk, t, L, E, ce, e1, e2, hq, hce, hcv, hcl, h1, hL, h2, h3⟩, st⟩
  · dsimp only [Pt.U, Pt.locs, Pt.cells, Pt.slots] at X' e1 e2 h1 h2 h3 st
    subst h1; subst h2; subst h3
    exact Or.inl ⟨v, (T.setVm vm₁).calling g' mk As.toArray, t, U', L, hT, X', hL, e1, e2, hq, st⟩
  · dsimp only [Pt.U, Pt.locs, Pt.cells, Pt.slots] at X' e1 e2 h1 h2 h3 st hcl
    subst h1; subst h2; subst h3
    exact Or.inr ⟨q, (T.setVm vm₁).calling g' mk As.toArray, t, U', L, E, ce, hT, X', hL, e1, e2, hq, hce, hcv, vx_cls hW₁ hcl, st⟩
end Runs
section Rows
variable {p : Program} {l : Launch} {e : Env} {R : Room} {s : State} {m : MethodId} {args : Array Value} {below : List Frame} {meth : Method} {c : Code} {H : Heap} {locs : List Loc} {cells slots : Nat} {Q : State → Prop}
variable {mc ms : Nat} {free : Addr → Prop} {A0 A1 : Nat → Prop} {H0 : Heap} {a : Array Value} {pc : Nat} {ls : Array Slot} {st0 rest : List Value}
theorem vx_keep {st₀ t T' : State} {L : List Loc} (h0 : st₀.heap = H) (e1 : T'.heap = t.heap) (hS : va_S A0 H0 H locs) (hA : ∀ q, q < H.size → A1 q → A0 q) (hf : ∀ q, free q → A0 q) (hL : ∀ q ∈ L, free q.base) (hF : va_F A1 st₀ t) :
    H.size ≤ T'.heap.size ∧ (∀ q : Nat, q < H.size → ¬ A1 q → T'.heap[q]? = H[q]?) ∧ va_S A0 H0 T'.heap (locs ++ L) := by
  obtain ⟨hz, hk⟩ := hF
  rw [h0] at hz hk
  exact ⟨by rw [e1]; exact hz, fun q h1 h2 => by rw [e1]; exact hk q h1 h2,
    ⟨Nat.le_trans hS.1 (by rw [e1]; exact hz), fun q h1 h2 => by rw [e1, hk q (Nat.lt_of_lt_of_le h1 hS.1) (fun z => h2 (hA q (Nat.lt_of_lt_of_le h1 hS.1) z))]; exact hS.2.1 q h1 h2, fun q hq => by
      rcases List.mem_append.mp hq with h | h
      · exact hS.2.2 q h
      · exact hf _ (hL q h)⟩⟩
theorem vx_calli {S SX : Type} {post : Int32 → S → Prop} {px : SX → Prop} {B : S → State → Prop} {BX : String → SX → State → Prop} {AX : Nat → Prop} (hr : vx_Run p l e R s m args below meth c H locs cells slots mc ms (F0 m pc ls st0) rest (va_Qi post B A1 a) (vx_X px BX AX) free) (hS : va_S A0 H0 H locs) (hA : ∀ q, q < H.size → A1 q → A0 q) (hf : ∀ q, free q → A0 q) (hAX : ∀ q, q < H.size → AX q → A0 q)
    (kx : ∀ (E : String) (ce : Cell) (q9 : Addr) (u : SX) (t : State) (H1 : Heap) (locs1 : List Loc), t.heap = H1 → s.vm.Alike t.vm → px u → BX E u t → H.size ≤ H1.size → (∀ q : Nat, q < H.size → ¬ AX q → H1[q]? = H[q]?) → va_S A0 H0 H1 locs1 → H1[q9]? = some ce → ce.vm = .none → s.vm.findClass E = some ce.cls → vx_W p l e R s m args below meth c H1 locs1 (cells + mc) (slots + ms) Q (F0 m pc ls rest) q9)
    (kk : ∀ (r : Int32) (u : S) (t : State) (H1 : Heap) (locs1 : List Loc), t.heap = H1 → s.vm.Alike t.vm → post r u → B u t → H.size ≤ H1.size → (∀ q : Nat, q < H.size → ¬ A1 q → H1[q]? = H[q]?) → va_S A0 H0 H1 locs1 → W p l e R s m args below meth c H1 locs1 (cells + mc) (slots + ms) Q (F0 m (pc + 3) ls (.int r :: rest))) : W p l e R s m args below meth c H locs cells slots Q (F0 m pc ls st0) := by
  intro T hT X
  rcases hr T hT X with ⟨v, st₀, t, T', L, h0, X', hL, e1, e2, ⟨⟨r, u, hv, hp, hb⟩, hF⟩, st⟩ | ⟨q, st₀, t, T', L, E, ce, h0, X', hL, e1, e2, ⟨u, hp, hb, hF⟩, hce, hcv, hcl, st⟩
  · cases hv
    obtain ⟨k1, k2, k3⟩ := vx_keep h0 e1 hS hA hf hL hF
    obtain ⟨t2, a1, b1⟩ := kk r u t T'.heap (locs ++ L) e1.symm (by rw [← e2]; exact X'.warmed.alike) hp hb k1 k2 k3 T' rfl X'
    exact ⟨t2, st t2 a1, b1⟩
  · obtain ⟨k1, k2, k3⟩ := vx_keep h0 e1 hS hAX hf hL hF
    obtain ⟨t2, a1, b1⟩ := kx E ce q u t T'.heap (locs ++ L) e1.symm (by rw [← e2]; exact X'.warmed.alike) hp hb k1 k2 k3 (by rw [e1]; exact hce) hcv hcl T' rfl X'
    exact ⟨t2, st.trans a1, b1⟩
theorem vx_calll {S SX : Type} {post : Int64 → S → Prop} {px : SX → Prop} {B : S → State → Prop} {BX : String → SX → State → Prop} {AX : Nat → Prop} (hr : vx_Run p l e R s m args below meth c H locs cells slots mc ms (F0 m pc ls st0) rest (va_Ql post B A1 a) (vx_X px BX AX) free) (hS : va_S A0 H0 H locs) (hA : ∀ q, q < H.size → A1 q → A0 q) (hf : ∀ q, free q → A0 q) (hAX : ∀ q, q < H.size → AX q → A0 q)
    (kx : ∀ (E : String) (ce : Cell) (q9 : Addr) (u : SX) (t : State) (H1 : Heap) (locs1 : List Loc), t.heap = H1 → s.vm.Alike t.vm → px u → BX E u t → H.size ≤ H1.size → (∀ q : Nat, q < H.size → ¬ AX q → H1[q]? = H[q]?) → va_S A0 H0 H1 locs1 → H1[q9]? = some ce → ce.vm = .none → s.vm.findClass E = some ce.cls → vx_W p l e R s m args below meth c H1 locs1 (cells + mc) (slots + ms) Q (F0 m pc ls rest) q9)
    (kk : ∀ (r : Int64) (u : S) (t : State) (H1 : Heap) (locs1 : List Loc), t.heap = H1 → s.vm.Alike t.vm → post r u → B u t → H.size ≤ H1.size → (∀ q : Nat, q < H.size → ¬ A1 q → H1[q]? = H[q]?) → va_S A0 H0 H1 locs1 → W p l e R s m args below meth c H1 locs1 (cells + mc) (slots + ms) Q (F0 m (pc + 3) ls (.long r :: rest))) : W p l e R s m args below meth c H locs cells slots Q (F0 m pc ls st0) := by
  intro T hT X
  rcases hr T hT X with ⟨v, st₀, t, T', L, h0, X', hL, e1, e2, ⟨⟨r, u, hv, hp, hb⟩, hF⟩, st⟩ | ⟨q, st₀, t, T', L, E, ce, h0, X', hL, e1, e2, ⟨u, hp, hb, hF⟩, hce, hcv, hcl, st⟩
  · cases hv
    obtain ⟨k1, k2, k3⟩ := vx_keep h0 e1 hS hA hf hL hF
    obtain ⟨t2, a1, b1⟩ := kk r u t T'.heap (locs ++ L) e1.symm (by rw [← e2]; exact X'.warmed.alike) hp hb k1 k2 k3 T' rfl X'
    exact ⟨t2, st t2 a1, b1⟩
  · obtain ⟨k1, k2, k3⟩ := vx_keep h0 e1 hS hAX hf hL hF
    obtain ⟨t2, a1, b1⟩ := kx E ce q u t T'.heap (locs ++ L) e1.symm (by rw [← e2]; exact X'.warmed.alike) hp hb k1 k2 k3 (by rw [e1]; exact hce) hcv hcl T' rfl X'
    exact ⟨t2, st.trans a1, b1⟩
theorem vx_callf {S SX : Type} {post : UInt32 → S → Prop} {px : SX → Prop} {B : S → State → Prop} {BX : String → SX → State → Prop} {AX : Nat → Prop} (hr : vx_Run p l e R s m args below meth c H locs cells slots mc ms (F0 m pc ls st0) rest (va_Qf post B A1 a) (vx_X px BX AX) free) (hS : va_S A0 H0 H locs) (hA : ∀ q, q < H.size → A1 q → A0 q) (hf : ∀ q, free q → A0 q) (hAX : ∀ q, q < H.size → AX q → A0 q)
    (kx : ∀ (E : String) (ce : Cell) (q9 : Addr) (u : SX) (t : State) (H1 : Heap) (locs1 : List Loc), t.heap = H1 → s.vm.Alike t.vm → px u → BX E u t → H.size ≤ H1.size → (∀ q : Nat, q < H.size → ¬ AX q → H1[q]? = H[q]?) → va_S A0 H0 H1 locs1 → H1[q9]? = some ce → ce.vm = .none → s.vm.findClass E = some ce.cls → vx_W p l e R s m args below meth c H1 locs1 (cells + mc) (slots + ms) Q (F0 m pc ls rest) q9)
    (kk : ∀ (r : UInt32) (u : S) (t : State) (H1 : Heap) (locs1 : List Loc), t.heap = H1 → s.vm.Alike t.vm → post r u → B u t → H.size ≤ H1.size → (∀ q : Nat, q < H.size → ¬ A1 q → H1[q]? = H[q]?) → va_S A0 H0 H1 locs1 → W p l e R s m args below meth c H1 locs1 (cells + mc) (slots + ms) Q (F0 m (pc + 3) ls (.float r :: rest))) : W p l e R s m args below meth c H locs cells slots Q (F0 m pc ls st0) := by
  intro T hT X
  rcases hr T hT X with ⟨v, st₀, t, T', L, h0, X', hL, e1, e2, ⟨⟨r, u, hv, hp, hb⟩, hF⟩, st⟩ | ⟨q, st₀, t, T', L, E, ce, h0, X', hL, e1, e2, ⟨u, hp, hb, hF⟩, hce, hcv, hcl, st⟩
  · cases hv
    obtain ⟨k1, k2, k3⟩ := vx_keep h0 e1 hS hA hf hL hF
    obtain ⟨t2, a1, b1⟩ := kk r u t T'.heap (locs ++ L) e1.symm (by rw [← e2]; exact X'.warmed.alike) hp hb k1 k2 k3 T' rfl X'
    exact ⟨t2, st t2 a1, b1⟩
  · obtain ⟨k1, k2, k3⟩ := vx_keep h0 e1 hS hAX hf hL hF
    obtain ⟨t2, a1, b1⟩ := kx E ce q u t T'.heap (locs ++ L) e1.symm (by rw [← e2]; exact X'.warmed.alike) hp hb k1 k2 k3 (by rw [e1]; exact hce) hcv hcl T' rfl X'
    exact ⟨t2, st.trans a1, b1⟩
theorem vx_calld {S SX : Type} {post : UInt64 → S → Prop} {px : SX → Prop} {B : S → State → Prop} {BX : String → SX → State → Prop} {AX : Nat → Prop} (hr : vx_Run p l e R s m args below meth c H locs cells slots mc ms (F0 m pc ls st0) rest (va_Qd post B A1 a) (vx_X px BX AX) free) (hS : va_S A0 H0 H locs) (hA : ∀ q, q < H.size → A1 q → A0 q) (hf : ∀ q, free q → A0 q) (hAX : ∀ q, q < H.size → AX q → A0 q)
    (kx : ∀ (E : String) (ce : Cell) (q9 : Addr) (u : SX) (t : State) (H1 : Heap) (locs1 : List Loc), t.heap = H1 → s.vm.Alike t.vm → px u → BX E u t → H.size ≤ H1.size → (∀ q : Nat, q < H.size → ¬ AX q → H1[q]? = H[q]?) → va_S A0 H0 H1 locs1 → H1[q9]? = some ce → ce.vm = .none → s.vm.findClass E = some ce.cls → vx_W p l e R s m args below meth c H1 locs1 (cells + mc) (slots + ms) Q (F0 m pc ls rest) q9)
    (kk : ∀ (r : UInt64) (u : S) (t : State) (H1 : Heap) (locs1 : List Loc), t.heap = H1 → s.vm.Alike t.vm → post r u → B u t → H.size ≤ H1.size → (∀ q : Nat, q < H.size → ¬ A1 q → H1[q]? = H[q]?) → va_S A0 H0 H1 locs1 → W p l e R s m args below meth c H1 locs1 (cells + mc) (slots + ms) Q (F0 m (pc + 3) ls (.double r :: rest))) : W p l e R s m args below meth c H locs cells slots Q (F0 m pc ls st0) := by
  intro T hT X
  rcases hr T hT X with ⟨v, st₀, t, T', L, h0, X', hL, e1, e2, ⟨⟨r, u, hv, hp, hb⟩, hF⟩, st⟩ | ⟨q, st₀, t, T', L, E, ce, h0, X', hL, e1, e2, ⟨u, hp, hb, hF⟩, hce, hcv, hcl, st⟩
  · cases hv
    obtain ⟨k1, k2, k3⟩ := vx_keep h0 e1 hS hA hf hL hF
    obtain ⟨t2, a1, b1⟩ := kk r u t T'.heap (locs ++ L) e1.symm (by rw [← e2]; exact X'.warmed.alike) hp hb k1 k2 k3 T' rfl X'
    exact ⟨t2, st t2 a1, b1⟩
  · obtain ⟨k1, k2, k3⟩ := vx_keep h0 e1 hS hAX hf hL hF
    obtain ⟨t2, a1, b1⟩ := kx E ce q u t T'.heap (locs ++ L) e1.symm (by rw [← e2]; exact X'.warmed.alike) hp hb k1 k2 k3 (by rw [e1]; exact hce) hcv hcl T' rfl X'
    exact ⟨t2, st.trans a1, b1⟩
theorem vx_callv {S SX : Type} {post : S → Prop} {px : SX → Prop} {B : S → State → Prop} {BX : String → SX → State → Prop} {AX : Nat → Prop} (hr : vx_Run p l e R s m args below meth c H locs cells slots mc ms (F0 m pc ls st0) rest (va_Qv post B A1 a) (vx_X px BX AX) free) (hS : va_S A0 H0 H locs) (hA : ∀ q, q < H.size → A1 q → A0 q) (hf : ∀ q, free q → A0 q) (hAX : ∀ q, q < H.size → AX q → A0 q)
    (kx : ∀ (E : String) (ce : Cell) (q9 : Addr) (u : SX) (t : State) (H1 : Heap) (locs1 : List Loc), t.heap = H1 → s.vm.Alike t.vm → px u → BX E u t → H.size ≤ H1.size → (∀ q : Nat, q < H.size → ¬ AX q → H1[q]? = H[q]?) → va_S A0 H0 H1 locs1 → H1[q9]? = some ce → ce.vm = .none → s.vm.findClass E = some ce.cls → vx_W p l e R s m args below meth c H1 locs1 (cells + mc) (slots + ms) Q (F0 m pc ls rest) q9)
    (kk : ∀ (u : S) (t : State) (H1 : Heap) (locs1 : List Loc), t.heap = H1 → s.vm.Alike t.vm → post u → B u t → H.size ≤ H1.size → (∀ q : Nat, q < H.size → ¬ A1 q → H1[q]? = H[q]?) → va_S A0 H0 H1 locs1 → W p l e R s m args below meth c H1 locs1 (cells + mc) (slots + ms) Q (F0 m (pc + 3) ls (rest))) : W p l e R s m args below meth c H locs cells slots Q (F0 m pc ls st0) := by
  intro T hT X
  rcases hr T hT X with ⟨v, st₀, t, T', L, h0, X', hL, e1, e2, ⟨⟨u, hv, hp, hb⟩, hF⟩, st⟩ | ⟨q, st₀, t, T', L, E, ce, h0, X', hL, e1, e2, ⟨u, hp, hb, hF⟩, hce, hcv, hcl, st⟩
  · cases hv
    obtain ⟨k1, k2, k3⟩ := vx_keep h0 e1 hS hA hf hL hF
    obtain ⟨t2, a1, b1⟩ := kk u t T'.heap (locs ++ L) e1.symm (by rw [← e2]; exact X'.warmed.alike) hp hb k1 k2 k3 T' rfl X'
    exact ⟨t2, st t2 a1, b1⟩
  · obtain ⟨k1, k2, k3⟩ := vx_keep h0 e1 hS hAX hf hL hF
    obtain ⟨t2, a1, b1⟩ := kx E ce q u t T'.heap (locs ++ L) e1.symm (by rw [← e2]; exact X'.warmed.alike) hp hb k1 k2 k3 (by rw [e1]; exact hce) hcv hcl T' rfl X'
    exact ⟨t2, st.trans a1, b1⟩
/-- caught by the row x of this method's table; the rows ahead don't take it -/
theorem vx_catch {own name : String} {E : String} {ce : Cell} {q : Addr} (hown : s.vm.findClass own = some m.cls) (pre : List ExceptionTableEntry) (x : ExceptionTableEntry) (suf : List ExceptionTableEntry) (hsplit : c.exceptionTable.toList = pre ++ x :: suf)
    (hpass : ∀ z ∈ pre, covers z pc = false ∨ (z.catchType ≠ 0 ∧ ∃ nm : String, (Cond.classLink own z.catchType nm).before args s = true ∧ va_Nc E nm s)) (hx : covers x pc = true) (h0 : x.catchType ≠ 0)
    (hlink : (Cond.classLink own x.catchType name).before args s = true) (hcast : (Cond.castable E name).before args s = true) (hcell : H[q]? = some ce) (hv : ce.vm = .none) (hcl : s.vm.findClass E = some ce.cls)
    (kk : W p l e R s m args below meth c H locs cells slots Q (F0 m x.handlerPc ls [.ref q])) : vx_W p l e R s m args below meth c H locs cells slots Q (F0 m pc ls rest) q := by
  intro T hT X
  have hpl : e.platform.magicAccessors = ({} : Platform).magicAccessors := by rw [X.admits.platform]
  obtain ⟨c3, c4, hc3, hc4, hasg⟩ := Cond.castable_spec hcast
  cases Option.some.inj (hc3.symm.trans hcl)
  obtain ⟨c5, hc5, hcl5⟩ := Cond.classLink_spec hown hlink e.platform hpl
  cases Option.some.inj (hc4.symm.trans hc5)
  obtain ⟨vm', X', st⟩ := X.thenCaughtThrough q (g := F0 m pc ls rest) rfl (Steps.refl _) (by rw [hT]; exact hcell) (by rw [hv]; rfl) (by obtain ⟨k9, h9, -⟩ := Vm.findClass_spec hcl; exact ⟨k9, h9⟩) pre x suf hsplit
    (fun z hz => by
      rcases hpass z hz with h | ⟨hz0, nm, hl1, hn1⟩
      · exact Or.inl h
      · obtain ⟨c6, hc6, hcl6⟩ := Cond.classLink_spec hown hl1 e.platform hpl
        obtain ⟨a8, b8, h1, h2, h3⟩ := hn1
        cases Option.some.inj (h1.symm.trans hcl)
        cases Option.some.inj (h2.symm.trans hc6)
        exact Or.inr ⟨hz0, _, hcl6, h3⟩) hx (Or.inr ⟨h0, c4, hcl5, hasg⟩)
  obtain ⟨t, a1, b1⟩ := kk (T.setVm vm') hT X'
  exact ⟨t, st.trans a1, b1⟩
end Rows
section Ends
variable {p : Program} {l : Launch} {e : Env} {R : Room} {s : State} {m : MethodId} {args : Array Value} {below : List Frame} {meth : Method} {c : Code} {H : Heap} {locs : List Loc} {cells slots : Nat} {Q : State → Prop}
variable {mc ms : Nat} {free : Addr → Prop} {A0 A1 : Nat → Prop} {H0 : Heap} {a : Array Value} {ls : Array Slot} {st0 rest : List Value}
variable {Qc : Array Value → State → Outcome → State → Prop} {XC : String → State → State → Prop}
/-- what a body that may throw owes at its end -/
def vx_MQ (below : List Frame) (Qc : Array Value → State → Outcome → State → Prop) (XC : String → State → State → Prop) (a : Array Value) (s : State) (mc ms : Nat) (free : Addr → Prop) : State → Prop := fun t =>
  ∃ o, t.status = .running ∧ Ended t below o ∧ vx_Q Qc XC mc ms free a s o t
theorem vx_ret {g : JFrame} {mc ms : Nat} (k : W p l e R s m args below meth c H locs cells slots (MQ below Qc args s mc ms free) g) : W p l e R s m args below meth c H locs cells slots (vx_MQ below Qc XC args s mc ms free) g := by
  intro T hT X
  obtain ⟨t, a1, o, b1, b2, b3, b4⟩ := k T hT X
  exact ⟨t, a1, o, b1, b2, Or.inl ⟨b3, b4⟩⟩
/-- not caught here: it goes on to the caller -/
theorem vx_widen {g : JFrame} {q : Addr} {k n : Nat} (h1 : cells ≤ k) (h2 : slots ≤ n) (kk : vx_W p l e R s m args below meth c H locs k n Q g q) : vx_W p l e R s m args below meth c H locs cells slots Q g q := fun T hT X => kk T hT (stand_widen X h1 h2)
theorem vx_out {pc : Nat} {E : String} {ce : Cell} {q : Addr} {mc ms : Nat} (hout : ∀ x ∈ c.exceptionTable.toList, covers x pc = false) (hlocks : meth.locks = false) (hcell : H[q]? = some ce) (hv : ce.vm = .none) (hcl : s.vm.findClass E = some ce.cls)
    (hx : ∀ t : State, t.heap = H → s.vm.Alike t.vm → XC E s t) (hf : ∀ z ∈ locs, free z.base) (hc : cells ≤ mc) (hs : slots ≤ ms) :
    vx_W p l e R s m args below meth c H locs cells slots (vx_MQ below Qc XC args s mc ms free) (F0 m pc ls rest) q := by
  intro T hT X
  obtain ⟨st1, hrun, hend, hW, hsm⟩ := X.leaveThrown q (g := F0 m pc ls rest) rfl rfl rfl hout hlocks
  have hcell9 : (T.setFrames (.throwing q :: below)).heap[q]? = some ce := by
    show T.heap[q]? = some ce
    rw [hT]; exact hcell
  exact ⟨_, st1, .threw q, hrun, hend, Or.inr ⟨q, rfl, E, ce, locs, hx _ hT hW.alike, hcell9, hv, hcl, hW, hsm.mono hc hs, hf⟩⟩
theorem vx_frame {U : State} {k n : Nat} (h : s.sameButNew ({ U with vm := s.vm } : State) locs k n) : s.heap.size ≤ U.heap.size ∧ ∀ q : Nat, q < s.heap.size → (∀ z ∈ locs, z.base ≠ q) → U.heap[q]? = s.heap[q]? := by
  obtain ⟨-, h2, -, -, -, h6⟩ := h
  refine ⟨h2, fun q hq hz => ?_⟩
  obtain ⟨c9, e1, e2, e3, e4⟩ := h6 q _ (Array.getElem?_eq_getElem hq)
  have hs : c9.slots = (s.heap[q]).slots := Array.ext_getElem? fun i => e4 i fun hm => hz _ hm rfl
  have h9 : c9 = s.heap[q] := by
    rw [hs] at e2
    exact e2
  have e5 : U.heap[q]? = some c9 := e1
  rw [e5, h9, Array.getElem?_eq_getElem hq]
/-- the words of a throw but the four that speak of the heap -/
def vx_no (w : Cond) : Bool := decide (w ≠ .isRef (.static Bundle.tN "UNASSIGNED_STACK" Bundle.steD)) && decide (w ≠ .isRef (.static Bundle.tN "SUPPRESSED_SENTINEL" Bundle.listD)) && decide (w ≠ .laysStatic Bundle.tN "UNASSIGNED_STACK" Bundle.steD) && decide (w ≠ .laysStatic Bundle.tN "SUPPRESSED_SENTINEL" Bundle.listD)
def vx_at0 (own : String) (ic : Nat) (X : String) (names : List String) : List Cond := (Bundle.ownAtoms0 own ic X names).filter vx_no
def vx_atS (own : String) (ic : Nat) (X : String) (names : List String) : List Cond := (Bundle.ownAtoms own ic X names).filter vx_no
/-- a word that the tables alone decide, or a good one -/
def vx_ot (w : Cond) : Bool := w.onTables || goodWord w
theorem vx_ot_at {args a' : Array Value} {s U : State} {w : Cond} (hW : s.WarmedH U.vm) (hvm : s.vm = U.vm) (hg : vx_ot w = true) (h : w.before args s = true) : w.before a' U = true := by
  simp only [vx_ot, Bool.or_eq_true] at hg
  rcases hg with hg | hg
  · exact va_tabs hg hvm h
  · exact word_at hW (good_of_word hg) h
/-- a list's words: the good ones out of the method's own list, the others by premises of their own -/
theorem vx_hat {args : Array Value} {s : State} {L B : List Cond} (h1 : ∀ w ∈ L.filter goodWord, w.before args s = true) (h2 : ∀ w ∈ L.filter (fun w => !goodWord w), w ∈ B) (h3 : ∀ w ∈ B, w.before args s = true) : ∀ w ∈ L, w.before args s = true := by
  intro w hw
  by_cases g : goodWord w = true
  · exact h1 w (List.mem_filter.mpr ⟨hw, g⟩)
  · refine h3 w (h2 w (List.mem_filter.mpr ⟨hw, ?_⟩))
    show (!goodWord w) = true
    cases hgw : goodWord w
    · rfl
    · exact absurd hgw g
theorem vx_c {args : Array Value} {s : State} {w : Cond} {B : List Cond} (h : w.before args s = true) (t : ∀ w ∈ B, w.before args s = true) : ∀ w' ∈ w :: B, w'.before args s = true := fun w' h' => (List.mem_cons.mp h').elim (fun e => by rw [e]; exact h) (t w')
theorem vx_n {args : Array Value} {s : State} : ∀ w ∈ ([] : List Cond), w.before args s = true := fun _ h => nomatch h
theorem vx_own {args : Array Value} {s : State} {L : List Cond} (h1 : ∀ w ∈ L.filter vx_no, w.before args s = true)
    (hU : (Cond.isRef (.static Bundle.tN "UNASSIGNED_STACK" Bundle.steD)).before args s = true) (hN : (Cond.isRef (.static Bundle.tN "SUPPRESSED_SENTINEL" Bundle.listD)).before args s = true)
    (lU : (Cond.laysStatic Bundle.tN "UNASSIGNED_STACK" Bundle.steD).before args s = true) (lN : (Cond.laysStatic Bundle.tN "SUPPRESSED_SENTINEL" Bundle.listD).before args s = true) : ∀ w ∈ L, w.before args s = true := by
  intro w hw
  by_cases e1 : w = .isRef (.static Bundle.tN "UNASSIGNED_STACK" Bundle.steD)
  · rw [e1]; exact hU
  · by_cases e2 : w = .isRef (.static Bundle.tN "SUPPRESSED_SENTINEL" Bundle.listD)
    · rw [e2]; exact hN
    · by_cases e3 : w = .laysStatic Bundle.tN "UNASSIGNED_STACK" Bundle.steD
      · rw [e3]; exact lU
      · by_cases e4 : w = .laysStatic Bundle.tN "SUPPRESSED_SENTINEL" Bundle.listD
        · rw [e4]; exact lN
        · exact h1 w (List.mem_filter.mpr ⟨hw, by unfold vx_no; rw [decide_eq_true e1, decide_eq_true e2, decide_eq_true e3, decide_eq_true e4]; rfl⟩)
/-- where a static field lies, its class's statics cell in H -/
def vx_L (C n d : String) (A : Nat → Prop) (U : State) (H : Heap) : Prop := ∃ (c : ClassId) (k : Class) (i : Nat) (f : Field) (a : Nat) (cell : Cell), U.vm.findClass C = some c ∧ U.fieldFound? C n d = some (c, k, i, f) ∧ f.isStatic = true ∧ k.statics = some a ∧ H[a]? = some cell ∧ cell.vm.isStatics = true ∧ cell.cls = c ∧ f.slot < cell.slots.size ∧ k.staticTypes[f.slot]? = some f.type ∧ ¬ A a
theorem vx_L.moved {C n d : String} {A : Nat → Prop} {u U : State} {H : Heap} (hvm : u.vm.Alike U.vm) (h : vx_L C n d A u H) : vx_L C n d A U H := by
  obtain ⟨c, k, i, f, a, cell, h1, h2, h3, h4, h5, h6, h7, h8, h9, h10⟩ := h
  obtain ⟨k', hi', he⟩ := State.fieldFound?_setVm hvm h2
  exact ⟨c, k', i, f, a, cell, by rw [hvm.findClass]; exact h1, hi', h3, by rw [he]; exact h4, h5, h6, h7, h8, by rw [he]; exact h9, h10⟩
theorem vx_L.kept {C n d : String} {A : Nat → Prop} {U : State} {H H1 : Heap} (h : vx_L C n d A U H) (hq : ∀ a : Nat, a < H.size → ¬ A a → H1[a]? = H[a]?) : vx_L C n d A U H1 := by
  obtain ⟨c, k, i, f, a, cell, h1, h2, h3, h4, h5, h6, h7, h8, h9, h10⟩ := h
  exact ⟨c, k, i, f, a, cell, h1, h2, h3, h4, by rw [hq a (Array.getElem?_eq_some_iff.mp h5).1 h10]; exact h5, h6, h7, h8, h9, h10⟩
theorem vx_L.narrow {C n d : String} {A B : Nat → Prop} {U : State} {H : Heap} (h : vx_L C n d A U H) (hAB : ∀ q, B q → A q) : vx_L C n d B U H := by
  obtain ⟨c, k, i, f, a, cell, h1, h2, h3, h4, h5, h6, h7, h8, h9, h10⟩ := h
  exact ⟨c, k, i, f, a, cell, h1, h2, h3, h4, h5, h6, h7, h8, h9, fun z => h10 (hAB _ z)⟩
theorem vx_L.word {C n d : String} {A : Nat → Prop} {s : State} {args : Array Value} (h : vx_L C n d A s s.heap) : (Cond.laysStatic C n d).before args s = true := by
  obtain ⟨c, k, i, f, a, cell, h1, h2, h3, h4, h5, h6, h7, h8, h9, -⟩ := h
  show (Cond.laysStatic C n d).holds args s none s [] = true
  exact Cond.laysStatic_of h1 h2 h3 h4 h5 h6 h7 h8 h9
/-- .. and what it holds: null or some reference -/
def vx_Zq (C n d : String) (A : Nat → Prop) (U : State) (H : Heap) : Prop := va_Zq C n d A U H ∧ vx_L C n d A U H
theorem vx_Zq.moved {C n d : String} {A : Nat → Prop} {u U : State} {H : Heap} (hvm : u.vm.Alike U.vm) (h : vx_Zq C n d A u H) : vx_Zq C n d A U H := ⟨va_Zq.moved hvm h.1, vx_L.moved hvm h.2⟩
theorem vx_Zq.kept {C n d : String} {A : Nat → Prop} {U : State} {H H1 : Heap} (h : vx_Zq C n d A U H) (hq : ∀ a : Nat, a < H.size → ¬ A a → H1[a]? = H[a]?) : vx_Zq C n d A U H1 := ⟨va_Zq.kept h.1 hq, vx_L.kept h.2 hq⟩
theorem vx_Zq.narrow {C n d : String} {A B : Nat → Prop} {U : State} {H : Heap} (h : vx_Zq C n d A U H) (hAB : ∀ q, B q → A q) : vx_Zq C n d B U H := ⟨va_Zq.narrow h.1 hAB, vx_L.narrow h.2 hAB⟩
theorem vx_Zqof {args : Array Value} {s : State} {C n d : String} {A : Nat → Prop} (hl : (Cond.laysStatic C n d).before args s = true) (hini : (Cond.initialized C).before args s = true) (h : (Cond.isRef (.static C n d)).before args s = true) (hA : ∀ a : Nat, a < s.heap.size → ¬ A a) : vx_Zq C n d A s s.heap := by
  refine ⟨va_Zqof hl hini h hA, ?_⟩
  obtain ⟨c, k, i, f, a, cell, h1, h2, h3, h4, h5, h6, h7, h8, h9⟩ := Cond.laysStatic_spec hl
  exact ⟨c, k, i, f, a, cell, h1, h2, h3, h4, h5, h6, h7, h8, h9, hA a (Array.getElem?_eq_some_iff.mp h5).1⟩
theorem vx_isRef {C n d : String} {v : Value} {A : Nat → Prop} {s : State} {args : Array Value} (h : va_Z C n d v A s s.heap) (hv : v.isRef = true) : (Cond.isRef (.static C n d)).before args s = true := by
  obtain ⟨cf, kf, fi, f, a, cell, h1, h2, h3, h4, h5, h6, h7, -⟩ := h
  have he : (Term.static C n d).eval args s none [] s = some v := by
    simp [Term.eval, State.fieldNamed?, h1, h2, h4, h5, h6, h7]
  simp only [Cond.before, Cond.holds, Cond.value, he]
  cases v <;> simp_all [Value.isRef]
theorem vx_isRefq {C n d : String} {A : Nat → Prop} {s : State} {args : Array Value} (h : va_Zq C n d A s s.heap) : (Cond.isRef (.static C n d)).before args s = true := by
  rcases h with h | ⟨t, h⟩
  · exact vx_isRef h rfl
  · exact vx_isRef h rfl
/-- the same frame, seen from here: as if the method were called anew in this heap -/
theorem vx_rebase {T : State} (X : Stand p l e R s m args below meth c T locs cells slots) {R' : Room} (hf : R'.frames ≤ R.frames) (hl : R'.locals ≤ R.locals) (hc : cells + R'.cells ≤ R.cells) (hs : slots + R'.slots ≤ R.slots) :
    Stand p l e R' ((T.setVm s.vm).setFrames (.invoking m args :: below)) m args below meth c T [] 0 0 := by
  have htop : (T.setVm s.vm).topJava?.isSome := X.here.top
  have hF : ((T.setVm s.vm).setFrames (.invoking m args :: below)).frames = .invoking m args :: below := State.frames_setFrames _ (State.cur_lt_of_top htop)
  obtain ⟨g₀, hg0⟩ := Option.isSome_iff_exists.mp htop
  obtain ⟨r, hr⟩ := State.topJava?_eq_some.mp hg0
  have hl9 : e.platform.stackLimits (T.setVm s.vm).me = e.platform.stackLimits s.me := X.limits
  have hb9 : (T.setVm s.vm).me.stackBytes = s.me.stackBytes := X.bytes
  refine ⟨X.admits, X.cas, X.clock, hF, ?_, X.hears, X.method, X.code, X.here, X.tail, X.warmed, ?_, ?_, ?_⟩
  · have h := X.room
    have hU : ((T.setVm s.vm).setFrames (.invoking m args :: below)).localsInUse = s.localsInUse := by
      rw [State.localsInUse_invoking hF (meth := meth) (c := c) X.method X.code, State.localsInUse_invoking X.frames X.method X.code]
    simp only [State.hasRoom, Bool.and_eq_true, decide_eq_true_eq] at h ⊢
    obtain ⟨⟨⟨⟨h1, h2, h3, h4, h5, h6⟩, h7⟩, h8⟩, h9⟩ := h
    rw [X.frames, List.length_cons] at h2 h3
    have q1 := X.heapSize
    have q2 := X.used
    simp only [hF, hU, List.length_cons, State.stackLimits_setFrames, State.stackBytes_setFrames, hl9, hb9]
    refine ⟨⟨⟨⟨by omega, by omega, by omega, by omega, by omega, h6⟩, ?_⟩, ?_⟩, X.book⟩
    · show T.heap.size + R'.cells ≤ e.platform.maxCells
      omega
    · show T.slotsUsed + R'.slots ≤ e.platform.maxSlots
      omega
  · rw [State.stackLimits_setFrames]; rfl
  · rw [State.stackBytes_setFrames]; rfl
  · refine ⟨?_, Nat.le_refl _, Nat.le_refl _, ?_, ?_, fun a c9 h9 => ⟨c9, h9, rfl, rfl, fun _ _ => rfl⟩⟩
    · obtain ⟨t, ht, -⟩ := State.frames_cons hr
      show T.setVm s.vm = { ((T.setVm s.vm).setFrames (.invoking m args :: below)).setFrames (T.setVm s.vm).frames with heap := T.heap, slotsUsed := T.slotsUsed }
      rw [State.setFrames_setFrames, State.setFrames_self ht]
      rfl
    · show T.slotsUsed = T.slotsUsed + ((T.heap.toList.drop T.heap.size).map (·.slots.size)).sum
      rw [List.drop_eq_nil_of_le (Nat.le_of_eq Array.length_toList)]
      rfl
    · show ((T.heap.toList.drop T.heap.size).map (·.slots.size)).sum ≤ 0
      rw [List.drop_eq_nil_of_le (Nat.le_of_eq Array.length_toList)]
      exact Nat.le_refl _
/-- 'throw new E()': new; dup; invokespecial; athrow -/
theorem vx_throw0 {cc : ByteArray} {pc : Nat} (hexec : p.tables.exec = Jvm.exec) (hb : c.code = cc) (hl : l.stackTraces = false) {own cls : String} {names : List String} {ik ic mc ms : Nat} {A : Nat → Prop}
    (hown : s.vm.findClass own = some m.cls) (hcls : Bundle.fit cls = true) (hnames : ∀ n ∈ names, Bundle.fit n = true)
    (hk : (Cond.classLink own ik cls).before args s = true) (hini : (Cond.initialized cls).before args s = true) (hat : ∀ w ∈ vx_at0 own ic cls names, w.before args s = true)
    (hgood : ∀ w ∈ Cond.classLink own ik cls :: Cond.initialized cls :: vx_at0 own ic cls names, vx_ot w = true)
    (hU : vx_Zq Bundle.tN "UNASSIGNED_STACK" Bundle.steD A s s.heap) (hN : vx_Zq Bundle.tN "SUPPRESSED_SENTINEL" Bundle.listD A s s.heap) (hS : va_S A s.heap H locs) (hsize : ls.size = c.maxLocals)
    (d0 : decode cc pc = .ok (.new ik, 3)) (d3 : decode cc (pc + 3) = .ok (.dup, 1)) (d4 : decode cc (pc + 4) = .ok (.invokespecial ic, 3)) (d7 : decode cc (pc + 7) = .ok (.athrow, 1))
    (hout : ∀ x ∈ c.exceptionTable.toList, covers x (pc + 7) = false)
    (hRframes : names.length + 3 < R.frames) (hRlocals : (rest.map fun v => v.category).sum + (13 * (names.length + 1) + 42) ≤ R.locals) (hRcells : cells + 1 ≤ R.cells) (hRslots : slots + 6 ≤ R.slots) (hlocks : meth.locks = false)
    (hx : ∀ t : State, s.vm.Alike t.vm → H.size ≤ t.heap.size → (∀ q : Nat, q < H.size → t.heap[q]? = H[q]?) → XC cls s t)
    (hf : ∀ z ∈ locs, free z.base) (hc : cells + 1 ≤ mc) (hs : slots + 6 ≤ ms) :
    W p l e R s m args below meth c H locs cells slots (vx_MQ below Qc XC args s mc ms free) (F0 m pc ls rest) := by
  intro T hT X
  have htr : e.platform.stackTraces = false := (show e.platform.stackTraces = l.stackTraces by rw [X.admits.platform]).trans hl
  have Y := vx_rebase X (R' := { frames := R.frames, locals := R.locals, cells := 1, slots := 6 }) (Nat.le_refl _) (Nat.le_refl _) hRcells hRslots
  obtain ⟨s', hA⟩ : ∃ z, z = (T.setVm s.vm).setFrames (.invoking m args :: below) := ⟨_, rfl⟩
  rw [← hA] at Y
  have hvm : s'.vm = s.vm := by rw [hA]; rfl
  have hhp : s'.heap = H := by rw [hA]; exact hT
  have hW0 : s.WarmedH s'.vm := by rw [hvm]; exact State.WarmedH.refl s
  have hat' : ∀ w ∈ vx_at0 own ic cls names, w.before args s' = true := fun w hw => vx_ot_at hW0 hvm.symm (hgood w (List.mem_cons_of_mem _ (List.mem_cons_of_mem _ hw))) (hat w hw)
  have hk' : (Cond.classLink own ik cls).before args s' = true := vx_ot_at hW0 hvm.symm (hgood _ List.mem_cons_self) hk
  have hini' : (Cond.initialized cls).before args s' = true := vx_ot_at hW0 hvm.symm (hgood _ (List.mem_cons_of_mem _ List.mem_cons_self)) hini
  have hU' : vx_Zq Bundle.tN "UNASSIGNED_STACK" Bundle.steD A s' s'.heap := by rw [hhp]; exact vx_Zq.moved hW0.alike (hU.kept hS.2.1)
  have hN' : vx_Zq Bundle.tN "SUPPRESSED_SENTINEL" Bundle.listD A s' s'.heap := by rw [hhp]; exact vx_Zq.moved hW0.alike (hN.kept hS.2.1)
  have h : ∀ w ∈ Bundle.ownAtoms0 own ic cls names, w.before args s' = true := vx_own hat' (vx_isRefq hU'.1) (vx_isRefq hN'.1) hU'.2.word hN'.2.word
  have hown' : s'.vm.findClass own = some m.cls := by rw [hvm]; exact hown
  have hins : (Cond.instantiable cls 6).before args s' = true := h _ (by simp [Bundle.ownAtoms0])
  obtain ⟨vm₁, cX, kX, hfX, hkX, -, -, X₁, st1⟩ := Y.newCold hexec (own := own) (C := cls) (index := ik) (n := 6) hown' hk' hins hini'
    (g := F0 m pc ls rest) rfl (by rw [hb]; exact d0) (Nat.le_refl _) (Nat.le_refl _)
  generalize hT1 : (T.setVm vm₁).pushCell { cls := cX, slots := kX.instanceTypes.map defaultValue, vm := .none } = T1 at X₁ st1
  have hcat : (Value.ref T.heap.size).category = 1 := rfl
  have hcellA : T1.heap[T.heap.size]? = some (freshCell cX kX) := by rw [← hT1]; exact State.heap_pushCell_size _ _
  have d3' : decode c.code (pc + 3) = .ok (.dup, 1) := by rw [hb]; exact d3
  obtain ⟨U, hsteps, hrun, hend, hW, hsame, ce, hce, hO⟩ := X₁.ctorThrow0 hexec htr (own := own) (cls := cls) (names := names) (ic := ic) hown' hcls hnames h (fun x hx => nomatch hx) hfX hkX hcellA (by rw [hhp, hT]; exact Nat.le_refl _)
    (g := { method := m, pc := pc + 4, locals := ls, stack := .ref T.heap.size :: .ref T.heap.size :: rest, locked := none }) rfl hsize rfl rfl (rest := rest) rfl
    (by rw [hb]; exact d4) (by rw [hb]; exact d7) hout hRframes (by simp only [List.map_cons, List.sum_cons, hcat]; omega) hlocks
  obtain ⟨f1, f2⟩ := vx_frame hsame
  rw [hhp] at f1 f2
  have hWs : s.WarmedH U.vm := State.WarmedH.trans hW0 hW
  have hcl : s.vm.findClass cls = some ce.cls := by
    have h9 := hO.cls
    rw [hvm] at h9
    exact h9
  have hall : s.sameButNew ({ U with vm := s.vm } : State) locs mc ms := by
    subst hA
    obtain ⟨e1, e2⟩ := hsame
    rw [State.setFrames_setFrames] at e1
    have h2 : (T.setVm s.vm).sameButNew ({ U with vm := s.vm } : State) [] (0 + 1) (0 + 6) := ⟨e1, e2⟩
    have h3 := X.same.trans h2
    rw [List.append_nil] at h3
    exact h3.mono hc hs
  refine ⟨U, ?_, .threw T.heap.size, hrun, hend, Or.inr ⟨T.heap.size, rfl, cls, ce, locs, hx U hWs.alike f1 (fun q hq => f2 q hq (fun z hz => nomatch hz)), hce, hO.vm, hcl, hWs, hall, hf⟩⟩
  refine st1 _ ?_
  show Steps p.tables e below (T1.setTop { method := m, pc := pc + 3, locals := ls, stack := .ref T.heap.size :: rest, locked := none }) _
  jvm_step X₁.here [X₁.here.top, hexec, d3', Value.category]
  exact hsteps
/-- 'throw new E("text")': new; dup; ldc; invokespecial; athrow -/
theorem vx_throwS {cc : ByteArray} {pc : Nat} (hexec : p.tables.exec = Jvm.exec) (hb : c.code = cc) (hl : l.stackTraces = false) {own cls text : String} {names : List String} {ik is ic mc ms sa : Nat} {A : Nat → Prop}
    (hown : s.vm.findClass own = some m.cls) (hcls : Bundle.fit cls = true) (hnames : ∀ n ∈ names, Bundle.fit n = true)
    (hk : (Cond.classLink own ik cls).before args s = true) (hini : (Cond.initialized cls).before args s = true) (hstr : vk_R own is text sa s) (hat : ∀ w ∈ vx_atS own ic cls names, w.before args s = true)
    (hgood : ∀ w ∈ Cond.classLink own ik cls :: Cond.initialized cls :: vx_atS own ic cls names, vx_ot w = true)
    (hU : vx_Zq Bundle.tN "UNASSIGNED_STACK" Bundle.steD A s s.heap) (hN : vx_Zq Bundle.tN "SUPPRESSED_SENTINEL" Bundle.listD A s s.heap) (hS : va_S A s.heap H locs) (hsize : ls.size = c.maxLocals)
    (d0 : decode cc pc = .ok (.new ik, 3)) (d3 : decode cc (pc + 3) = .ok (.dup, 1)) (d4 : decode cc (pc + 4) = .ok (.ldc is, 2)) (d6 : decode cc (pc + 6) = .ok (.invokespecial ic, 3)) (d9 : decode cc (pc + 9) = .ok (.athrow, 1))
    (hout : ∀ x ∈ c.exceptionTable.toList, covers x (pc + 9) = false)
    (hRframes : names.length + 3 < R.frames) (hRlocals : (rest.map fun v => v.category).sum + (13 * (names.length + 1) + 43) ≤ R.locals) (hRcells : cells + 1 ≤ R.cells) (hRslots : slots + 6 ≤ R.slots) (hlocks : meth.locks = false)
    (hx : ∀ t : State, s.vm.Alike t.vm → H.size ≤ t.heap.size → (∀ q : Nat, q < H.size → t.heap[q]? = H[q]?) → XC cls s t)
    (hf : ∀ z ∈ locs, free z.base) (hc : cells + 1 ≤ mc) (hs : slots + 6 ≤ ms) :
    W p l e R s m args below meth c H locs cells slots (vx_MQ below Qc XC args s mc ms free) (F0 m pc ls rest) := by
  intro T hT X
  have htr : e.platform.stackTraces = false := (show e.platform.stackTraces = l.stackTraces by rw [X.admits.platform]).trans hl
  have Y := vx_rebase X (R' := { frames := R.frames, locals := R.locals, cells := 1, slots := 6 }) (Nat.le_refl _) (Nat.le_refl _) hRcells hRslots
  obtain ⟨s', hA⟩ : ∃ z, z = (T.setVm s.vm).setFrames (.invoking m args :: below) := ⟨_, rfl⟩
  rw [← hA] at Y
  have hvm : s'.vm = s.vm := by rw [hA]; rfl
  have hhp : s'.heap = H := by rw [hA]; exact hT
  have hW0 : s.WarmedH s'.vm := by rw [hvm]; exact State.WarmedH.refl s
  have hat' : ∀ w ∈ vx_atS own ic cls names, w.before args s' = true := fun w hw => vx_ot_at hW0 hvm.symm (hgood w (List.mem_cons_of_mem _ (List.mem_cons_of_mem _ hw))) (hat w hw)
  have hk' : (Cond.classLink own ik cls).before args s' = true := vx_ot_at hW0 hvm.symm (hgood _ List.mem_cons_self) hk
  have hini' : (Cond.initialized cls).before args s' = true := vx_ot_at hW0 hvm.symm (hgood _ (List.mem_cons_of_mem _ List.mem_cons_self)) hini
  have hU' : vx_Zq Bundle.tN "UNASSIGNED_STACK" Bundle.steD A s' s'.heap := by rw [hhp]; exact vx_Zq.moved hW0.alike (hU.kept hS.2.1)
  have hN' : vx_Zq Bundle.tN "SUPPRESSED_SENTINEL" Bundle.listD A s' s'.heap := by rw [hhp]; exact vx_Zq.moved hW0.alike (hN.kept hS.2.1)
  have h : ∀ w ∈ Bundle.ownAtoms own ic cls names, w.before args s' = true := vx_own hat' (vx_isRefq hU'.1) (vx_isRefq hN'.1) hU'.2.word hN'.2.word
  have hown' : s'.vm.findClass own = some m.cls := by rw [hvm]; exact hown
  have hins : (Cond.instantiable cls 6).before args s' = true := h _ (by simp [Bundle.ownAtoms])
  obtain ⟨vm₁, cX, kX, hfX, hkX, -, -, X₁, st1⟩ := Y.newCold hexec (own := own) (C := cls) (index := ik) (n := 6) hown' hk' hins hini'
    (g := F0 m pc ls rest) rfl (by rw [hb]; exact d0) (Nat.le_refl _) (Nat.le_refl _)
  generalize hT1 : (T.setVm vm₁).pushCell { cls := cX, slots := kX.instanceTypes.map defaultValue, vm := .none } = T1 at X₁ st1
  have hcat : (Value.ref T.heap.size).category = 1 := rfl
  have hcellA : T1.heap[T.heap.size]? = some (freshCell cX kX) := by rw [← hT1]; exact State.heap_pushCell_size _ _
  have d3' : decode c.code (pc + 3) = .ok (.dup, 1) := by rw [hb]; exact d3
  have d4' : decode c.code (pc + 4) = .ok (.ldc is, 2) := by rw [hb]; exact d4
  have hstr' : vk_R own is text sa s' := vk_R.warm hW0 hstr
  obtain ⟨U, hsteps, hrun, hend, hW, hsame, ce, hce, hO⟩ := X₁.ctorThrowS hexec htr (own := own) (cls := cls) (names := names) (ic := ic) hown' hcls hnames h (fun x hx => nomatch hx) hfX hkX hcellA (by rw [hhp, hT]; exact Nat.le_refl _) (msg := .ref sa) rfl
    (g := { method := m, pc := pc + 6, locals := ls, stack := .ref sa :: .ref T.heap.size :: .ref T.heap.size :: rest, locked := none }) rfl hsize rfl rfl (rest := rest) rfl
    (by rw [hb]; exact d6) (by rw [hb]; exact d9) hout hRframes (by simp only [List.map_cons, List.sum_cons, hcat]; omega) hlocks
  obtain ⟨f1, f2⟩ := vx_frame hsame
  rw [hhp] at f1 f2
  have hWs : s.WarmedH U.vm := State.WarmedH.trans hW0 hW
  have hcl : s.vm.findClass cls = some ce.cls := by
    have h9 := hO.cls
    rw [hvm] at h9
    exact h9
  have hall : s.sameButNew ({ U with vm := s.vm } : State) locs mc ms := by
    subst hA
    obtain ⟨e1, e2⟩ := hsame
    rw [State.setFrames_setFrames] at e1
    have h2 : (T.setVm s.vm).sameButNew ({ U with vm := s.vm } : State) [] (0 + 1) (0 + 6) := ⟨e1, e2⟩
    have h3 := X.same.trans h2
    rw [List.append_nil] at h3
    exact h3.mono hc hs
  refine ⟨U, ?_, .threw T.heap.size, hrun, hend, Or.inr ⟨T.heap.size, rfl, cls, ce, locs, hx U hWs.alike f1 (fun q hq => f2 q hq (fun z hz => nomatch hz)), hce, hO.vm, hcl, hWs, hall, hf⟩⟩
  refine st1 _ ?_
  show Steps p.tables e below (T1.setTop { method := m, pc := pc + 3, locals := ls, stack := .ref T.heap.size :: rest, locked := none }) _
  jvm_step X₁.here [X₁.here.top, hexec, d3', Value.category]
  exact X₁.ldcString hexec (own := own) (text := text) (index := is) (a := sa) hown' hstr'.1 hstr'.2
    (g := { method := m, pc := pc + 4, locals := ls, stack := .ref T.heap.size :: .ref T.heap.size :: rest, locked := none }) rfl d4' _ hsteps
/-- 'throw new E("text")', the text by a wide index -/
theorem vx_throwSW {cc : ByteArray} {pc : Nat} (hexec : p.tables.exec = Jvm.exec) (hb : c.code = cc) (hl : l.stackTraces = false) {own cls text : String} {names : List String} {ik is ic mc ms sa : Nat} {A : Nat → Prop}
    (hown : s.vm.findClass own = some m.cls) (hcls : Bundle.fit cls = true) (hnames : ∀ n ∈ names, Bundle.fit n = true)
    (hk : (Cond.classLink own ik cls).before args s = true) (hini : (Cond.initialized cls).before args s = true) (hstr : vk_R own is text sa s) (hat : ∀ w ∈ vx_atS own ic cls names, w.before args s = true)
    (hgood : ∀ w ∈ Cond.classLink own ik cls :: Cond.initialized cls :: vx_atS own ic cls names, vx_ot w = true)
    (hU : vx_Zq Bundle.tN "UNASSIGNED_STACK" Bundle.steD A s s.heap) (hN : vx_Zq Bundle.tN "SUPPRESSED_SENTINEL" Bundle.listD A s s.heap) (hS : va_S A s.heap H locs) (hsize : ls.size = c.maxLocals)
    (d0 : decode cc pc = .ok (.new ik, 3)) (d3 : decode cc (pc + 3) = .ok (.dup, 1)) (d4 : decode cc (pc + 4) = .ok (.ldc_w is, 3)) (d7 : decode cc (pc + 7) = .ok (.invokespecial ic, 3)) (d10 : decode cc (pc + 10) = .ok (.athrow, 1))
    (hout : ∀ x ∈ c.exceptionTable.toList, covers x (pc + 10) = false)
    (hRframes : names.length + 3 < R.frames) (hRlocals : (rest.map fun v => v.category).sum + (13 * (names.length + 1) + 43) ≤ R.locals) (hRcells : cells + 1 ≤ R.cells) (hRslots : slots + 6 ≤ R.slots) (hlocks : meth.locks = false)
    (hx : ∀ t : State, s.vm.Alike t.vm → H.size ≤ t.heap.size → (∀ q : Nat, q < H.size → t.heap[q]? = H[q]?) → XC cls s t)
    (hf : ∀ z ∈ locs, free z.base) (hc : cells + 1 ≤ mc) (hs : slots + 6 ≤ ms) :
    W p l e R s m args below meth c H locs cells slots (vx_MQ below Qc XC args s mc ms free) (F0 m pc ls rest) := by
  intro T hT X
  have htr : e.platform.stackTraces = false := (show e.platform.stackTraces = l.stackTraces by rw [X.admits.platform]).trans hl
  have Y := vx_rebase X (R' := { frames := R.frames, locals := R.locals, cells := 1, slots := 6 }) (Nat.le_refl _) (Nat.le_refl _) hRcells hRslots
  obtain ⟨s', hA⟩ : ∃ z, z = (T.setVm s.vm).setFrames (.invoking m args :: below) := ⟨_, rfl⟩
  rw [← hA] at Y
  have hvm : s'.vm = s.vm := by rw [hA]; rfl
  have hhp : s'.heap = H := by rw [hA]; exact hT
  have hW0 : s.WarmedH s'.vm := by rw [hvm]; exact State.WarmedH.refl s
  have hat' : ∀ w ∈ vx_atS own ic cls names, w.before args s' = true := fun w hw => vx_ot_at hW0 hvm.symm (hgood w (List.mem_cons_of_mem _ (List.mem_cons_of_mem _ hw))) (hat w hw)
  have hk' : (Cond.classLink own ik cls).before args s' = true := vx_ot_at hW0 hvm.symm (hgood _ List.mem_cons_self) hk
  have hini' : (Cond.initialized cls).before args s' = true := vx_ot_at hW0 hvm.symm (hgood _ (List.mem_cons_of_mem _ List.mem_cons_self)) hini
  have hU' : vx_Zq Bundle.tN "UNASSIGNED_STACK" Bundle.steD A s' s'.heap := by rw [hhp]; exact vx_Zq.moved hW0.alike (hU.kept hS.2.1)
  have hN' : vx_Zq Bundle.tN "SUPPRESSED_SENTINEL" Bundle.listD A s' s'.heap := by rw [hhp]; exact vx_Zq.moved hW0.alike (hN.kept hS.2.1)
  have h : ∀ w ∈ Bundle.ownAtoms own ic cls names, w.before args s' = true := vx_own hat' (vx_isRefq hU'.1) (vx_isRefq hN'.1) hU'.2.word hN'.2.word
  have hown' : s'.vm.findClass own = some m.cls := by rw [hvm]; exact hown
  have hins : (Cond.instantiable cls 6).before args s' = true := h _ (by simp [Bundle.ownAtoms])
  obtain ⟨vm₁, cX, kX, hfX, hkX, -, -, X₁, st1⟩ := Y.newCold hexec (own := own) (C := cls) (index := ik) (n := 6) hown' hk' hins hini'
    (g := F0 m pc ls rest) rfl (by rw [hb]; exact d0) (Nat.le_refl _) (Nat.le_refl _)
  generalize hT1 : (T.setVm vm₁).pushCell { cls := cX, slots := kX.instanceTypes.map defaultValue, vm := .none } = T1 at X₁ st1
  have hcat : (Value.ref T.heap.size).category = 1 := rfl
  have hcellA : T1.heap[T.heap.size]? = some (freshCell cX kX) := by rw [← hT1]; exact State.heap_pushCell_size _ _
  have d3' : decode c.code (pc + 3) = .ok (.dup, 1) := by rw [hb]; exact d3
  have d4' : decode c.code (pc + 4) = .ok (.ldc_w is, 3) := by rw [hb]; exact d4
  have hstr' : vk_R own is text sa s' := vk_R.warm hW0 hstr
  obtain ⟨U, hsteps, hrun, hend, hW, hsame, ce, hce, hO⟩ := X₁.ctorThrowS hexec htr (own := own) (cls := cls) (names := names) (ic := ic) hown' hcls hnames h (fun x hx => nomatch hx) hfX hkX hcellA (by rw [hhp, hT]; exact Nat.le_refl _) (msg := .ref sa) rfl
    (g := { method := m, pc := pc + 7, locals := ls, stack := .ref sa :: .ref T.heap.size :: .ref T.heap.size :: rest, locked := none }) rfl hsize rfl rfl (rest := rest) rfl
    (by rw [hb]; exact d7) (by rw [hb]; exact d10) hout hRframes (by simp only [List.map_cons, List.sum_cons, hcat]; omega) hlocks
  obtain ⟨f1, f2⟩ := vx_frame hsame
  rw [hhp] at f1 f2
  have hWs : s.WarmedH U.vm := State.WarmedH.trans hW0 hW
  have hcl : s.vm.findClass cls = some ce.cls := by
    have h9 := hO.cls
    rw [hvm] at h9
    exact h9
  have hall : s.sameButNew ({ U with vm := s.vm } : State) locs mc ms := by
    subst hA
    obtain ⟨e1, e2⟩ := hsame
    rw [State.setFrames_setFrames] at e1
    have h2 : (T.setVm s.vm).sameButNew ({ U with vm := s.vm } : State) [] (0 + 1) (0 + 6) := ⟨e1, e2⟩
    have h3 := X.same.trans h2
    rw [List.append_nil] at h3
    exact h3.mono hc hs
  refine ⟨U, ?_, .threw T.heap.size, hrun, hend, Or.inr ⟨T.heap.size, rfl, cls, ce, locs, hx U hWs.alike f1 (fun q hq => f2 q hq (fun z hz => nomatch hz)), hce, hO.vm, hcl, hWs, hall, hf⟩⟩
  refine st1 _ ?_
  show Steps p.tables e below (T1.setTop { method := m, pc := pc + 3, locals := ls, stack := .ref T.heap.size :: rest, locked := none }) _
  jvm_step X₁.here [X₁.here.top, hexec, d3', Value.category]
  exact X₁.ldcStringW hexec (own := own) (text := text) (index := is) (a := sa) hown' hstr'.1 hstr'.2
    (g := { method := m, pc := pc + 4, locals := ls, stack := .ref T.heap.size :: .ref T.heap.size :: rest, locked := none }) rfl d4' _ hsteps
end Ends
section Bodies
variable {l : Launch}
theorem vx_ofW {y : MethodName} {ws ws' : List Cond} {rm : Room} {Pc : Array Value → State → Prop} {Qc : Array Value → State → Outcome → State → Prop} {XC : String → State → State → Prop} {mc ms : Nat} {free : Addr → Prop} {cc : ByteArray} {maxL : Nat} {ret : Option FieldType}
    (hy : plainName y.cls = true) (hw : ws = Cond.code y cc maxL ret :: ws')
    (body : ∀ p e s m args below meth c s₁, BodyLoose p l y (headSpec ws rm) cc maxL ret e s m args below meth c s₁ → c.maxLocals = maxL → (∀ x ∈ c.exceptionTable.toList, False) → Pc args s →
      W p l e (headSpec ws rm).room s m args below meth c s.heap [] 0 0 (vx_MQ below Qc XC args s mc ms free) (entryFrame m args maxL)) : vx_Met l y ws rm Pc Qc XC mc ms free := by
  refine MetFree.of_bodyS (code := cc) (maxLocals := maxL) (ret := ret) hy ?_ ?_
  · intro args s m h hn
    obtain ⟨meth, c, h1, h2, h3, h4, h5, h6, -, -⟩ := Cond.code_spec hn (atoms_spec (ws := ws) h _ (by rw [hw]; exact List.mem_cons_self))
    exact ⟨meth, c, h1, h2, h3, h4, h5, h6⟩
  · intro p e s m args below meth c s₁ B hml hP _
    have hh0 : s₁.heap = s.heap := by rw [B.state]; rfl
    have ht : ∀ x ∈ c.exceptionTable.toList, False := by
      obtain ⟨meth9, c9, h1, h2, -, -, -, -, h7, -⟩ := Cond.code_spec B.named (atoms_spec (ws := ws) B.pre _ (by rw [hw]; exact List.mem_cons_self))
      cases Option.some.inj (h1.symm.trans B.method)
      cases Option.some.inj (h2.symm.trans (Stand.of_body B).code)
      intro x hx
      rw [Array.isEmpty_iff.mp h7] at hx
      cases hx
    obtain ⟨t, a1, o, b1, b2, b3⟩ := body p e s m args below meth c s₁ B hml ht hP s₁ hh0 (Stand.of_body B)
    exact ⟨t, o, a1, b1, b2, b3⟩
/-- the table of a body with handlers -/
theorem vx_table {p : Program} {x y : MethodName} {S : Spec} {cc bytes : ByteArray} {maxL maxL' : Nat} {ret ret' : Option FieldType} {e : Env} {s s₁ : State} {m : MethodId} {args : Array Value} {below : List Frame} {meth : Method} {c : Code} {hh : List (Nat × Nat × Nat × Nat)}
    (B : BodyLoose p l y S cc maxL ret e s m args below meth c s₁) (h : (Cond.codeWith y bytes maxL' ret' hh).before args s = true) : c.exceptionTable.toList = tableOf hh := by
  obtain ⟨m9, meth9, c9, hn9, h1, h2, -, -, h6, -⟩ := Cond.codeWith_spec h
  cases Option.some.inj (hn9.symm.trans B.named)
  cases Option.some.inj (h1.symm.trans B.method)
  cases Option.some.inj (h2.symm.trans (Stand.of_body B).code)
  rw [← h6, table_eq]
end Bodies
end VXA
/-! ===== END ===== -/
/-! ===== BEGIN a static call of a method with an exception table ===== -/
section VXS
variable {p : Program} {l : Launch} {e : Env} {R : Room} {s : State} {m : MethodId} {args : Array Value} {below : List Frame} {meth : Method} {c : Code} {T : State} {H : Heap} {locs : List Loc} {cells slots : Nat}
abbrev vx_CSW (R : Room) (s : State) (args : Array Value) (own : String) (index : Nat) (y : MethodName) (bytes : ByteArray) (maxL : Nat) (ret : Option FieldType) (hh : List (Nat × Nat × Nat × Nat)) (ws : List Cond) (rm : Room) (mc ms n : Nat) : Prop :=
  (rm.cells = mc ∧ rm.slots = ms ∧ rm.frames + 1 ≤ R.frames ∧ 8 + (maxL + 11) + rm.locals ≤ R.locals ∧ (∀ w ∈ ws, ∀ (a' : Array Value) (U : State), s.WarmedH U.vm → w.before a' U = true) ∧ Cond.codeWith y bytes maxL ret hh ∈ ws) ∧
  (Cond.codeWith y bytes maxL ret hh).before args s = true ∧ (Cond.initialized y.cls).before args s = true ∧ (y.cls ≠ "java/lang/invoke/MethodHandle" ∧ y.cls ≠ "java/lang/invoke/VarHandle") ∧
  (∀ sig, parseMethodDescriptor y.desc = some sig → n = sig.parameters.length) ∧ (Cond.methodLink own index y).before args s = true ∧ (Cond.static y).before args s = true
theorem vx_cwSW {own : String} {index maxL mc ms : Nat} {y : MethodName} {bytes : ByteArray} {ret : Option FieldType} {hh : List (Nat × Nat × Nat × Nat)} {Ts ws ws' : List Cond} {rm : Room} (n : Nat) (ht : ∀ w ∈ Ts, w.before args s = true) (hT : GoodIn Ts (va_wsS own index y ws)) (hw : ws = Cond.codeWith y bytes maxL ret hh :: ws') (hrc : rm.cells = mc) (hrs : rm.slots = ms)
    (hd : y.cls ≠ "java/lang/invoke/MethodHandle" ∧ y.cls ≠ "java/lang/invoke/VarHandle" ∧ (parseMethodDescriptor y.desc).map (fun d => d.parameters.length) = some n) (hR : rm.frames + 1 ≤ R.frames ∧ 8 + (maxL + 11) + rm.locals ≤ R.locals) :
    vx_CSW R s args own index y bytes maxL ret hh ws rm mc ms n := by
  have ok : ∀ w ∈ va_wsS own index y ws, w.before args s = true := fun w h => ht w (hT w h).1
  have hG : GoodIn Ts ws := fun w h => hT w (by unfold va_wsS; exact List.mem_append_right _ h)
  have hc : Cond.codeWith y bytes maxL ret hh ∈ ws := by rw [hw]; exact List.mem_cons_self
  refine ⟨⟨hrc, hrs, hR.1, hR.2, pay_in ht hG, hc⟩, ht _ (hG _ hc).1, ok _ (by simp [va_wsS]), ⟨hd.1, hd.2.1⟩, fun sig h => ?_, ok _ (by simp [va_wsS]), ok _ (by simp [va_wsS])⟩
  have h2 := hd.2.2
  rw [h] at h2
  exact (Option.some.inj h2).symm
theorem vx_callSW (X : Stand p l e R s m args below meth c T locs cells slots) (hexec : p.tables.exec = Jvm.exec) {own : String} {index : Nat} {y : MethodName} {bytes : ByteArray} {maxL : Nat} {ret : Option FieldType} {hh : List (Nat × Nat × Nat × Nat)}
    (hown : s.vm.findClass own = some m.cls) (hlink : (Cond.methodLink own index y).before args s = true) (hstat : (Cond.static y).before args s = true) (hinit : (Cond.initialized y.cls).before args s = true)
    (hcode : (Cond.codeWith y bytes maxL ret hh).before args s = true) (hy : y.cls ≠ "java/lang/invoke/MethodHandle" ∧ y.cls ≠ "java/lang/invoke/VarHandle")
    {W9 : Nat} {Pre : Pt → Array Value → Prop} {Post : Pt → Array Value → Option Value → Pt → Prop} (hK : Back l R p e below s args y 3 W9 Pre Post)
    {g : JFrame} (hg : g.method = m) (hsize : g.locals.size = c.maxLocals) {argsL rest : List Value} (hlen : ∀ sig, parseMethodDescriptor y.desc = some sig → argsL.length = sig.parameters.length)
    (hstack : g.stack = argsL.reverse ++ rest) (hW : 2 * g.monitorRoom + (rest.map fun v => v.category).sum ≤ W9) (hdg : decode c.code g.pc = .ok (.invokestatic index, 3))
    (hpre : ∀ vm₁, s.WarmedH vm₁ → Pre ⟨T.setVm vm₁, locs, cells, slots⟩ argsL.toArray) :
    ∃ (v : Option Value) (vm₁ : Vm) (B : Pt), s.WarmedH vm₁ ∧ Stand p l e R s m args below meth c B.U B.locs B.cells B.slots ∧ Post ⟨T.setVm vm₁, locs, cells, slots⟩ argsL.toArray v B ∧
      ∀ target, Steps p.tables e below (B.U.setTop { g with pc := g.pc + 3, stack := v.toList ++ rest }) target → Steps p.tables e below (T.setTop g) target := by
  obtain ⟨mk, methM, cM, hnamed, hmethM, -, -, -, -, -, -, hsigM⟩ := Cond.codeWith_spec hcode
  have hstatic : methM.isStatic = true := Cond.static_spec hnamed hmethM hstat
  obtain ⟨kP, hkP, -⟩ := className_of_methodNamed hnamed
  have hinitP : kP.init = .initialized := Cond.initialized_spec (findClass_of_methodNamed hnamed) hkP hinit
  obtain ⟨vm₁, X₁, hstep₁⟩ := X.invokestatic hexec hown hlink hnamed hmethM hstatic hkP hinitP hy (g := g) hg (argsL := argsL) (rest := rest) (hlen _ hsigM) hstack hdg
  obtain ⟨v, B, X', hpost, hsteps⟩ := hK m meth c ⟨T.setVm vm₁, locs, cells, slots⟩ { g with stack := rest } (.invokestatic index) mk argsL.toArray X₁ hg hsize hdg hW (X₁.named hnamed) (hpre vm₁ X₁.warmed)
  exact ⟨v, vm₁, B, X₁.warmed, X', hpost, fun target h => hstep₁ _ fun acts => by rw [doInvoke_state]; exact hsteps.trans h⟩
theorem vx_runSW {y : MethodName} {bytes cc : ByteArray} {maxL nL mc ms n index : Nat} {ret : Option FieldType} {hh : List (Nat × Nat × Nat × Nat)} {ws : List Cond} {rm : Room} {Pc : Array Value → State → Prop} {Qc : Array Value → State → Outcome → State → Prop} {free : Addr → Prop} {Ts : List Cond} {own : String} {As rest : List Value} {g : JFrame}
    (S : CallFix p m c cc nL s args Ts own) (hM : Met l y ws rm Pc Qc mc ms free) (cw : vx_CSW R s args own index y bytes maxL ret hh ws rm mc ms n) (hp : PreS s H Pc As)
    (hg : g.method = m) (hn : As.length = n) (hsize : g.locals.size = nL) (hstack : g.stack = As.reverse ++ rest) (hW : 2 * g.monitorRoom + (rest.map fun v => v.category).sum ≤ 8) (hdg : decode cc g.pc = .ok (.invokestatic index, 3)) (hf : cells + mc ≤ R.cells ∧ slots + ms ≤ R.slots) :
    va_Run p l e R s m args below meth c H locs cells slots mc ms g rest (Qc As.toArray) (free) := by
  obtain ⟨⟨hrc, hrs, hfr, hlo, hws, hcw⟩, hcode, hini, hy, hlen, hl, hstt⟩ := cw
  have hK : Back l R p e below s args y 3 8 (PreOf R mc ms Pc) (PostOf Qc mc ms free) := va_backW (hh := hh) (bytes := bytes) (maxL := maxL) (ret := ret) hM hp.1 hrc hrs hfr hlo hws hcw (fun a' U hW => word_at hW (Or.inl (by first | rfl | simp [Cond.onTables, Cond.keeps, Cond.steady])) hini)
  obtain ⟨hx, hb, hml, ho, -⟩ := S
  intro T hT X
  obtain ⟨v, vm₁, ⟨U', l2, c2, s2⟩, hW₁, X', ⟨g', mk, t, L, e1, e2, hq, h1, hL, h2, h3⟩, st⟩ := vx_callSW X hx (hh := hh) (bytes := bytes) (maxL := maxL) (ret := ret) ho hl hstt hini hcode hy hK hg (hsize.trans hml.symm) (argsL := As) (rest := rest) (fun sig h => hn.trans (hlen sig h)) hstack hW (by rw [hb]; exact hdg)
    (fun vm₁ hW₁ => ⟨hf.1, hf.2, hp.2 (T.setVm vm₁) hT hW₁⟩)
  dsimp only [Pt.U, Pt.locs, Pt.cells, Pt.slots] at X' e1 e2 h1 h2 h3 st
  subst h1; subst h2; subst h3
  exact ⟨v, (T.setVm vm₁).calling g' mk As.toArray, t, U', L, hT, X', hL, e1, e2, hq, st⟩
/-- not caught here, past rows that name other classes: it goes on to the caller -/
theorem vx_outP {p : Program} {l : Launch} {e : Env} {R : Room} {s : State} {m : MethodId} {args : Array Value} {below : List Frame} {meth : Method} {c : Code} {H : Heap} {locs : List Loc} {cells slots : Nat} {free : Addr → Prop} {ls : Array Slot} {rest : List Value} {Qc : Array Value → State → Outcome → State → Prop} {XC : String → State → State → Prop}
    {pc : Nat} {own E : String} {ce : Cell} {q : Addr} {mc ms : Nat} (hown : s.vm.findClass own = some m.cls) (hlocks : meth.locks = false)
    (hpass : ∀ z ∈ c.exceptionTable.toList, covers z pc = false ∨ (z.catchType ≠ 0 ∧ ∃ nm : String, (Cond.classLink own z.catchType nm).before args s = true ∧ va_Nc E nm s)) (hcell : H[q]? = some ce) (hv : ce.vm = .none) (hcl : s.vm.findClass E = some ce.cls)
    (hx : ∀ t : State, t.heap = H → s.vm.Alike t.vm → XC E s t) (hf : ∀ z ∈ locs, free z.base) (hc : cells ≤ mc) (hs : slots ≤ ms) :
    vx_W p l e R s m args below meth c H locs cells slots (vx_MQ below Qc XC args s mc ms free) (F0 m pc ls rest) q := by
  intro T hT X
  have hpl : e.platform.magicAccessors = ({} : Platform).magicAccessors := by rw [X.admits.platform]
  obtain ⟨vm', hW', X', st⟩ := X.outThrough hlocks q (g := F0 m pc ls rest) rfl rfl rfl (cell := ce) (by rw [hT]; exact hcell) (by rw [hv]; rfl)
    (by obtain ⟨k9, h9, -⟩ := Vm.findClass_spec hcl; exact ⟨k9, h9⟩) (fun z hz => by
      rcases hpass z hz with h | ⟨hz0, nm, hl1, hn1⟩
      · exact Or.inl h
      · obtain ⟨c6, hc6, hcl6⟩ := Cond.classLink_spec hown hl1 e.platform hpl
        obtain ⟨a8, b8, h1, h2, h3⟩ := hn1
        cases Option.some.inj (h1.symm.trans hcl)
        cases Option.some.inj (h2.symm.trans hc6)
        exact Or.inr ⟨hz0, _, hcl6, h3⟩)
  obtain ⟨g₀, hfr⟩ := X'.frames_eq
  have hcell9 : ((T.setVm vm').setFrames (.throwing q :: below)).heap[q]? = some ce := by
    show T.heap[q]? = some ce
    rw [hT]; exact hcell
  have hend : Ended ((T.setVm vm').setFrames (.throwing q :: below)) below (.threw q) := State.frames_setFrames _ (State.cur_lt_of_frames hfr)
  refine ⟨(T.setVm vm').setFrames (.throwing q :: below), ?_, .threw q, X'.here.running, hend, Or.inr ⟨q, rfl, E, ce, locs, hx _ hT (X'.ends _).1.alike, hcell9, hv, hcl, (X'.ends _).1, (X'.ends _).2.mono hc hs, hf⟩⟩
  rw [X.pushThrowing_eq]
  exact st
/-- a thing of a world lies in the heap -/
theorem vx_lt {D : va_G} {cl : List vw_C} {ws : va_W} {H1 : Heap} (h : va_P D cl ws H1) {k : Nat} {q : Nat × va_E} (hk : ws[k]? = some q) : q.1 < H1.size := (h k q hk).lt
end VXS
/-! ===== END ===== -/
/-! ===== BEGIN methods with a table of their own: called by a name, returning or throwing ===== -/
section VXH
/-! vx_backW, vx_callVX, vx_callSX, vx_callVW, vx_runVW, vx_runVX, vx_runSX, vx_ofWH follow the same proofs as their sisters above (Free/Laws.lean, Shelf42/LK1.lean); vx_outP calls Shelf42/NT130.lean (outThrough). -/
section
variable {l : Launch} {R : Room} {p : Program} {e : Env} {below : List Frame} {s : State} {sargs : Array Value} {y : MethodName} {len W9 : Nat}
theorem vx_backW {ws : List Cond} {rm : Room} {Pc : Array Value → State → Prop} {Qc : Array Value → State → Outcome → State → Prop} {XC : String → State → State → Prop} {mc ms : Nat} {free : Addr → Prop} {bytes : ByteArray} {maxL : Nat} {ret : Option FieldType} {hh : List (Nat × Nat × Nat × Nat)}
    (hM : vx_Met l y ws rm Pc Qc XC mc ms free) (hblind : FrameBlind Pc) (hrc : rm.cells = mc) (hrs : rm.slots = ms)
    (hframes : rm.frames + 1 ≤ R.frames) (hlocals : W9 + (maxL + 11) + rm.locals ≤ R.locals)
    (hws : ∀ w ∈ ws, ∀ a' U, s.WarmedH U.vm → w.before a' U = true) (hcode : Cond.codeWith y bytes maxL ret hh ∈ ws) (hinit : ∀ a' U, s.WarmedH U.vm → (Cond.initialized y.cls).before a' U = true) :
    vx_Back l R p e below s sargs y len W9 (PreOf R mc ms Pc) (PostOf Qc mc ms free) (vx_Post XC mc ms free) := by
  intro m meth c A g ig mk a X hg hsize hdg hW hn hp
  have h1 : (headSpec ws rm).pre.before a A.U = true := atoms_intro fun w hw => hws w hw _ _ X.warmed
  have h2 : (Cond.codeWith y bytes maxL ret hh).before a A.U = true := hws _ hcode _ _ X.warmed
  have h3 : (Cond.initialized y.cls).before a A.U = true := hinit _ _ X.warmed
  have h4 : A.cells + (headSpec ws rm).room.cells ≤ R.cells := by rw [show (headSpec ws rm).room.cells = mc from hrc]; exact hp.1
  have h5 : A.slots + (headSpec ws rm).room.slots ≤ R.slots := by rw [show (headSpec ws rm).room.slots = ms from hrs]; exact hp.2.1
  have hPc : Pc a (A.U.calling g mk a) := hblind _ _ _ _ hp.2.2
  obtain ⟨U, Ls, c0, s0⟩ := A
  dsimp only [Pt.U, Pt.locs, Pt.cells, Pt.slots] at h1 h2 h3 h4 h5 X hn hPc ⊢
  obtain ⟨m9, methY, cY, hn9, hmY, hcY, -, hlY, -⟩ := Cond.codeWith_spec h2
  cases Option.some.inj (hn9.symm.trans hn)
  obtain ⟨kY, hkY, -⟩ := className_of_methodNamed hn
  have hinitY : kY.init = .initialized := Cond.initialized_spec (findClass_of_methodNamed hn) hkY h3
  have h : At U g.method c below := by rw [hg]; exact X.here
  have hlocals9 : W9 + (maxL + 11) + (headSpec ws rm).room.locals ≤ R.locals := hlocals
  have happ : (headSpec ws rm).appliesLoose y e.platform (U.calling g mk a) = true :=
    Spec.appliesLoose_calling (g := g) h hdg hn hkY hinitY
      (X.room_calling (g := g) (R' := (headSpec ws rm).room) hsize hmY hcY hframes (by rw [hlY]; omega) h4 h5) h1
  obtain ⟨mid, hmid⟩ := h.above
  have hfr : (U.setTop g).frames = (.java g :: mid) ++ below := by rw [State.frames_setTop' g h.top, hmid]; rfl
  obtain ⟨o, s₂, hsteps, -, hend, hq⟩ := Steps.callFree hM p X.admits X.cas X.clock (acts := []) hfr happ hPc trivial
  have hq' : vx_Q Qc XC mc ms free a (U.calling g mk a) o s₂ := hq
  rw [State.frames_setTop' g h.top] at hend
  obtain ⟨g₀, hg0⟩ := Option.isSome_iff_exists.mp h.top
  obtain ⟨r, hr⟩ := State.topJava?_eq_some.mp hg0
  have hr' : (({ U with heap := s₂.heap, slotsUsed := s₂.slotsUsed } : State).setVm s₂.vm).frames = .java g₀ :: r := hr
  rcases hq' with ⟨hqc, L, hfe, hL⟩ | ⟨q, rfl, E, ce, L, hx, hce, hcv, hcl, hW₂, hsm, hL⟩
  · obtain ⟨⟨v, rfl⟩, hW₂, e2, q2, q3, q4, q5, q6⟩ := id hfe
    have e3 : s₂ = ({ (U.calling g mk a).setFrames s₂.frames with heap := s₂.heap, slotsUsed := s₂.slotsUsed } : State).setVm s₂.vm := by
      have : s₂ = ({ s₂ with vm := (U.calling g mk a).vm } : State).setVm s₂.vm := rfl
      rw [e2] at this
      exact this
    obtain ⟨c₂, i₂, len₂, hc₂, hd₂, hf₂⟩ := hend
    have hW' : U.WarmedH s₂.vm := hW₂
    have hcc : c₂ = c := by
      have h1 : s₂.code? g.method = U.code? g.method := by
        rw [State.code?_eq, State.code?_eq, hW'.alike.method?]
      exact Option.some.inj (hc₂.symm.trans (h1.trans h.code))
    subst hcc
    have hlen : len₂ = len := by rw [hdg] at hd₂; cases hd₂; rfl
    subst hlen
    have hs₂ : s₂ = (({ U with heap := s₂.heap, slotsUsed := s₂.slotsUsed } : State).setVm s₂.vm).setTop { g with pc := g.pc + len₂, stack := v.toList ++ g.stack } := by
      refine e3.trans ?_
      rw [hf₂, State.calling_eq h.top, State.setFrames_setFrames, State.setTop_of_frames _ hr', hr]
      rfl
    have hsame : U.sameButNew ({ U with heap := s₂.heap, slotsUsed := s₂.slotsUsed } : State) L mc ms := by
      refine ⟨?_, q2, q3, q4, q5, q6⟩
      obtain ⟨t, ht, -⟩ := State.frames_cons hr
      show ({ U with heap := s₂.heap, slotsUsed := s₂.slotsUsed } : State) = { U.setFrames U.frames with heap := s₂.heap, slotsUsed := s₂.slotsUsed }
      rw [State.setFrames_self ht]
    subst hg
    refine Or.inl ⟨v, ⟨(({ U with heap := s₂.heap, slotsUsed := s₂.slotsUsed } : State).setVm s₂.vm), Ls ++ L, c0 + mc, s0 + ms⟩,
      ⟨X.admits, X.cas, X.clock, X.frames, X.room, X.hears, X.method, X.code, (X.here.setHeapUsed s₂.heap s₂.slotsUsed).setVm hW'.alike, X.tail, State.WarmedH.trans X.warmed hW', X.limits, X.bytes, X.same.trans (hsame.setVm s.vm)⟩,
      ⟨g, mk, s₂, L, rfl, rfl, hqc, rfl, hL, rfl, rfl⟩, ?_⟩
    show Steps p.tables e below _ ((({ U with heap := s₂.heap, slotsUsed := s₂.slotsUsed } : State).setVm s₂.vm).setTop { g with pc := g.pc + len₂, stack := v.toList ++ g.stack })
    rw [← hs₂]
    exact hsteps
  · obtain ⟨e2, q2, q3, q4, q5, q6⟩ := id hsm
    have e3 : s₂ = ({ (U.calling g mk a).setFrames s₂.frames with heap := s₂.heap, slotsUsed := s₂.slotsUsed } : State).setVm s₂.vm := by
      have : s₂ = ({ s₂ with vm := (U.calling g mk a).vm } : State).setVm s₂.vm := rfl
      rw [e2] at this
      exact this
    have hf₂ : s₂.frames = .throwing q :: .java g :: U.frames.tail := hend
    have hW' : U.WarmedH s₂.vm := hW₂
    have hs₂ : s₂ = ((({ U with heap := s₂.heap, slotsUsed := s₂.slotsUsed } : State).setVm s₂.vm).setTop g).pushFrame (.throwing q) := by
      refine e3.trans ?_
      rw [hf₂, State.calling_eq h.top, State.setFrames_setFrames, State.pushFrame, State.frames_setTop _ hr', State.setTop_of_frames _ hr', State.setFrames_setFrames, hr]
      rfl
    have hsame : U.sameButNew ({ U with heap := s₂.heap, slotsUsed := s₂.slotsUsed } : State) L mc ms := by
      refine ⟨?_, q2, q3, q4, q5, q6⟩
      obtain ⟨t, ht, -⟩ := State.frames_cons hr
      show ({ U with heap := s₂.heap, slotsUsed := s₂.slotsUsed } : State) = { U.setFrames U.frames with heap := s₂.heap, slotsUsed := s₂.slotsUsed }
      rw [State.setFrames_self ht]
    subst hg
    refine Or.inr ⟨q, ⟨(({ U with heap := s₂.heap, slotsUsed := s₂.slotsUsed } : State).setVm s₂.vm), Ls ++ L, c0 + mc, s0 + ms⟩,
      ⟨X.admits, X.cas, X.clock, X.frames, X.room, X.hears, X.method, X.code, (X.here.setHeapUsed s₂.heap s₂.slotsUsed).setVm hW'.alike, X.tail, State.WarmedH.trans X.warmed hW', X.limits, X.bytes, X.same.trans (hsame.setVm s.vm)⟩,
      ⟨g, mk, s₂, L, E, ce, rfl, rfl, hx, hce, hcv, hcl, rfl, hL, rfl, rfl⟩, ?_⟩
    show Steps p.tables e below _ (((({ U with heap := s₂.heap, slotsUsed := s₂.slotsUsed } : State).setVm s₂.vm).setTop g).pushFrame (.throwing q))
    rw [← hs₂]
    exact hsteps
end
variable {p : Program} {l : Launch} {e : Env} {R : Room} {s : State} {m : MethodId} {args : Array Value} {below : List Frame} {meth : Method} {c : Code} {T : State} {H : Heap} {locs : List Loc} {cells slots : Nat}
theorem vx_callVX (X : Stand p l e R s m args below meth c T locs cells slots) (hexec : p.tables.exec = Jvm.exec) {own C : String} {index : Nat} {y : MethodName} {bytes : ByteArray} {maxL : Nat} {ret : Option FieldType} {hh : List (Nat × Nat × Nat × Nat)}
    (hown : s.vm.findClass own = some m.cls) (hlink : (Cond.methodLink own index y).before args s = true) (hinst : (Cond.instanceMethod y).before args s = true) (hsel : (Cond.selects C y y).before args s = true)
    (hcode : (Cond.codeWith y bytes maxL ret hh).before args s = true) (hy : y.cls ≠ "java/lang/invoke/MethodHandle" ∧ y.cls ≠ "java/lang/invoke/VarHandle")
    {W9 : Nat} {Pre : Pt → Array Value → Prop} {Post : Pt → Array Value → Option Value → Pt → Prop} {PostX : Pt → Array Value → Addr → Pt → Prop} (hK : vx_Back l R p e below s args y 3 W9 Pre Post PostX)
    {b : Addr} {cellB : Cell} (hcell : T.heap[b]? = some cellB) (hobj : cellB.vm.isStatics = false) (hcls : s.vm.findClass C = some cellB.cls)
    {g : JFrame} (hg : g.method = m) (hsize : g.locals.size = c.maxLocals) {argsL rest : List Value} (hlen : ∀ sig, parseMethodDescriptor y.desc = some sig → argsL.length = sig.parameters.length)
    (hstack : g.stack = argsL.reverse ++ .ref b :: rest) (hW : 2 * g.monitorRoom + (rest.map fun v => v.category).sum ≤ W9) (hdg : decode c.code g.pc = .ok (.invokevirtual index, 3))
    (hpre : ∀ vm₁, s.WarmedH vm₁ → Pre ⟨T.setVm vm₁, locs, cells, slots⟩ (Value.ref b :: argsL).toArray) :
    (∃ (v : Option Value) (vm₁ : Vm) (B : Pt), s.WarmedH vm₁ ∧ Stand p l e R s m args below meth c B.U B.locs B.cells B.slots ∧ Post ⟨T.setVm vm₁, locs, cells, slots⟩ (Value.ref b :: argsL).toArray v B ∧
      ∀ target, Steps p.tables e below (B.U.setTop { g with pc := g.pc + 3, stack := v.toList ++ rest }) target → Steps p.tables e below (T.setTop g) target) ∨
    (∃ (q : Addr) (vm₁ : Vm) (B : Pt), s.WarmedH vm₁ ∧ Stand p l e R s m args below meth c B.U B.locs B.cells B.slots ∧ PostX ⟨T.setVm vm₁, locs, cells, slots⟩ (Value.ref b :: argsL).toArray q B ∧
      Steps p.tables e below (T.setTop g) ((B.U.setTop { g with stack := rest }).pushFrame (.throwing q))) := by
  obtain ⟨mk, methM, hnamed, hmethM, hstM, habM⟩ := Cond.instanceMethod_spec hinst
  obtain ⟨m8, methM', cM, hn8, hmethM', -, -, -, -, -, -, hsigM⟩ := Cond.codeWith_spec hcode
  cases Option.some.inj (hn8.symm.trans hnamed)
  cases hmethM.symm.trans hmethM'
  obtain ⟨c2, r2, m2, q1, q2, q3, q4, kP, hkP, hkPi⟩ := Cond.selects_spec hsel
  cases hcls.symm.trans q1
  cases (State.methodFound?_of_named hnamed hy).symm.trans q2
  cases hnamed.symm.trans q3
  have hselP : selectMethod e.platform s.vm cellB.cls mk = .method mk := by rw [Launch.admits_selectMethod X.admits]; exact q4
  obtain ⟨vm₁, X₁, hstep₁⟩ := X.invokevirtual hexec hown hlink hnamed hmethM hstM hkP hkPi hy (a := b) (cell := cellB) hcell
    (fun z h => by rw [h] at hobj; cases hobj) hselP hmethM habM hkP hkPi (g := g) hg (argsL := argsL) (rest := rest) (hlen _ hsigM) hstack hdg
  rcases hK m meth c ⟨T.setVm vm₁, locs, cells, slots⟩ { g with stack := rest } (.invokevirtual index) mk (Value.ref b :: argsL).toArray X₁ hg hsize hdg hW (X₁.named hnamed) (hpre vm₁ X₁.warmed) with ⟨v, B, X', hpost, hsteps⟩ | ⟨q, B, X', hpost, hsteps⟩
  · exact Or.inl ⟨v, vm₁, B, X₁.warmed, X', hpost, fun target h => hstep₁ _ fun acts => by rw [doInvoke_state]; exact hsteps.trans h⟩
  · exact Or.inr ⟨q, vm₁, B, X₁.warmed, X', hpost, hstep₁ _ fun acts => by rw [doInvoke_state]; exact hsteps⟩
theorem vx_callSX (X : Stand p l e R s m args below meth c T locs cells slots) (hexec : p.tables.exec = Jvm.exec) {own : String} {index : Nat} {y : MethodName} {bytes : ByteArray} {maxL : Nat} {ret : Option FieldType} {hh : List (Nat × Nat × Nat × Nat)}
    (hown : s.vm.findClass own = some m.cls) (hlink : (Cond.methodLink own index y).before args s = true) (hstat : (Cond.static y).before args s = true) (hinit : (Cond.initialized y.cls).before args s = true)
    (hcode : (Cond.codeWith y bytes maxL ret hh).before args s = true) (hy : y.cls ≠ "java/lang/invoke/MethodHandle" ∧ y.cls ≠ "java/lang/invoke/VarHandle")
    {W9 : Nat} {Pre : Pt → Array Value → Prop} {Post : Pt → Array Value → Option Value → Pt → Prop} {PostX : Pt → Array Value → Addr → Pt → Prop} (hK : vx_Back l R p e below s args y 3 W9 Pre Post PostX)
    {g : JFrame} (hg : g.method = m) (hsize : g.locals.size = c.maxLocals) {argsL rest : List Value} (hlen : ∀ sig, parseMethodDescriptor y.desc = some sig → argsL.length = sig.parameters.length)
    (hstack : g.stack = argsL.reverse ++ rest) (hW : 2 * g.monitorRoom + (rest.map fun v => v.category).sum ≤ W9) (hdg : decode c.code g.pc = .ok (.invokestatic index, 3))
    (hpre : ∀ vm₁, s.WarmedH vm₁ → Pre ⟨T.setVm vm₁, locs, cells, slots⟩ argsL.toArray) :
    (∃ (v : Option Value) (vm₁ : Vm) (B : Pt), s.WarmedH vm₁ ∧ Stand p l e R s m args below meth c B.U B.locs B.cells B.slots ∧ Post ⟨T.setVm vm₁, locs, cells, slots⟩ argsL.toArray v B ∧
      ∀ target, Steps p.tables e below (B.U.setTop { g with pc := g.pc + 3, stack := v.toList ++ rest }) target → Steps p.tables e below (T.setTop g) target) ∨
    (∃ (q : Addr) (vm₁ : Vm) (B : Pt), s.WarmedH vm₁ ∧ Stand p l e R s m args below meth c B.U B.locs B.cells B.slots ∧ PostX ⟨T.setVm vm₁, locs, cells, slots⟩ argsL.toArray q B ∧
      Steps p.tables e below (T.setTop g) ((B.U.setTop { g with stack := rest }).pushFrame (.throwing q))) := by
  obtain ⟨mk, methM, cM, hnamed, hmethM, -, -, -, -, -, -, hsigM⟩ := Cond.codeWith_spec hcode
  have hstatic : methM.isStatic = true := Cond.static_spec hnamed hmethM hstat
  obtain ⟨kP, hkP, -⟩ := className_of_methodNamed hnamed
  have hinitP : kP.init = .initialized := Cond.initialized_spec (findClass_of_methodNamed hnamed) hkP hinit
  obtain ⟨vm₁, X₁, hstep₁⟩ := X.invokestatic hexec hown hlink hnamed hmethM hstatic hkP hinitP hy (g := g) hg (argsL := argsL) (rest := rest) (hlen _ hsigM) hstack hdg
  rcases hK m meth c ⟨T.setVm vm₁, locs, cells, slots⟩ { g with stack := rest } (.invokestatic index) mk argsL.toArray X₁ hg hsize hdg hW (X₁.named hnamed) (hpre vm₁ X₁.warmed) with ⟨v, B, X', hpost, hsteps⟩ | ⟨q, B, X', hpost, hsteps⟩
  · exact Or.inl ⟨v, vm₁, B, X₁.warmed, X', hpost, fun target h => hstep₁ _ fun acts => by rw [doInvoke_state]; exact hsteps.trans h⟩
  · exact Or.inr ⟨q, vm₁, B, X₁.warmed, X', hpost, hstep₁ _ fun acts => by rw [doInvoke_state]; exact hsteps⟩
theorem vx_callVW (X : Stand p l e R s m args below meth c T locs cells slots) (hexec : p.tables.exec = Jvm.exec) {own C : String} {index : Nat} {y : MethodName} {bytes : ByteArray} {maxL : Nat} {ret : Option FieldType} {hh : List (Nat × Nat × Nat × Nat)}
    (hown : s.vm.findClass own = some m.cls) (hlink : (Cond.methodLink own index y).before args s = true) (hinst : (Cond.instanceMethod y).before args s = true) (hsel : (Cond.selects C y y).before args s = true)
    (hcode : (Cond.codeWith y bytes maxL ret hh).before args s = true) (hy : y.cls ≠ "java/lang/invoke/MethodHandle" ∧ y.cls ≠ "java/lang/invoke/VarHandle")
    {W9 : Nat} {Pre : Pt → Array Value → Prop} {Post : Pt → Array Value → Option Value → Pt → Prop} (hK : Back l R p e below s args y 3 W9 Pre Post)
    {b : Addr} {cellB : Cell} (hcell : T.heap[b]? = some cellB) (hobj : cellB.vm.isStatics = false) (hcls : s.vm.findClass C = some cellB.cls)
    {g : JFrame} (hg : g.method = m) (hsize : g.locals.size = c.maxLocals) {argsL rest : List Value} (hlen : ∀ sig, parseMethodDescriptor y.desc = some sig → argsL.length = sig.parameters.length)
    (hstack : g.stack = argsL.reverse ++ .ref b :: rest) (hW : 2 * g.monitorRoom + (rest.map fun v => v.category).sum ≤ W9) (hdg : decode c.code g.pc = .ok (.invokevirtual index, 3))
    (hpre : ∀ vm₁, s.WarmedH vm₁ → Pre ⟨T.setVm vm₁, locs, cells, slots⟩ (Value.ref b :: argsL).toArray) :
    ∃ (v : Option Value) (vm₁ : Vm) (B : Pt), s.WarmedH vm₁ ∧ Stand p l e R s m args below meth c B.U B.locs B.cells B.slots ∧ Post ⟨T.setVm vm₁, locs, cells, slots⟩ (Value.ref b :: argsL).toArray v B ∧
      ∀ target, Steps p.tables e below (B.U.setTop { g with pc := g.pc + 3, stack := v.toList ++ rest }) target → Steps p.tables e below (T.setTop g) target := by
  obtain ⟨mk, methM, hnamed, hmethM, hstM, habM⟩ := Cond.instanceMethod_spec hinst
  obtain ⟨m8, methM', cM, hn8, hmethM', -, -, -, -, -, -, hsigM⟩ := Cond.codeWith_spec hcode
  cases Option.some.inj (hn8.symm.trans hnamed)
  cases hmethM.symm.trans hmethM'
  obtain ⟨c2, r2, m2, q1, q2, q3, q4, kP, hkP, hkPi⟩ := Cond.selects_spec hsel
  cases hcls.symm.trans q1
  cases (State.methodFound?_of_named hnamed hy).symm.trans q2
  cases hnamed.symm.trans q3
  have hselP : selectMethod e.platform s.vm cellB.cls mk = .method mk := by rw [Launch.admits_selectMethod X.admits]; exact q4
  obtain ⟨vm₁, X₁, hstep₁⟩ := X.invokevirtual hexec hown hlink hnamed hmethM hstM hkP hkPi hy (a := b) (cell := cellB) hcell
    (fun z h => by rw [h] at hobj; cases hobj) hselP hmethM habM hkP hkPi (g := g) hg (argsL := argsL) (rest := rest) (hlen _ hsigM) hstack hdg
  obtain ⟨v, B, X', hpost, hsteps⟩ := hK m meth c ⟨T.setVm vm₁, locs, cells, slots⟩ { g with stack := rest } (.invokevirtual index) mk (Value.ref b :: argsL).toArray X₁ hg hsize hdg hW (X₁.named hnamed) (hpre vm₁ X₁.warmed)
  exact ⟨v, vm₁, B, X₁.warmed, X', hpost, fun target h => hstep₁ _ fun acts => by rw [doInvoke_state]; exact hsteps.trans h⟩
abbrev vx_CVW (R : Room) (s : State) (args : Array Value) (own C : String) (index : Nat) (y : MethodName) (bytes : ByteArray) (maxL : Nat) (ret : Option FieldType) (hh : List (Nat × Nat × Nat × Nat)) (ws : List Cond) (rm : Room) (mc ms n : Nat) : Prop :=
  (rm.cells = mc ∧ rm.slots = ms ∧ rm.frames + 1 ≤ R.frames ∧ 8 + (maxL + 11) + rm.locals ≤ R.locals ∧ (∀ w ∈ ws, ∀ (a' : Array Value) (U : State), s.WarmedH U.vm → w.before a' U = true) ∧ Cond.codeWith y bytes maxL ret hh ∈ ws) ∧
  (Cond.codeWith y bytes maxL ret hh).before args s = true ∧ (Cond.initialized y.cls).before args s = true ∧ (y.cls ≠ "java/lang/invoke/MethodHandle" ∧ y.cls ≠ "java/lang/invoke/VarHandle") ∧
  (∀ sig, parseMethodDescriptor y.desc = some sig → n = sig.parameters.length) ∧ (Cond.methodLink own index y).before args s = true ∧ (Cond.instanceMethod y).before args s = true ∧ (Cond.selects C y y).before args s = true
theorem vx_cwVW {own C : String} {index maxL mc ms : Nat} {y : MethodName} {bytes : ByteArray} {ret : Option FieldType} {hh : List (Nat × Nat × Nat × Nat)} {Ts ws ws' : List Cond} {rm : Room} (n : Nat) (ht : ∀ w ∈ Ts, w.before args s = true) (hT : GoodIn Ts (wsV own index C y ws)) (hw : ws = Cond.codeWith y bytes maxL ret hh :: ws') (hrc : rm.cells = mc) (hrs : rm.slots = ms)
    (hd : y.cls = C ∧ y.cls ≠ "java/lang/invoke/MethodHandle" ∧ y.cls ≠ "java/lang/invoke/VarHandle" ∧ (parseMethodDescriptor y.desc).map (fun d => d.parameters.length) = some n) (hR : rm.frames + 1 ≤ R.frames ∧ 8 + (maxL + 11) + rm.locals ≤ R.locals) :
    vx_CVW R s args own C index y bytes maxL ret hh ws rm mc ms n := by
  obtain ⟨hC, hd⟩ := hd
  subst hC
  have ok : ∀ w ∈ wsV own index y.cls y ws, w.before args s = true := fun w h => ht w (hT w h).1
  have hG : GoodIn Ts ws := fun w h => hT w (by unfold wsV; exact List.mem_append_right _ h)
  have hc : Cond.codeWith y bytes maxL ret hh ∈ ws := by rw [hw]; exact List.mem_cons_self
  refine ⟨⟨hrc, hrs, hR.1, hR.2, pay_in ht hG, hc⟩, ht _ (hG _ hc).1, ok _ (by simp [wsV]), ⟨hd.1, hd.2.1⟩, fun sig h => ?_, ok _ (by simp [wsV]), ok _ (by simp [wsV]), ok _ (by simp [wsV])⟩
  have h2 := hd.2.2
  rw [h] at h2
  exact (Option.some.inj h2).symm
theorem vx_runVW {y : MethodName} {bytes cc : ByteArray} {maxL nL mc ms n index : Nat} {ret : Option FieldType} {hh : List (Nat × Nat × Nat × Nat)} {ws : List Cond} {rm : Room} {Pc : Array Value → State → Prop} {Qc : Array Value → State → Outcome → State → Prop} {free : Addr → Prop} {Ts : List Cond} {own C : String} {b : Addr} {As rest : List Value} {g : JFrame}
    (S : CallFix p m c cc nL s args Ts own) (hM : Met l y ws rm Pc Qc mc ms free) (cw : vx_CVW R s args own C index y bytes maxL ret hh ws rm mc ms n) (hp : PreV s H C b Pc As)
    (hg : g.method = m) (hn : As.length = n) (hsize : g.locals.size = nL) (hstack : g.stack = As.reverse ++ .ref b :: rest) (hW : 2 * g.monitorRoom + (rest.map fun v => v.category).sum ≤ 8) (hdg : decode cc g.pc = .ok (.invokevirtual index, 3)) (hf : cells + mc ≤ R.cells ∧ slots + ms ≤ R.slots) :
    va_Run p l e R s m args below meth c H locs cells slots mc ms g rest (Qc (Value.ref b :: As).toArray) free := by
  obtain ⟨⟨hrc, hrs, hfr, hlo, hws, hcw⟩, hcode, hini, hy, hlen, hl, hin, hse⟩ := cw
  have hK : Back l R p e below s args y 3 8 (PreOf R mc ms Pc) (PostOf Qc mc ms free) := va_backW (hh := hh) (bytes := bytes) (maxL := maxL) (ret := ret) hM hp.1 hrc hrs hfr hlo hws hcw (fun a' U hW => word_at hW (Or.inl (by first | rfl | simp [Cond.onTables, Cond.keeps, Cond.steady])) hini)
  obtain ⟨hx, hb, hml, ho, -⟩ := S
  obtain ⟨-, ⟨cellB, hcB, hoB, hclB⟩, hPc⟩ := hp
  intro T hT X
  obtain ⟨v, vm₁, ⟨U', l2, c2, s2⟩, hW₁, X', ⟨g', mk, t, L, e1, e2, hq, h1, hL, h2, h3⟩, st⟩ := vx_callVW X hx (C := C) (hh := hh) (bytes := bytes) (maxL := maxL) (ret := ret) ho hl hin hse hcode hy hK (by rw [hT]; exact hcB) hoB hclB hg (hsize.trans hml.symm) (argsL := As) (rest := rest) (fun sig h => hn.trans (hlen sig h)) hstack hW (by rw [hb]; exact hdg)
    (fun vm₁ hW₁ => ⟨hf.1, hf.2, hPc (T.setVm vm₁) hT hW₁⟩)
  dsimp only [Pt.U, Pt.locs, Pt.cells, Pt.slots] at X' e1 e2 h1 h2 h3 st
  subst h1; subst h2; subst h3
  exact ⟨v, (T.setVm vm₁).calling g' mk (Value.ref b :: As).toArray, t, U', L, hT, X', hL, e1, e2, hq, st⟩
section
variable {y : MethodName} {bytes cc : ByteArray} {maxL nL mc ms n index : Nat} {ret : Option FieldType} {ws : List Cond} {rm : Room} {Pc : Array Value → State → Prop} {Qc : Array Value → State → Outcome → State → Prop} {XC : String → State → State → Prop} {free : Addr → Prop} {Ts : List Cond} {own C : String} {b : Addr} {As rest : List Value} {g : JFrame}
theorem vx_runVX {hh : List (Nat × Nat × Nat × Nat)} (S : CallFix p m c cc nL s args Ts own) (hM : vx_Met l y ws rm Pc Qc XC mc ms free) (cw : vx_CVW R s args own C index y bytes maxL ret hh ws rm mc ms n) (hp : PreV s H C b Pc As)
    (hg : g.method = m) (hn : As.length = n) (hsize : g.locals.size = nL) (hstack : g.stack = As.reverse ++ .ref b :: rest) (hW : 2 * g.monitorRoom + (rest.map fun v => v.category).sum ≤ 8) (hdg : decode cc g.pc = .ok (.invokevirtual index, 3)) (hf : cells + mc ≤ R.cells ∧ slots + ms ≤ R.slots) :
    vx_Run p l e R s m args below meth c H locs cells slots mc ms g rest (Qc (Value.ref b :: As).toArray) XC free := by
  obtain ⟨⟨hrc, hrs, hfr, hlo, hws, hcw⟩, hcode, hini, hy, hlen, hl, hin, hse⟩ := cw
  have hK : vx_Back l R p e below s args y 3 8 (PreOf R mc ms Pc) (PostOf Qc mc ms free) (vx_Post XC mc ms free) := vx_backW (hh := hh) (bytes := bytes) (maxL := maxL) (ret := ret) hM hp.1 hrc hrs hfr hlo hws hcw (fun a' U hW => word_at hW (Or.inl (by first | rfl | simp [Cond.onTables, Cond.keeps, Cond.steady])) hini)
  obtain ⟨hx, hb, hml, ho, -⟩ := S
  obtain ⟨-, ⟨cellB, hcB, hoB, hclB⟩, hPc⟩ := hp
  intro T hT X
  rcases vx_callVX X hx (C := C) (hh := hh) (bytes := bytes) (maxL := maxL) (ret := ret) ho hl hin hse hcode hy hK (by rw [hT]; exact hcB) hoB hclB hg (hsize.trans hml.symm) (argsL := As) (rest := rest) (fun sig h => hn.trans (hlen sig h)) hstack hW (by rw [hb]; exact hdg)
    (fun vm₁ hW₁ => ⟨hf.1, hf.2, hPc (T.setVm vm₁) hT hW₁⟩) with ⟨v, vm₁, ⟨U', l2, c2, s2⟩, hW₁, X', ⟨g', mk, t, L, e1, e2, hq, h1, hL, h2, h3⟩, st⟩ | ⟨q, vm₁, ⟨U', l2, c2, s2⟩, hW₁, X', ⟨g', mk, t, L, E, ce, e1, e2, hq, hce, hcv, hcl, h1, hL, h2, h3⟩, st⟩
  · dsimp only [Pt.U, Pt.locs, Pt.cells, Pt.slots] at X' e1 e2 h1 h2 h3 st
    subst h1; subst h2; subst h3
    exact Or.inl ⟨v, (T.setVm vm₁).calling g' mk (Value.ref b :: As).toArray, t, U', L, hT, X', hL, e1, e2, hq, st⟩
  · dsimp only [Pt.U, Pt.locs, Pt.cells, Pt.slots] at X' e1 e2 h1 h2 h3 st hcl
    subst h1; subst h2; subst h3
    exact Or.inr ⟨q, (T.setVm vm₁).calling g' mk (Value.ref b :: As).toArray, t, U', L, E, ce, hT, X', hL, e1, e2, hq, hce, hcv, vx_cls hW₁ hcl, st⟩
theorem vx_runSX {hh : List (Nat × Nat × Nat × Nat)} (S : CallFix p m c cc nL s args Ts own) (hM : vx_Met l y ws rm Pc Qc XC mc ms free) (cw : vx_CSW R s args own index y bytes maxL ret hh ws rm mc ms n) (hp : PreS s H Pc As)
    (hg : g.method = m) (hn : As.length = n) (hsize : g.locals.size = nL) (hstack : g.stack = As.reverse ++ rest) (hW : 2 * g.monitorRoom + (rest.map fun v => v.category).sum ≤ 8) (hdg : decode cc g.pc = .ok (.invokestatic index, 3)) (hf : cells + mc ≤ R.cells ∧ slots + ms ≤ R.slots) :
    vx_Run p l e R s m args below meth c H locs cells slots mc ms g rest (Qc As.toArray) XC free := by
  obtain ⟨⟨hrc, hrs, hfr, hlo, hws, hcw⟩, hcode, hini, hy, hlen, hl, hstt⟩ := cw
  have hK : vx_Back l R p e below s args y 3 8 (PreOf R mc ms Pc) (PostOf Qc mc ms free) (vx_Post XC mc ms free) := vx_backW (hh := hh) (bytes := bytes) (maxL := maxL) (ret := ret) hM hp.1 hrc hrs hfr hlo hws hcw (fun a' U hW => word_at hW (Or.inl (by first | rfl | simp [Cond.onTables, Cond.keeps, Cond.steady])) hini)
  obtain ⟨hx, hb, hml, ho, -⟩ := S
  intro T hT X
  rcases vx_callSX X hx (hh := hh) (bytes := bytes) (maxL := maxL) (ret := ret) ho hl hstt hini hcode hy hK hg (hsize.trans hml.symm) (argsL := As) (rest := rest) (fun sig h => hn.trans (hlen sig h)) hstack hW (by rw [hb]; exact hdg)
    (fun vm₁ hW₁ => ⟨hf.1, hf.2, hp.2 (T.setVm vm₁) hT hW₁⟩) with ⟨v, vm₁, ⟨U', l2, c2, s2⟩, hW₁, X', ⟨g', mk, t, L, e1, e2, hq, h1, hL, h2, h3⟩, st⟩ | ⟨q, vm₁, ⟨U', l2, c2, s2⟩, hW₁, X', ⟨g', mk, t, L, E, ce, e1, e2, hq, hce, hcv, hcl, h1, hL, h2, h3⟩, st⟩
  · dsimp only [Pt.U, Pt.locs, Pt.cells, Pt.slots] at X' e1 e2 h1 h2 h3 st
    subst h1; subst h2; subst h3
    exact Or.inl ⟨v, (T.setVm vm₁).calling g' mk As.toArray, t, U', L, hT, X', hL, e1, e2, hq, st⟩
  · dsimp only [Pt.U, Pt.locs, Pt.cells, Pt.slots] at X' e1 e2 h1 h2 h3 st hcl
    subst h1; subst h2; subst h3
    exact Or.inr ⟨q, (T.setVm vm₁).calling g' mk As.toArray, t, U', L, E, ce, hT, X', hL, e1, e2, hq, hce, hcv, vx_cls hW₁ hcl, st⟩
end
end VXH
theorem vx_ofWH {l : Launch} {y : MethodName} {ws ws' : List Cond} {rm : Room} {Pc : Array Value → State → Prop} {Qc : Array Value → State → Outcome → State → Prop} {XC : String → State → State → Prop} {mc ms : Nat} {free : Addr → Prop} {cc : ByteArray} {maxL : Nat} {ret : Option FieldType} {hh : List (Nat × Nat × Nat × Nat)}
    (hy : plainName y.cls = true) (hw : ws = Cond.codeWith y cc maxL ret hh :: ws')
    (body : ∀ p e s m args below meth c s₁, BodyLoose p l y (headSpec ws rm) cc maxL ret e s m args below meth c s₁ → c.maxLocals = maxL → Pc args s →
      W p l e (headSpec ws rm).room s m args below meth c s.heap [] 0 0 (vx_MQ below Qc XC args s mc ms free) (entryFrame m args maxL)) : vx_Met l y ws rm Pc Qc XC mc ms free := by
  refine MetFree.of_bodyS (code := cc) (maxLocals := maxL) (ret := ret) hy ?_ ?_
  · intro args s m h hn
    obtain ⟨m9, meth, c, hn9, h1, h2, h3, h4, -, h5, h6, -⟩ := Cond.codeWith_spec (atoms_spec (ws := ws) h _ (by rw [hw]; exact List.mem_cons_self))
    cases hn.symm.trans hn9
    exact ⟨meth, c, h1, h2, h3, h4, h5, h6⟩
  · intro p e s m args below meth c s₁ B hml hP _
    have hh0 : s₁.heap = s.heap := by rw [B.state]; rfl
    obtain ⟨t, a1, o, b1, b2, b3⟩ := body p e s m args below meth c s₁ B hml hP s₁ hh0 (Stand.of_body B)
    exact ⟨t, o, a1, b1, b2, b3⟩
/-! ===== END ===== -/
end
section
def RX0 : String := "FallingLines$History"
def TX0 : u_T := fun k => match k with
  | 0 => ("FallingLines$History", "kept", "I", false)
  | _ => ("FallingLines$History", "states", "[LFallingLines$Poem;", true)
def tyX0 : Nat → FieldType := fun k => match k with
  | 0 => .int
  | _ => .array (.object "FallingLines$Poem")
abbrev wsX00 : List Cond := u_ws RX0 TX0 2
theorem nmX0 : ∀ a, a < 2 → ∀ b, b < 2 → a ≠ b → (TX0 a).2.1 ≠ (TX0 b).2.1 := by decide +kernel
theorem tyX0_ok : ∀ k, k < 2 → parseFieldDescriptor (TX0 k).2.2.1 = some (tyX0 k) := by decide +kernel
abbrev cX0_init : ByteArray := prog_2_method_1_code
def yX0_init : MethodName := ⟨RX0, "<init>", "()V"⟩
abbrev cX0_keep : ByteArray := prog_2_method_2_code
def yX0_keep : MethodName := ⟨RX0, "keep", "(LFallingLines$Poem;)V"⟩
abbrev cX0_giveBackTo : ByteArray := prog_2_method_3_code
def yX0_giveBackTo : MethodName := ⟨RX0, "giveBackTo", "(LFallingLines$Poem;)V"⟩
abbrev cX0_dropOldest : ByteArray := prog_2_method_4_code
def yX0_dropOldest : MethodName := ⟨RX0, "dropOldest", "()V"⟩
def RX1 : String := "FallingLines$Poem"
def TX1 : u_T := fun k => match k with
  | 0 => ("FallingLines$Poem", "beat", "I", false)
  | 1 => ("FallingLines$Poem", "strength", "I", false)
  | 2 => ("FallingLines$Poem", "broken", "I", false)
  | 3 => ("FallingLines$Poem", "size", "I", false)
  | 4 => ("FallingLines$Poem", "width", "[I", true)
  | 5 => ("FallingLines$Poem", "weight", "[I", true)
  | 6 => ("FallingLines$Poem", "verse", "[I", true)
  | 7 => ("FallingLines$Poem", "column", "[I", true)
  | 8 => ("FallingLines$Poem", "start", "[I", true)
  | 9 => ("FallingLines$Poem", "row", "[I", true)
  | 10 => ("FallingLines$Poem", "span", "[I", true)
  | 11 => ("FallingLines$Poem", "filled", "[I", true)
  | _ => ("FallingLines$Poem", "keys", "[I", true)
def tyX1 : Nat → FieldType := fun k => match k with
  | 0 => .int
  | 1 => .int
  | 2 => .int
  | 3 => .int
  | 4 => .array .int
  | 5 => .array .int
  | 6 => .array .int
  | 7 => .array .int
  | 8 => .array .int
  | 9 => .array .int
  | 10 => .array .int
  | 11 => .array .int
  | _ => .array .int
abbrev wsX10 : List Cond := u_ws RX1 TX1 13
theorem nmX1 : ∀ a, a < 13 → ∀ b, b < 13 → a ≠ b → (TX1 a).2.1 ≠ (TX1 b).2.1 := by decide +kernel
theorem tyX1_ok : ∀ k, k < 13 → parseFieldDescriptor (TX1 k).2.2.1 = some (tyX1 k) := by decide +kernel
abbrev cX1_init : ByteArray := prog_3_method_1_code
def yX1_init : MethodName := ⟨RX1, "<init>", "()V"⟩
abbrev cX1_copyFrom : ByteArray := prog_3_method_2_code
def yX1_copyFrom : MethodName := ⟨RX1, "copyFrom", "(LFallingLines$Poem;)V"⟩
abbrev cX1_join : ByteArray := prog_3_method_3_code
def yX1_join : MethodName := ⟨RX1, "join", "(IIIII)I"⟩
abbrev cX1_takeVerseAway : ByteArray := prog_3_method_4_code
def yX1_takeVerseAway : MethodName := ⟨RX1, "takeVerseAway", "(I)I"⟩
abbrev cX1_isOnScreen : ByteArray := prog_3_method_5_code
def yX1_isOnScreen : MethodName := ⟨RX1, "isOnScreen", "(I)Z"⟩
abbrev cX1_passBeat : ByteArray := prog_3_method_6_code
def yX1_passBeat : MethodName := ⟨RX1, "passBeat", "()V"⟩
abbrev cX1_settle : ByteArray := prog_3_method_7_code
def yX1_settle : MethodName := ⟨RX1, "settle", "()I"⟩
abbrev cX1_letGo : ByteArray := prog_3_method_8_code
def yX1_letGo : MethodName := ⟨RX1, "letGo", "()V"⟩
abbrev cX1_moveLines : ByteArray := prog_3_method_9_code
def yX1_moveLines : MethodName := ⟨RX1, "moveLines", "()V"⟩
abbrev cX1_breakLines : ByteArray := prog_3_method_10_code
def yX1_breakLines : MethodName := ⟨RX1, "breakLines", "()V"⟩
abbrev cX1_isDue : ByteArray := prog_3_method_11_code
def yX1_isDue : MethodName := ⟨RX1, "isDue", "(I)Z"⟩
abbrev cX1_keyOf : ByteArray := prog_3_method_12_code
def yX1_keyOf : MethodName := ⟨RX1, "keyOf", "(II)I"⟩
abbrev cX1_numberOf : ByteArray := prog_3_method_13_code
def yX1_numberOf : MethodName := ⟨RX1, "numberOf", "(I)I"⟩
abbrev cX1_sortKeys : ByteArray := prog_3_method_14_code
def yX1_sortKeys : MethodName := ⟨RX1, "sortKeys", "(I)V"⟩
abbrev cX1_stepOf : ByteArray := prog_3_method_15_code
def yX1_stepOf : MethodName := ⟨RX1, "stepOf", "(I)I"⟩
abbrev cX1_takeStep : ByteArray := prog_3_method_16_code
def yX1_takeStep : MethodName := ⟨RX1, "takeStep", "(II)V"⟩
abbrev cX1_fall : ByteArray := prog_3_method_17_code
def yX1_fall : MethodName := ⟨RX1, "fall", "(I)V"⟩
abbrev cX1_isFreeBeside : ByteArray := prog_3_method_18_code
def yX1_isFreeBeside : MethodName := ⟨RX1, "isFreeBeside", "(IZ)Z"⟩
abbrev cX1_slide : ByteArray := prog_3_method_19_code
def yX1_slide : MethodName := ⟨RX1, "slide", "(IZ)V"⟩
abbrev cX1_takeAway : ByteArray := prog_3_method_20_code
def yX1_takeAway : MethodName := ⟨RX1, "takeAway", "(I)V"⟩
abbrev cX1_linesNear : ByteArray := prog_3_method_21_code
def yX1_linesNear : MethodName := ⟨RX1, "linesNear", "(II)I"⟩
abbrev cX1_loadOf : ByteArray := prog_3_method_22_code
def yX1_loadOf : MethodName := ⟨RX1, "loadOf", "(I)I"⟩
abbrev cX1_strengthOf : ByteArray := prog_3_method_23_code
def yX1_strengthOf : MethodName := ⟨RX1, "strengthOf", "(I)I"⟩
abbrev cX1_isAtRest : ByteArray := prog_3_method_24_code
def yX1_isAtRest : MethodName := ⟨RX1, "isAtRest", "(I)Z"⟩
abbrev cX1_isAllAtRest : ByteArray := prog_3_method_25_code
def yX1_isAllAtRest : MethodName := ⟨RX1, "isAllAtRest", "()Z"⟩
abbrev cX1_stateOf : ByteArray := prog_3_method_26_code
def yX1_stateOf : MethodName := ⟨RX1, "stateOf", "(I)I"⟩
abbrev cX1_placeOf : ByteArray := prog_3_method_27_code
def yX1_placeOf : MethodName := ⟨RX1, "placeOf", "(I)I"⟩
abbrev cX1_readAt : ByteArray := prog_3_method_28_code
def yX1_readAt : MethodName := ⟨RX1, "readAt", "(I)I"⟩
abbrev cX1_lineOn : ByteArray := prog_3_method_29_code
def yX1_lineOn : MethodName := ⟨RX1, "lineOn", "(II)I"⟩
abbrev cX1_property : ByteArray := prog_3_method_30_code
def yX1_property : MethodName := ⟨RX1, "property", "(II)I"⟩
abbrev cX1_tally : ByteArray := prog_3_method_31_code
def yX1_tally : MethodName := ⟨RX1, "tally", "(I)I"⟩
abbrev cX1_linesOnScreen : ByteArray := prog_3_method_32_code
def yX1_linesOnScreen : MethodName := ⟨RX1, "linesOnScreen", "()I"⟩
abbrev cX1_linesAtRest : ByteArray := prog_3_method_33_code
def yX1_linesAtRest : MethodName := ⟨RX1, "linesAtRest", "()I"⟩
abbrev cX1_linesGone : ByteArray := prog_3_method_34_code
def yX1_linesGone : MethodName := ⟨RX1, "linesGone", "()I"⟩
abbrev cX1_topmostRow : ByteArray := prog_3_method_35_code
def yX1_topmostRow : MethodName := ⟨RX1, "topmostRow", "()I"⟩
abbrev cX1_squares : ByteArray := prog_3_method_36_code
def yX1_squares : MethodName := ⟨RX1, "squares", "()I"⟩
abbrev cX1_greatestLoad : ByteArray := prog_3_method_37_code
def yX1_greatestLoad : MethodName := ⟨RX1, "greatestLoad", "()I"⟩
def RX2 : String := "FallingLines$PoemText"
def TX2 : u_T := fun k => match k with
  | 0 => ("FallingLines$PoemText", "length", "I", false)
  | 1 => ("FallingLines$PoemText", "codes", "[I", true)
  | 2 => ("FallingLines$PoemText", "told", "[I", true)
  | _ => ("FallingLines$PoemText", "part", "I", false)
def tyX2 : Nat → FieldType := fun k => match k with
  | 0 => .int
  | 1 => .array .int
  | 2 => .array .int
  | _ => .int
abbrev wsX20 : List Cond := u_ws RX2 TX2 4
theorem nmX2 : ∀ a, a < 4 → ∀ b, b < 4 → a ≠ b → (TX2 a).2.1 ≠ (TX2 b).2.1 := by decide +kernel
theorem tyX2_ok : ∀ k, k < 4 → parseFieldDescriptor (TX2 k).2.2.1 = some (tyX2 k) := by decide +kernel
abbrev cX2_init : ByteArray := prog_4_method_1_code
def yX2_init : MethodName := ⟨RX2, "<init>", "()V"⟩
abbrev cX2_add : ByteArray := prog_4_method_2_code
def yX2_add : MethodName := ⟨RX2, "add", "(I)V"⟩
abbrev cX2_scan : ByteArray := prog_4_method_3_code
def yX2_scan : MethodName := ⟨RX2, "scan", "()I"⟩
abbrev cX2_tellsPoem : ByteArray := prog_4_method_4_code
def yX2_tellsPoem : MethodName := ⟨RX2, "tellsPoem", "()Z"⟩
abbrev cX2_scanLine : ByteArray := prog_4_method_5_code
def yX2_scanLine : MethodName := ⟨RX2, "scanLine", "(I)I"⟩
abbrev cX2_beginLine : ByteArray := prog_4_method_6_code
def yX2_beginLine : MethodName := ⟨RX2, "beginLine", "()V"⟩
abbrev cX2_accepts : ByteArray := prog_4_method_7_code
def yX2_accepts : MethodName := ⟨RX2, "accepts", "(I)Z"⟩
abbrev cX2_acceptsDigit : ByteArray := prog_4_method_8_code
def yX2_acceptsDigit : MethodName := ⟨RX2, "acceptsDigit", "(I)Z"⟩
abbrev cX2_acceptsSign : ByteArray := prog_4_method_9_code
def yX2_acceptsSign : MethodName := ⟨RX2, "acceptsSign", "(I)Z"⟩
abbrev cX2_signBehind : ByteArray := prog_4_method_10_code
def yX2_signBehind : MethodName := ⟨RX2, "signBehind", "(I)I"⟩
abbrev cX2_leastOf : ByteArray := prog_4_method_11_code
def yX2_leastOf : MethodName := ⟨RX2, "leastOf", "(I)I"⟩
abbrev cX2_greatestOf : ByteArray := prog_4_method_12_code
def yX2_greatestOf : MethodName := ⟨RX2, "greatestOf", "(I)I"⟩
def RX3 : String := "FallingLines"
def TX3 : u_T := fun k => match k with
  | 0 => ("FallingLines", "poem", "LFallingLines$Poem;", true)
  | 1 => ("FallingLines", "trial", "LFallingLines$Poem;", true)
  | 2 => ("FallingLines", "history", "LFallingLines$History;", true)
  | _ => ("FallingLines", "text", "LFallingLines$PoemText;", true)
def tyX3 : Nat → FieldType := fun k => match k with
  | 0 => .object "FallingLines$Poem"
  | 1 => .object "FallingLines$Poem"
  | 2 => .object "FallingLines$History"
  | _ => .object "FallingLines$PoemText"
abbrev wsX30 : List Cond := u_ws RX3 TX3 4
theorem nmX3 : ∀ a, a < 4 → ∀ b, b < 4 → a ≠ b → (TX3 a).2.1 ≠ (TX3 b).2.1 := by decide +kernel
theorem tyX3_ok : ∀ k, k < 4 → parseFieldDescriptor (TX3 k).2.2.1 = some (tyX3 k) := by decide +kernel
abbrev cX3_init : ByteArray := prog_1_method_1_code
def yX3_init : MethodName := ⟨RX3, "<init>", "()V"⟩
abbrev cX3_line : ByteArray := prog_1_method_2_code
def yX3_line : MethodName := ⟨RX3, "line", "(IIIII)I"⟩
abbrev cX3_run : ByteArray := prog_1_method_3_code
def yX3_run : MethodName := ⟨RX3, "run", "(I)I"⟩
abbrev cX3_reset : ByteArray := prog_1_method_4_code
def yX3_reset : MethodName := ⟨RX3, "reset", "(I)I"⟩
abbrev cX3_push : ByteArray := prog_1_method_5_code
def yX3_push : MethodName := ⟨RX3, "push", "(IZ)I"⟩
abbrev cX3_set : ByteArray := prog_1_method_6_code
def yX3_set : MethodName := ⟨RX3, "set", "(I)I"⟩
abbrev cX3_append : ByteArray := prog_1_method_7_code
def yX3_append : MethodName := ⟨RX3, "append", "(I)I"⟩
abbrev cX3_clearBuffer : ByteArray := prog_1_method_8_code
def yX3_clearBuffer : MethodName := ⟨RX3, "clearBuffer", "()I"⟩
abbrev cX3_firstError : ByteArray := prog_1_method_9_code
def yX3_firstError : MethodName := ⟨RX3, "firstError", "()I"⟩
abbrev cX3_read : ByteArray := prog_1_method_10_code
def yX3_read : MethodName := ⟨RX3, "read", "()I"⟩
abbrev cX3_undo : ByteArray := prog_1_method_11_code
def yX3_undo : MethodName := ⟨RX3, "undo", "()I"⟩
abbrev cX3_lineOf : ByteArray := prog_1_method_12_code
def yX3_lineOf : MethodName := ⟨RX3, "lineOf", "(II)I"⟩
abbrev cX3_at : ByteArray := prog_1_method_13_code
def yX3_at : MethodName := ⟨RX3, "at", "(II)I"⟩
abbrev cX3_reads : ByteArray := prog_1_method_14_code
def yX3_reads : MethodName := ⟨RX3, "reads", "(I)I"⟩
abbrev cX3_count : ByteArray := prog_1_method_15_code
def yX3_count : MethodName := ⟨RX3, "count", "(I)I"⟩
abbrev cX3_untilRest : ByteArray := prog_1_method_16_code
def yX3_untilRest : MethodName := ⟨RX3, "untilRest", "()I"⟩
abbrev cX3_ifDropped : ByteArray := prog_1_method_17_code
def yX3_ifDropped : MethodName := ⟨RX3, "ifDropped", "(IIII)I"⟩
abbrev cX3_bestColumn : ByteArray := prog_1_method_18_code
def yX3_bestColumn : MethodName := ⟨RX3, "bestColumn", "(II)I"⟩
abbrev cX3_ifReset : ByteArray := prog_1_method_19_code
def yX3_ifReset : MethodName := ⟨RX3, "ifReset", "(I)I"⟩
abbrev cX3_fullness : ByteArray := prog_1_method_20_code
def yX3_fullness : MethodName := ⟨RX3, "fullness", "()D"⟩
abbrev cX3_digest : ByteArray := prog_1_method_21_code
def yX3_digest : MethodName := ⟨RX3, "digest", "()J"⟩
abbrev cX3_hashOfLooks : ByteArray := prog_1_method_22_code
def yX3_hashOfLooks : MethodName := ⟨RX3, "hashOfLooks", "(J)J"⟩
abbrev cX3_bitsOf : ByteArray := prog_1_method_23_code
def yX3_bitsOf : MethodName := ⟨RX3, "bitsOf", "(D)J"⟩
abbrev cX3_joinTrial : ByteArray := prog_1_method_24_code
def yX3_joinTrial : MethodName := ⟨RX3, "joinTrial", "(III)I"⟩
abbrev cX3_addToldLine : ByteArray := prog_1_method_25_code
def yX3_addToldLine : MethodName := ⟨RX3, "addToldLine", "()Z"⟩
abbrev cX3_isNumber : ByteArray := prog_1_method_26_code
def yX3_isNumber : MethodName := ⟨RX3, "isNumber", "(I)Z"⟩
abbrev cX3_isShape : ByteArray := prog_1_method_27_code
def yX3_isShape : MethodName := ⟨RX3, "isShape", "(III)Z"⟩
abbrev cX3_isWidth : ByteArray := prog_1_method_28_code
def yX3_isWidth : MethodName := ⟨RX3, "isWidth", "(I)Z"⟩
abbrev cX3_isWeight : ByteArray := prog_1_method_29_code
def yX3_isWeight : MethodName := ⟨RX3, "isWeight", "(I)Z"⟩
abbrev cX3_isVerse : ByteArray := prog_1_method_30_code
def yX3_isVerse : MethodName := ⟨RX3, "isVerse", "(I)Z"⟩
abbrev cX3_isLineBeat : ByteArray := prog_1_method_31_code
def yX3_isLineBeat : MethodName := ⟨RX3, "isLineBeat", "(I)Z"⟩
def RX4 : String := "FallingLinesModel"
def TX4 : u_T := fun k => match k with
  | 0 => ("FallingLinesModel", "thrown", "I", false)
  | 1 => ("FallingLinesModel", "now", "[I", true)
  | 2 => ("FallingLinesModel", "then", "[I", true)
  | 3 => ("FallingLinesModel", "past", "[I", true)
  | 4 => ("FallingLinesModel", "states", "I", false)
  | 5 => ("FallingLinesModel", "buffer", "[I", true)
  | 6 => ("FallingLinesModel", "length", "I", false)
  | 7 => ("FallingLinesModel", "keys", "[I", true)
  | 8 => ("FallingLinesModel", "told", "[I", true)
  | 9 => ("FallingLinesModel", "toldMany", "I", false)
  | 10 => ("FallingLinesModel", "spot", "I", false)
  | _ => ("FallingLinesModel", "hash", "J", false)
def tyX4 : Nat → FieldType := fun k => match k with
  | 0 => .int
  | 1 => .array .int
  | 2 => .array .int
  | 3 => .array .int
  | 4 => .int
  | 5 => .array .int
  | 6 => .int
  | 7 => .array .int
  | 8 => .array .int
  | 9 => .int
  | 10 => .int
  | _ => .long
abbrev wsX40 : List Cond := u_ws RX4 TX4 12
theorem nmX4 : ∀ a, a < 12 → ∀ b, b < 12 → a ≠ b → (TX4 a).2.1 ≠ (TX4 b).2.1 := by decide +kernel
theorem tyX4_ok : ∀ k, k < 12 → parseFieldDescriptor (TX4 k).2.2.1 = some (tyX4 k) := by decide +kernel
abbrev cX4_init : ByteArray := prog_6_method_1_code
def yX4_init : MethodName := ⟨RX4, "<init>", "()V"⟩
abbrev cX4_thrown : ByteArray := prog_6_method_2_code
def yX4_thrown : MethodName := ⟨RX4, "thrown", "()I"⟩
abbrev cX4_in : ByteArray := prog_6_method_3_code
def yX4_in : MethodName := ⟨RX4, "in", "(III)Z"⟩
abbrev cX4_refuses : ByteArray := prog_6_method_4_code
def yX4_refuses : MethodName := ⟨RX4, "refuses", "(I)Z"⟩
abbrev cX4_lays : ByteArray := prog_6_method_5_code
def yX4_lays : MethodName := ⟨RX4, "lays", "([II[II)V"⟩
abbrev cX4_saves : ByteArray := prog_6_method_6_code
def yX4_saves : MethodName := ⟨RX4, "saves", "()V"⟩
abbrev cX4_undo : ByteArray := prog_6_method_7_code
def yX4_undo : MethodName := ⟨RX4, "undo", "()I"⟩
abbrev cX4_of : ByteArray := prog_6_method_8_code
def yX4_of : MethodName := ⟨RX4, "of", "([III)I"⟩
abbrev cX4_puts : ByteArray := prog_6_method_9_code
def yX4_puts : MethodName := ⟨RX4, "puts", "([IIII)V"⟩
abbrev cX4_isOn : ByteArray := prog_6_method_10_code
def yX4_isOn : MethodName := ⟨RX4, "isOn", "([II)Z"⟩
abbrev cX4_span : ByteArray := prog_6_method_11_code
def yX4_span : MethodName := ⟨RX4, "span", "([II)I"⟩
abbrev cX4_full : ByteArray := prog_6_method_12_code
def yX4_full : MethodName := ⟨RX4, "full", "([II)I"⟩
abbrev cX4_isFree : ByteArray := prog_6_method_13_code
def yX4_isFree : MethodName := ⟨RX4, "isFree", "([III)Z"⟩
abbrev cX4_least : ByteArray := prog_6_method_14_code
def yX4_least : MethodName := ⟨RX4, "least", "(I)I"⟩
abbrev cX4_greatest : ByteArray := prog_6_method_15_code
def yX4_greatest : MethodName := ⟨RX4, "greatest", "(I)I"⟩
abbrev cX4_stepOf : ByteArray := prog_6_method_16_code
def yX4_stepOf : MethodName := ⟨RX4, "stepOf", "([II)I"⟩
abbrev cX4_isAtRest : ByteArray := prog_6_method_17_code
def yX4_isAtRest : MethodName := ⟨RX4, "isAtRest", "([II)Z"⟩
abbrev cX4_isAbove : ByteArray := prog_6_method_18_code
def yX4_isAbove : MethodName := ⟨RX4, "isAbove", "([III)Z"⟩
abbrev cX4_load : ByteArray := prog_6_method_19_code
def yX4_load : MethodName := ⟨RX4, "load", "([II)I"⟩
abbrev cX4_strength : ByteArray := prog_6_method_20_code
def yX4_strength : MethodName := ⟨RX4, "strength", "([II)I"⟩
abbrev cX4_isAllAtRest : ByteArray := prog_6_method_21_code
def yX4_isAllAtRest : MethodName := ⟨RX4, "isAllAtRest", "([I)Z"⟩
abbrev cX4_next : ByteArray := prog_6_method_22_code
def yX4_next : MethodName := ⟨RX4, "next", "([I)I"⟩
abbrev cX4_keyOf : ByteArray := prog_6_method_23_code
def yX4_keyOf : MethodName := ⟨RX4, "keyOf", "([III)I"⟩
abbrev cX4_come : ByteArray := prog_6_method_24_code
def yX4_come : MethodName := ⟨RX4, "come", "([I)V"⟩
abbrev cX4_moves : ByteArray := prog_6_method_25_code
def yX4_moves : MethodName := ⟨RX4, "moves", "([II)V"⟩
abbrev cX4_moveAll : ByteArray := prog_6_method_26_code
def yX4_moveAll : MethodName := ⟨RX4, "moveAll", "([I)V"⟩
abbrev cX4_breaks : ByteArray := prog_6_method_27_code
def yX4_breaks : MethodName := ⟨RX4, "breaks", "([I)I"⟩
abbrev cX4_beat : ByteArray := prog_6_method_28_code
def yX4_beat : MethodName := ⟨RX4, "beat", "([I)I"⟩
abbrev cX4_rests : ByteArray := prog_6_method_29_code
def yX4_rests : MethodName := ⟨RX4, "rests", "([I)I"⟩
abbrev cX4_isLine : ByteArray := prog_6_method_30_code
def yX4_isLine : MethodName := ⟨RX4, "isLine", "(III)Z"⟩
abbrev cX4_isLet : ByteArray := prog_6_method_31_code
def yX4_isLet : MethodName := ⟨RX4, "isLet", "(II)Z"⟩
abbrev cX4_comes : ByteArray := prog_6_method_32_code
def yX4_comes : MethodName := ⟨RX4, "comes", "([IIIIII)V"⟩
abbrev cX4_line : ByteArray := prog_6_method_33_code
def yX4_line : MethodName := ⟨RX4, "line", "(IIIII)I"⟩
abbrev cX4_run : ByteArray := prog_6_method_34_code
def yX4_run : MethodName := ⟨RX4, "run", "(I)I"⟩
abbrev cX4_takesAway : ByteArray := prog_6_method_35_code
def yX4_takesAway : MethodName := ⟨RX4, "takesAway", "([II)I"⟩
abbrev cX4_isVerse : ByteArray := prog_6_method_36_code
def yX4_isVerse : MethodName := ⟨RX4, "isVerse", "(I)Z"⟩
abbrev cX4_reset : ByteArray := prog_6_method_37_code
def yX4_reset : MethodName := ⟨RX4, "reset", "(I)I"⟩
abbrev cX4_isNumber : ByteArray := prog_6_method_38_code
def yX4_isNumber : MethodName := ⟨RX4, "isNumber", "(I)Z"⟩
abbrev cX4_canPush : ByteArray := prog_6_method_39_code
def yX4_canPush : MethodName := ⟨RX4, "canPush", "(IZ)Z"⟩
abbrev cX4_push : ByteArray := prog_6_method_40_code
def yX4_push : MethodName := ⟨RX4, "push", "(IZ)I"⟩
abbrev cX4_set : ByteArray := prog_6_method_41_code
def yX4_set : MethodName := ⟨RX4, "set", "(I)I"⟩
abbrev cX4_append : ByteArray := prog_6_method_42_code
def yX4_append : MethodName := ⟨RX4, "append", "(I)I"⟩
abbrev cX4_clearBuffer : ByteArray := prog_6_method_43_code
def yX4_clearBuffer : MethodName := ⟨RX4, "clearBuffer", "()I"⟩
abbrev cX4_sees : ByteArray := prog_6_method_44_code
def yX4_sees : MethodName := ⟨RX4, "sees", "(II)Z"⟩
abbrev cX4_takes : ByteArray := prog_6_method_45_code
def yX4_takes : MethodName := ⟨RX4, "takes", "(I)Z"⟩
abbrev cX4_isTold : ByteArray := prog_6_method_46_code
def yX4_isTold : MethodName := ⟨RX4, "isTold", "(III)Z"⟩
abbrev cX4_isPart : ByteArray := prog_6_method_47_code
def yX4_isPart : MethodName := ⟨RX4, "isPart", "()Z"⟩
abbrev cX4_isPoem : ByteArray := prog_6_method_48_code
def yX4_isPoem : MethodName := ⟨RX4, "isPoem", "()Z"⟩
abbrev cX4_firstError : ByteArray := prog_6_method_49_code
def yX4_firstError : MethodName := ⟨RX4, "firstError", "()I"⟩
abbrev cX4_isAdded : ByteArray := prog_6_method_50_code
def yX4_isAdded : MethodName := ⟨RX4, "isAdded", "(I)Z"⟩
abbrev cX4_read : ByteArray := prog_6_method_51_code
def yX4_read : MethodName := ⟨RX4, "read", "()I"⟩
abbrev cX4_howOf : ByteArray := prog_6_method_52_code
def yX4_howOf : MethodName := ⟨RX4, "howOf", "(I)I"⟩
abbrev cX4_beside : ByteArray := prog_6_method_53_code
def yX4_beside : MethodName := ⟨RX4, "beside", "(IZ)I"⟩
abbrev cX4_place : ByteArray := prog_6_method_54_code
def yX4_place : MethodName := ⟨RX4, "place", "([II)I"⟩
abbrev cX4_readAt : ByteArray := prog_6_method_55_code
def yX4_readAt : MethodName := ⟨RX4, "readAt", "(I)I"⟩
abbrev cX4_ofLine : ByteArray := prog_6_method_56_code
def yX4_ofLine : MethodName := ⟨RX4, "ofLine", "(II)I"⟩
abbrev cX4_lineOf : ByteArray := prog_6_method_57_code
def yX4_lineOf : MethodName := ⟨RX4, "lineOf", "(II)I"⟩
abbrev cX4_lineAt : ByteArray := prog_6_method_58_code
def yX4_lineAt : MethodName := ⟨RX4, "lineAt", "(II)I"⟩
abbrev cX4_at : ByteArray := prog_6_method_59_code
def yX4_at : MethodName := ⟨RX4, "at", "(II)I"⟩
abbrev cX4_lineRead : ByteArray := prog_6_method_60_code
def yX4_lineRead : MethodName := ⟨RX4, "lineRead", "(I)I"⟩
abbrev cX4_reads : ByteArray := prog_6_method_61_code
def yX4_reads : MethodName := ⟨RX4, "reads", "(I)I"⟩
abbrev cX4_withHow : ByteArray := prog_6_method_62_code
def yX4_withHow : MethodName := ⟨RX4, "withHow", "(I)I"⟩
abbrev cX4_atRest : ByteArray := prog_6_method_63_code
def yX4_atRest : MethodName := ⟨RX4, "atRest", "()I"⟩
abbrev cX4_topmost : ByteArray := prog_6_method_64_code
def yX4_topmost : MethodName := ⟨RX4, "topmost", "()I"⟩
abbrev cX4_squares : ByteArray := prog_6_method_65_code
def yX4_squares : MethodName := ⟨RX4, "squares", "()I"⟩
abbrev cX4_greatestLoad : ByteArray := prog_6_method_66_code
def yX4_greatestLoad : MethodName := ⟨RX4, "greatestLoad", "()I"⟩
abbrev cX4_counted : ByteArray := prog_6_method_67_code
def yX4_counted : MethodName := ⟨RX4, "counted", "(I)I"⟩
abbrev cX4_count : ByteArray := prog_6_method_68_code
def yX4_count : MethodName := ⟨RX4, "count", "(I)I"⟩
abbrev cX4_restIn : ByteArray := prog_6_method_69_code
def yX4_restIn : MethodName := ⟨RX4, "restIn", "()I"⟩
abbrev cX4_untilRest : ByteArray := prog_6_method_70_code
def yX4_untilRest : MethodName := ⟨RX4, "untilRest", "()I"⟩
abbrev cX4_dropped : ByteArray := prog_6_method_71_code
def yX4_dropped : MethodName := ⟨RX4, "dropped", "(IIII)I"⟩
abbrev cX4_ifDropped : ByteArray := prog_6_method_72_code
def yX4_ifDropped : MethodName := ⟨RX4, "ifDropped", "(IIII)I"⟩
abbrev cX4_best : ByteArray := prog_6_method_73_code
def yX4_best : MethodName := ⟨RX4, "best", "(II)I"⟩
abbrev cX4_bestColumn : ByteArray := prog_6_method_74_code
def yX4_bestColumn : MethodName := ⟨RX4, "bestColumn", "(II)I"⟩
abbrev cX4_without : ByteArray := prog_6_method_75_code
def yX4_without : MethodName := ⟨RX4, "without", "(I)I"⟩
abbrev cX4_ifReset : ByteArray := prog_6_method_76_code
def yX4_ifReset : MethodName := ⟨RX4, "ifReset", "(I)I"⟩
abbrev cX4_share : ByteArray := prog_6_method_77_code
def yX4_share : MethodName := ⟨RX4, "share", "()D"⟩
abbrev cX4_fullness : ByteArray := prog_6_method_78_code
def yX4_fullness : MethodName := ⟨RX4, "fullness", "()D"⟩
abbrev cX4_mix : ByteArray := prog_6_method_79_code
def yX4_mix : MethodName := ⟨RX4, "mix", "(J)V"⟩
abbrev cX4_mixScreen : ByteArray := prog_6_method_80_code
def yX4_mixScreen : MethodName := ⟨RX4, "mixScreen", "()V"⟩
abbrev cX4_digest : ByteArray := prog_6_method_81_code
def yX4_digest : MethodName := ⟨RX4, "digest", "()J"⟩
def RJxe99ae : String := "java/lang/Double"
def TJxe99ae : u_T := fun k => match k with
  | _ => ("", "", "", false)
def tyJxe99ae : Nat → FieldType := fun k => match k with
  | _ => .int
abbrev wsJxe99ae0 : List Cond := u_ws RJxe99ae TJxe99ae 0
theorem nmJxe99ae : ∀ a, a < 0 → ∀ b, b < 0 → a ≠ b → (TJxe99ae a).2.1 ≠ (TJxe99ae b).2.1 := by decide +kernel
theorem tyJxe99ae_ok : ∀ k, k < 0 → parseFieldDescriptor (TJxe99ae k).2.2.1 = some (tyJxe99ae k) := by decide +kernel
abbrev cJxe99ae_isNaN_b9ae7 : ByteArray := prog_7_method_6_code
def yJxe99ae_isNaN_b9ae7 : MethodName := ⟨RJxe99ae, "isNaN", "(D)Z"⟩
abbrev cJxe99ae_doubleToLongBits_ccdee : ByteArray := prog_7_method_23_code
def yJxe99ae_doubleToLongBits_ccdee : MethodName := ⟨RJxe99ae, "doubleToLongBits", "(D)J"⟩
def RJ9 : String := "java/lang/Math"
def TJ9 : u_T := fun k => match k with
  | _ => ("", "", "", false)
def tyJ9 : Nat → FieldType := fun k => match k with
  | _ => .int
abbrev wsJ90 : List Cond := u_ws RJ9 TJ9 0
theorem nmJ9 : ∀ a, a < 0 → ∀ b, b < 0 → a ≠ b → (TJ9 a).2.1 ≠ (TJ9 b).2.1 := by decide +kernel
theorem tyJ9_ok : ∀ k, k < 0 → parseFieldDescriptor (TJ9 k).2.2.1 = some (tyJ9 k) := by decide +kernel
abbrev cJ9_max_7cf53 : ByteArray := prog_12_method_65_code
def yJ9_max_7cf53 : MethodName := ⟨RJ9, "max", "(II)I"⟩
def RJ10 : String := "java/lang/System"
def TJ10 : u_T := fun k => match k with
  | _ => ("", "", "", false)
def tyJ10 : Nat → FieldType := fun k => match k with
  | _ => .int
abbrev wsJ100 : List Cond := u_ws RJ10 TJ10 0
theorem nmJ10 : ∀ a, a < 0 → ∀ b, b < 0 → a ≠ b → (TJ10 a).2.1 ≠ (TJ10 b).2.1 := by decide +kernel
theorem tyJ10_ok : ∀ k, k < 0 → parseFieldDescriptor (TJ10 k).2.2.1 = some (tyJ10 k) := by decide +kernel
def RL : String := "FallingLinesLaw"
abbrev cL_line : ByteArray := method_3_code
def yL_line : MethodName := ⟨RL, "line", "(LFallingLines;IIIII[J)I"⟩
abbrev cL_run : ByteArray := method_4_code
def yL_run : MethodName := ⟨RL, "run", "(LFallingLines;I[J)I"⟩
abbrev cL_reset : ByteArray := method_5_code
def yL_reset : MethodName := ⟨RL, "reset", "(LFallingLines;I[J)I"⟩
abbrev cL_push : ByteArray := method_6_code
def yL_push : MethodName := ⟨RL, "push", "(LFallingLines;IZ[J)I"⟩
abbrev cL_set : ByteArray := method_7_code
def yL_set : MethodName := ⟨RL, "set", "(LFallingLines;I[J)I"⟩
abbrev cL_append : ByteArray := method_8_code
def yL_append : MethodName := ⟨RL, "append", "(LFallingLines;I[J)I"⟩
abbrev cL_read : ByteArray := method_9_code
def yL_read : MethodName := ⟨RL, "read", "(LFallingLines;[J)I"⟩
abbrev cL_undo : ByteArray := method_10_code
def yL_undo : MethodName := ⟨RL, "undo", "(LFallingLines;[J)I"⟩
abbrev cL_lineOf : ByteArray := method_11_code
def yL_lineOf : MethodName := ⟨RL, "lineOf", "(LFallingLines;II[J)I"⟩
abbrev cL_at : ByteArray := method_12_code
def yL_at : MethodName := ⟨RL, "at", "(LFallingLines;II[J)I"⟩
abbrev cL_reads : ByteArray := method_13_code
def yL_reads : MethodName := ⟨RL, "reads", "(LFallingLines;I[J)I"⟩
abbrev cL_count : ByteArray := method_14_code
def yL_count : MethodName := ⟨RL, "count", "(LFallingLines;I[J)I"⟩
abbrev cL_ifDropped : ByteArray := method_15_code
def yL_ifDropped : MethodName := ⟨RL, "ifDropped", "(LFallingLines;IIII[J)I"⟩
abbrev cL_bestColumn : ByteArray := method_16_code
def yL_bestColumn : MethodName := ⟨RL, "bestColumn", "(LFallingLines;II[J)I"⟩
abbrev cL_ifReset : ByteArray := method_17_code
def yL_ifReset : MethodName := ⟨RL, "ifReset", "(LFallingLines;I[J)I"⟩
abbrev cL_law : ByteArray := code
def yL_law : MethodName := ⟨RL, "law", "([I)Z"⟩
def wsL_law0_r1 : List Cond := [Cond.classLink RL 8 RX3, Cond.instantiable RX3 4, Cond.initialized RX3, Cond.classLink RL 67 RX4, Cond.instantiable RX4 12, Cond.initialized RX4, Cond.arrayClass .long, Cond.methodLink RL 66 yX3_init, Cond.instanceMethod yX3_init, Cond.code yX3_init cX3_init 1 none, Cond.methodLink RX3 3 objectInit, Cond.instanceMethod objectInit, Cond.code objectInit ⟨#[0xb1]⟩ 1 none, Cond.classLink RX3 9 RX1, Cond.instantiable RX1 13, Cond.initialized RX1, Cond.fieldLink RX3 12 "FallingLines" "poem" "LFallingLines$Poem;", Cond.fieldLink RX3 16 "FallingLines" "trial" "LFallingLines$Poem;", Cond.classLink RX3 19 RX0, Cond.instantiable RX0 2, Cond.initialized RX0, Cond.fieldLink RX3 22 "FallingLines" "history" "LFallingLines$History;", Cond.classLink RX3 26 RX2, Cond.instantiable RX2 4]
def wsL_law0_r2 : List Cond := [Cond.initialized RX2, Cond.fieldLink RX3 29 "FallingLines" "text" "LFallingLines$PoemText;", Cond.instanceMethod yX1_init, Cond.code yX1_init cX1_init 1 none, Cond.methodLink RX1 3 objectInit, Cond.fieldLink RX1 9 "FallingLines$Poem" "beat" "I", Cond.fieldLink RX1 15 "FallingLines$Poem" "strength" "I", Cond.fieldLink RX1 18 "FallingLines$Poem" "broken" "I", Cond.fieldLink RX1 21 "FallingLines$Poem" "size" "I", Cond.arrayClass .int, Cond.fieldLink RX1 24 "FallingLines$Poem" "width" "[I", Cond.fieldLink RX1 28 "FallingLines$Poem" "weight" "[I", Cond.fieldLink RX1 31 "FallingLines$Poem" "verse" "[I", Cond.fieldLink RX1 34 "FallingLines$Poem" "column" "[I", Cond.fieldLink RX1 37 "FallingLines$Poem" "start" "[I", Cond.fieldLink RX1 40 "FallingLines$Poem" "row" "[I", Cond.fieldLink RX1 43 "FallingLines$Poem" "span" "[I", Cond.fieldLink RX1 46 "FallingLines$Poem" "filled" "[I", Cond.fieldLink RX1 49 "FallingLines$Poem" "keys" "[I", Cond.methodLink RX3 21 yX0_init, Cond.instanceMethod yX0_init, Cond.code yX0_init cX0_init 2 none, Cond.methodLink RX0 3 objectInit, Cond.fieldLink RX0 9 "FallingLines$History" "kept" "I"]
def wsL_law0_r3 : List Cond := [Cond.classLink RX0 15 RX1, Cond.fieldLink RX0 17 "FallingLines$History" "states" "[LFallingLines$Poem;", Cond.instanceMethod yX2_init, Cond.code yX2_init cX2_init 1 none, Cond.methodLink RX2 3 objectInit, Cond.fieldLink RX2 9 "FallingLines$PoemText" "length" "I", Cond.fieldLink RX2 15 "FallingLines$PoemText" "codes" "[I", Cond.fieldLink RX2 19 "FallingLines$PoemText" "told" "[I", Cond.fieldLink RX2 22 "FallingLines$PoemText" "part" "I", Cond.methodLink RL 69 yX4_init, Cond.instanceMethod yX4_init, Cond.code yX4_init cX4_init 1 none, Cond.methodLink RX4 1 objectInit, Cond.fieldLink RX4 7 "FallingLinesModel" "now" "[I", Cond.fieldLink RX4 13 "FallingLinesModel" "then" "[I", Cond.fieldLink RX4 16 "FallingLinesModel" "past" "[I", Cond.fieldLink RX4 19 "FallingLinesModel" "buffer" "[I", Cond.fieldLink RX4 22 "FallingLinesModel" "keys" "[I", Cond.fieldLink RX4 25 "FallingLinesModel" "told" "[I", Cond.methodLink RL 70 yL_line, Cond.static yL_line, Cond.initialized RL, Cond.codeWith yL_line cL_line 8 (some .int) [(0, 16, 19, 13), (0, 16, 23, 15)], Cond.classLink RL 13 "java/lang/IllegalArgumentException"]
def wsL_law0_r4 : List Cond := [Cond.classLink RL 15 "java/lang/IllegalStateException", Cond.methodLink RL 7 yX3_line, Cond.instanceMethod yX3_line, Cond.selects RX3 yX3_line yX3_line, Cond.code yX3_line cX3_line 6 (some .int), Cond.classLink RX3 44 "java/lang/IllegalArgumentException", Cond.initialized "java/lang/IllegalArgumentException", Cond.classLink RX3 51 "java/lang/IllegalStateException", Cond.initialized "java/lang/IllegalStateException", Cond.fieldLink RX3 47 "FallingLines$Poem" "size" "I", Cond.methodLink RX3 33 yX3_isShape, Cond.static yX3_isShape, Cond.code yX3_isShape cX3_isShape 3 (some .boolean), Cond.methodLink RX3 152 yX3_isWidth, Cond.static yX3_isWidth, Cond.code yX3_isWidth cX3_isWidth 1 (some .boolean), Cond.methodLink RX3 155 yX3_isWeight, Cond.static yX3_isWeight, Cond.code yX3_isWeight cX3_isWeight 1 (some .boolean), Cond.methodLink RX3 37 yX3_isVerse, Cond.static yX3_isVerse, Cond.code yX3_isVerse cX3_isVerse 1 (some .boolean), Cond.methodLink RX3 41 yX3_isLineBeat, Cond.static yX3_isLineBeat]
def wsL_law0_r5 : List Cond := [Cond.code yX3_isLineBeat cX3_isLineBeat 1 (some .boolean), Cond.methodLink RX3 54 yX0_keep, Cond.instanceMethod yX0_keep, Cond.selects RX0 yX0_keep yX0_keep, Cond.code yX0_keep cX0_keep 2 none, Cond.methodLink RX0 22 yX0_dropOldest, Cond.instanceMethod yX0_dropOldest, Cond.selects RX0 yX0_dropOldest yX0_dropOldest, Cond.code yX0_dropOldest cX0_dropOldest 3 none, Cond.methodLink RX0 25 yX1_copyFrom, Cond.instanceMethod yX1_copyFrom, Cond.selects RX1 yX1_copyFrom yX1_copyFrom, Cond.code yX1_copyFrom cX1_copyFrom 2 none, Cond.methodLink RX1 52 arraycopyName, Cond.native arraycopyName, Cond.static arraycopyName, Cond.initialized "java/lang/System", Cond.methodLink RX3 58 yX1_join, Cond.instanceMethod yX1_join, Cond.selects RX1 yX1_join yX1_join, Cond.code yX1_join cX1_join 7 (some .int), Cond.methodLink RL 75 yX4_line, Cond.instanceMethod yX4_line, Cond.selects RX4 yX4_line yX4_line]
def wsL_law0_r6 : List Cond := [Cond.code yX4_line cX4_line 7 (some .int), Cond.methodLink RX4 120 yX4_isLine, Cond.static yX4_isLine, Cond.code yX4_isLine cX4_isLine 3 (some .boolean), Cond.methodLink RX4 55 yX4_in, Cond.static yX4_in, Cond.code yX4_in cX4_in 3 (some .boolean), Cond.methodLink RX4 123 yX4_isLet, Cond.static yX4_isLet, Cond.code yX4_isLet cX4_isLet 2 (some .boolean), Cond.methodLink RX4 39 yX4_refuses, Cond.instanceMethod yX4_refuses, Cond.selects RX4 yX4_refuses yX4_refuses, Cond.code yX4_refuses cX4_refuses 2 (some .boolean), Cond.fieldLink RX4 28 "FallingLinesModel" "thrown" "I", Cond.methodLink RX4 127 yX4_saves, Cond.instanceMethod yX4_saves, Cond.selects RX4 yX4_saves yX4_saves, Cond.code yX4_saves cX4_saves 2 none, Cond.fieldLink RX4 32 "FallingLinesModel" "states" "I", Cond.methodLink RX4 35 yX4_lays, Cond.static yX4_lays, Cond.code yX4_lays cX4_lays 5 none, Cond.methodLink RX4 130 yX4_comes]
def wsL_law0_r7 : List Cond := [Cond.static yX4_comes, Cond.code yX4_comes cX4_comes 7 none, Cond.methodLink RL 76 yX4_thrown, Cond.instanceMethod yX4_thrown, Cond.selects RX4 yX4_thrown yX4_thrown, Cond.code yX4_thrown cX4_thrown 1 (some .int), Cond.methodLink RL 79 yL_run, Cond.static yL_run, Cond.codeWith yL_run cL_run 4 (some .int) [(0, 9, 12, 13), (0, 9, 15, 15)], Cond.methodLink RL 17 yX3_run, Cond.instanceMethod yX3_run, Cond.selects RX3 yX3_run yX3_run, Cond.code yX3_run cX3_run 4 (some .int), Cond.fieldLink RX3 62 "FallingLines$Poem" "beat" "I", Cond.fieldLink RX3 65 "FallingLines$Poem" "broken" "I", Cond.methodLink RX3 68 yX1_passBeat, Cond.instanceMethod yX1_passBeat, Cond.selects RX1 yX1_passBeat yX1_passBeat, Cond.code yX1_passBeat cX1_passBeat 1 none, Cond.methodLink RX1 62 yX1_letGo, Cond.instanceMethod yX1_letGo, Cond.selects RX1 yX1_letGo yX1_letGo, Cond.code yX1_letGo cX1_letGo 4 none, Cond.methodLink RX1 78 yX1_isDue]
def wsL_law0_r8 : List Cond := [Cond.instanceMethod yX1_isDue, Cond.selects RX1 yX1_isDue yX1_isDue, Cond.code yX1_isDue cX1_isDue 2 (some .boolean), Cond.methodLink RX1 82 yX1_keyOf, Cond.instanceMethod yX1_keyOf, Cond.selects RX1 yX1_keyOf yX1_keyOf, Cond.code yX1_keyOf cX1_keyOf 3 (some .int), Cond.methodLink RX1 86 yX1_sortKeys, Cond.instanceMethod yX1_sortKeys, Cond.selects RX1 yX1_sortKeys yX1_sortKeys, Cond.code yX1_sortKeys cX1_sortKeys 5 none, Cond.methodLink RX1 89 yX1_numberOf, Cond.static yX1_numberOf, Cond.code yX1_numberOf cX1_numberOf 1 (some .int), Cond.methodLink RX1 109 Lib.Math.max.name, Cond.static Lib.Math.max.name, Cond.initialized "java/lang/Math", Cond.code Lib.Math.max.name Lib.Math.max.code 2 (some .int), Cond.methodLink RX1 65 yX1_moveLines, Cond.instanceMethod yX1_moveLines, Cond.selects RX1 yX1_moveLines yX1_moveLines, Cond.code yX1_moveLines cX1_moveLines 7 none, Cond.methodLink RX1 93 yX1_isOnScreen, Cond.instanceMethod yX1_isOnScreen]
def wsL_law0_r9 : List Cond := [Cond.selects RX1 yX1_isOnScreen yX1_isOnScreen, Cond.code yX1_isOnScreen cX1_isOnScreen 2 (some .boolean), Cond.methodLink RX1 96 yX1_stepOf, Cond.instanceMethod yX1_stepOf, Cond.selects RX1 yX1_stepOf yX1_stepOf, Cond.code yX1_stepOf cX1_stepOf 7 (some .int), Cond.methodLink RX1 114 yX1_isFreeBeside, Cond.instanceMethod yX1_isFreeBeside, Cond.selects RX1 yX1_isFreeBeside yX1_isFreeBeside, Cond.code yX1_isFreeBeside cX1_isFreeBeside 5 (some .boolean), Cond.methodLink RX1 99 yX1_takeStep, Cond.instanceMethod yX1_takeStep, Cond.selects RX1 yX1_takeStep yX1_takeStep, Cond.code yX1_takeStep cX1_takeStep 3 none, Cond.methodLink RX1 118 yX1_fall, Cond.instanceMethod yX1_fall, Cond.selects RX1 yX1_fall yX1_fall, Cond.code yX1_fall cX1_fall 3 none, Cond.methodLink RX1 121 yX1_slide, Cond.instanceMethod yX1_slide, Cond.selects RX1 yX1_slide yX1_slide, Cond.code yX1_slide cX1_slide 4 none, Cond.methodLink RX1 68 yX1_breakLines, Cond.instanceMethod yX1_breakLines]
def wsL_law0_r10 : List Cond := [Cond.selects RX1 yX1_breakLines yX1_breakLines, Cond.code yX1_breakLines cX1_breakLines 3 none, Cond.methodLink RX1 103 yX1_loadOf, Cond.instanceMethod yX1_loadOf, Cond.selects RX1 yX1_loadOf yX1_loadOf, Cond.code yX1_loadOf cX1_loadOf 5 (some .int), Cond.methodLink RX1 125 yX1_linesNear, Cond.instanceMethod yX1_linesNear, Cond.selects RX1 yX1_linesNear yX1_linesNear, Cond.code yX1_linesNear cX1_linesNear 5 (some .int), Cond.methodLink RX1 106 yX1_strengthOf, Cond.instanceMethod yX1_strengthOf, Cond.selects RX1 yX1_strengthOf yX1_strengthOf, Cond.code yX1_strengthOf cX1_strengthOf 2 (some .int), Cond.methodLink RX1 58 yX1_takeAway, Cond.instanceMethod yX1_takeAway, Cond.selects RX1 yX1_takeAway yX1_takeAway, Cond.code yX1_takeAway cX1_takeAway 2 none, Cond.methodLink RL 82 yX4_run, Cond.instanceMethod yX4_run, Cond.selects RX4 yX4_run yX4_run, Cond.code yX4_run cX4_run 4 (some .int), Cond.methodLink RX4 117 yX4_beat, Cond.instanceMethod yX4_beat]
def wsL_law0_r11 : List Cond := [Cond.selects RX4 yX4_beat yX4_beat, Cond.code yX4_beat cX4_beat 3 (some .int), Cond.methodLink RX4 103 yX4_come, Cond.instanceMethod yX4_come, Cond.selects RX4 yX4_come yX4_come, Cond.code yX4_come cX4_come 3 none, Cond.methodLink RX4 43 yX4_of, Cond.static yX4_of, Cond.code yX4_of cX4_of 3 (some .int), Cond.methodLink RX4 88 yX4_keyOf, Cond.static yX4_keyOf, Cond.code yX4_keyOf cX4_keyOf 3 (some .int), Cond.methodLink RX4 91 yX4_next, Cond.instanceMethod yX4_next, Cond.selects RX4 yX4_next yX4_next, Cond.code yX4_next cX4_next 4 (some .int), Cond.methodLink RX4 59 yX4_full, Cond.static yX4_full, Cond.code yX4_full cX4_full 4 (some .int), Cond.methodLink RX4 47 yX4_isOn, Cond.static yX4_isOn, Cond.code yX4_isOn cX4_isOn 2 (some .boolean), Cond.methodLink RX4 51 yX4_span, Cond.static yX4_span]
def wsL_law0_r12 : List Cond := [Cond.code yX4_span cX4_span 2 (some .int), Cond.methodLink RX4 95 yX4_puts, Cond.static yX4_puts, Cond.code yX4_puts cX4_puts 4 none, Cond.methodLink RX4 107 yX4_moveAll, Cond.instanceMethod yX4_moveAll, Cond.selects RX4 yX4_moveAll yX4_moveAll, Cond.code yX4_moveAll cX4_moveAll 3 none, Cond.methodLink RX4 99 yX4_moves, Cond.static yX4_moves, Cond.code yX4_moves cX4_moves 4 none, Cond.methodLink RX4 73 yX4_stepOf, Cond.static yX4_stepOf, Cond.code yX4_stepOf cX4_stepOf 6 (some .int), Cond.methodLink RX4 62 yX4_least, Cond.static yX4_least, Cond.code yX4_least cX4_least 2 (some .int), Cond.methodLink RX4 66 yX4_isFree, Cond.static yX4_isFree, Cond.code yX4_isFree cX4_isFree 3 (some .boolean), Cond.methodLink RX4 70 yX4_greatest, Cond.static yX4_greatest, Cond.code yX4_greatest cX4_greatest 2 (some .int), Cond.methodLink RX4 110 yX4_breaks]
def wsL_law0_r13 : List Cond := [Cond.static yX4_breaks, Cond.code yX4_breaks cX4_breaks 4 (some .int), Cond.methodLink RX4 82 yX4_load, Cond.static yX4_load, Cond.code yX4_load cX4_load 4 (some .int), Cond.methodLink RX4 76 yX4_isAbove, Cond.static yX4_isAbove, Cond.code yX4_isAbove cX4_isAbove 3 (some .boolean), Cond.methodLink RX4 85 yX4_strength, Cond.static yX4_strength, Cond.code yX4_strength cX4_strength 2 (some .int), Cond.methodLink RL 83 yL_reset, Cond.static yL_reset, Cond.codeWith yL_reset cL_reset 4 (some .int) [(0, 9, 12, 13)], Cond.methodLink RL 21 yX3_reset, Cond.instanceMethod yX3_reset, Cond.selects RX3 yX3_reset yX3_reset, Cond.code yX3_reset cX3_reset 2 (some .int), Cond.methodLink RX3 71 yX1_takeVerseAway, Cond.instanceMethod yX1_takeVerseAway, Cond.selects RX1 yX1_takeVerseAway yX1_takeVerseAway, Cond.code yX1_takeVerseAway cX1_takeVerseAway 4 (some .int), Cond.methodLink RL 85 yX4_reset, Cond.instanceMethod yX4_reset]
def wsL_law0_r14 : List Cond := [Cond.selects RX4 yX4_reset yX4_reset, Cond.code yX4_reset cX4_reset 2 (some .int), Cond.methodLink RX4 134 yX4_isVerse, Cond.static yX4_isVerse, Cond.code yX4_isVerse cX4_isVerse 1 (some .boolean), Cond.methodLink RX4 137 yX4_takesAway, Cond.static yX4_takesAway, Cond.code yX4_takesAway cX4_takesAway 4 (some .int), Cond.methodLink RL 86 yL_push, Cond.static yL_push, Cond.codeWith yL_push cL_push 5 (some .int) [(0, 10, 13, 28), (0, 10, 17, 15)], Cond.classLink RL 28 "java/lang/IndexOutOfBoundsException", Cond.methodLink RL 24 yX3_push, Cond.instanceMethod yX3_push, Cond.selects RX3 yX3_push yX3_push, Cond.code yX3_push cX3_push 3 (some .int), Cond.classLink RX3 78 "java/lang/IndexOutOfBoundsException", Cond.initialized "java/lang/IndexOutOfBoundsException", Cond.fieldLink RX3 89 "FallingLines$Poem" "column" "[I", Cond.methodLink RX3 75 yX3_isNumber, Cond.instanceMethod yX3_isNumber, Cond.selects RX3 yX3_isNumber yX3_isNumber, Cond.code yX3_isNumber cX3_isNumber 2 (some .boolean), Cond.methodLink RX3 81 yX1_isFreeBeside]
def wsL_law0_r15 : List Cond := [Cond.methodLink RX3 85 yX1_slide, Cond.methodLink RL 89 yX4_push, Cond.instanceMethod yX4_push, Cond.selects RX4 yX4_push yX4_push, Cond.code yX4_push cX4_push 4 (some .int), Cond.methodLink RX4 140 yX4_isNumber, Cond.instanceMethod yX4_isNumber, Cond.selects RX4 yX4_isNumber yX4_isNumber, Cond.code yX4_isNumber cX4_isNumber 2 (some .boolean), Cond.methodLink RX4 143 yX4_canPush, Cond.instanceMethod yX4_canPush, Cond.selects RX4 yX4_canPush yX4_canPush, Cond.code yX4_canPush cX4_canPush 4 (some .boolean), Cond.methodLink RL 90 yL_set, Cond.static yL_set, Cond.codeWith yL_set cL_set 4 (some .int) [(0, 9, 12, 13)], Cond.methodLink RL 30 yX3_set, Cond.instanceMethod yX3_set, Cond.selects RX3 yX3_set yX3_set, Cond.code yX3_set cX3_set 3 (some .int), Cond.fieldLink RX3 93 "FallingLines$Poem" "strength" "I", Cond.methodLink RL 92 yX4_set, Cond.instanceMethod yX4_set, Cond.selects RX4 yX4_set yX4_set]
def wsL_law0_r16 : List Cond := [Cond.code yX4_set cX4_set 3 (some .int), Cond.methodLink RL 93 yL_append, Cond.static yL_append, Cond.codeWith yL_append cL_append 4 (some .int) [(0, 9, 12, 13), (0, 9, 15, 15)], Cond.methodLink RL 33 yX3_append, Cond.instanceMethod yX3_append, Cond.selects RX3 yX3_append yX3_append, Cond.code yX3_append cX3_append 2 (some .int), Cond.fieldLink RX3 96 "FallingLines$PoemText" "length" "I", Cond.methodLink RX3 99 yX2_add, Cond.instanceMethod yX2_add, Cond.selects RX2 yX2_add yX2_add, Cond.code yX2_add cX2_add 2 none, Cond.methodLink RL 95 yX4_append, Cond.instanceMethod yX4_append, Cond.selects RX4 yX4_append yX4_append, Cond.code yX4_append cX4_append 2 (some .int), Cond.fieldLink RX4 147 "FallingLinesModel" "length" "I", Cond.methodLink RL 96 yX3_clearBuffer, Cond.instanceMethod yX3_clearBuffer, Cond.selects RX3 yX3_clearBuffer yX3_clearBuffer, Cond.code yX3_clearBuffer cX3_clearBuffer 2 (some .int), Cond.methodLink RL 99 yX4_clearBuffer, Cond.instanceMethod yX4_clearBuffer]
def wsL_law0_r17 : List Cond := [Cond.selects RX4 yX4_clearBuffer yX4_clearBuffer, Cond.code yX4_clearBuffer cX4_clearBuffer 2 (some .int), Cond.methodLink RL 100 yX3_firstError, Cond.instanceMethod yX3_firstError, Cond.selects RX3 yX3_firstError yX3_firstError, Cond.code yX3_firstError cX3_firstError 1 (some .int), Cond.methodLink RX3 103 yX2_scan, Cond.instanceMethod yX2_scan, Cond.selects RX2 yX2_scan yX2_scan, Cond.code yX2_scan cX2_scan 2 (some .int), Cond.methodLink RX2 25 yX2_beginLine, Cond.instanceMethod yX2_beginLine, Cond.selects RX2 yX2_beginLine yX2_beginLine, Cond.code yX2_beginLine cX2_beginLine 1 none, Cond.methodLink RX2 28 yX2_accepts, Cond.instanceMethod yX2_accepts, Cond.selects RX2 yX2_accepts yX2_accepts, Cond.code yX2_accepts cX2_accepts 2 (some .boolean), Cond.methodLink RX2 42 yX2_acceptsDigit, Cond.instanceMethod yX2_acceptsDigit, Cond.selects RX2 yX2_acceptsDigit yX2_acceptsDigit, Cond.code yX2_acceptsDigit cX2_acceptsDigit 4 (some .boolean), Cond.methodLink RX2 48 yX2_leastOf, Cond.static yX2_leastOf]
def wsL_law0_r18 : List Cond := [Cond.code yX2_leastOf cX2_leastOf 1 (some .int), Cond.methodLink RX2 52 yX2_greatestOf, Cond.static yX2_greatestOf, Cond.code yX2_greatestOf cX2_greatestOf 1 (some .int), Cond.methodLink RX2 45 yX2_acceptsSign, Cond.instanceMethod yX2_acceptsSign, Cond.selects RX2 yX2_acceptsSign yX2_acceptsSign, Cond.code yX2_acceptsSign cX2_acceptsSign 2 (some .boolean), Cond.methodLink RX2 55 yX2_signBehind, Cond.static yX2_signBehind, Cond.code yX2_signBehind cX2_signBehind 1 (some .int), Cond.methodLink RL 103 yX4_firstError, Cond.instanceMethod yX4_firstError, Cond.selects RX4 yX4_firstError yX4_firstError, Cond.code yX4_firstError cX4_firstError 1 (some .int), Cond.fieldLink RX4 150 "FallingLinesModel" "spot" "I", Cond.methodLink RX4 169 yX4_isPoem, Cond.instanceMethod yX4_isPoem, Cond.selects RX4 yX4_isPoem yX4_isPoem, Cond.code yX4_isPoem cX4_isPoem 2 (some .boolean), Cond.fieldLink RX4 156 "FallingLinesModel" "toldMany" "I", Cond.methodLink RX4 165 yX4_isPart, Cond.instanceMethod yX4_isPart, Cond.selects RX4 yX4_isPart yX4_isPart]
def wsL_law0_r19 : List Cond := [Cond.code yX4_isPart cX4_isPart 2 (some .boolean), Cond.methodLink RX4 159 yX4_isTold, Cond.instanceMethod yX4_isTold, Cond.selects RX4 yX4_isTold yX4_isTold, Cond.code yX4_isTold cX4_isTold 5 (some .boolean), Cond.methodLink RX4 153 yX4_sees, Cond.instanceMethod yX4_sees, Cond.selects RX4 yX4_sees yX4_sees, Cond.code yX4_sees cX4_sees 3 (some .boolean), Cond.methodLink RX4 162 yX4_takes, Cond.instanceMethod yX4_takes, Cond.selects RX4 yX4_takes yX4_takes, Cond.code yX4_takes cX4_takes 3 (some .boolean), Cond.methodLink RL 104 yL_read, Cond.static yL_read, Cond.codeWith yL_read cL_read 3 (some .int) [(0, 8, 11, 13)], Cond.methodLink RL 36 yX3_read, Cond.instanceMethod yX3_read, Cond.selects RX3 yX3_read yX3_read, Cond.code yX3_read cX3_read 4 (some .int), Cond.methodLink RX3 107 yX2_tellsPoem, Cond.instanceMethod yX2_tellsPoem, Cond.selects RX2 yX2_tellsPoem yX2_tellsPoem, Cond.code yX2_tellsPoem cX2_tellsPoem 1 (some .boolean)]
def wsL_law0_r20 : List Cond := [Cond.methodLink RX2 32 yX2_scan, Cond.methodLink RX3 111 yX2_scanLine, Cond.instanceMethod yX2_scanLine, Cond.selects RX2 yX2_scanLine yX2_scanLine, Cond.code yX2_scanLine cX2_scanLine 3 (some .int), Cond.methodLink RX2 36 Lib.Math.max.name, Cond.methodLink RX3 114 yX3_addToldLine, Cond.instanceMethod yX3_addToldLine, Cond.selects RX3 yX3_addToldLine yX3_addToldLine, Cond.code yX3_addToldLine cX3_addToldLine 5 (some .boolean), Cond.fieldLink RX3 204 "FallingLines$PoemText" "told" "[I", Cond.methodLink RL 107 yX4_read, Cond.instanceMethod yX4_read, Cond.selects RX4 yX4_read yX4_read, Cond.code yX4_read cX4_read 2 (some .int), Cond.methodLink RX4 172 yX4_isAdded, Cond.instanceMethod yX4_isAdded, Cond.selects RX4 yX4_isAdded yX4_isAdded, Cond.code yX4_isAdded cX4_isAdded 4 (some .boolean), Cond.methodLink RL 108 yL_undo, Cond.static yL_undo, Cond.codeWith yL_undo cL_undo 3 (some .int) [(0, 8, 11, 15)], Cond.methodLink RL 40 yX3_undo, Cond.instanceMethod yX3_undo]
def wsL_law0_r21 : List Cond := [Cond.selects RX3 yX3_undo yX3_undo, Cond.code yX3_undo cX3_undo 1 (some .int), Cond.fieldLink RX3 117 "FallingLines$History" "kept" "I", Cond.methodLink RX3 120 yX0_giveBackTo, Cond.instanceMethod yX0_giveBackTo, Cond.selects RX0 yX0_giveBackTo yX0_giveBackTo, Cond.code yX0_giveBackTo cX0_giveBackTo 2 none, Cond.methodLink RL 110 yX4_undo, Cond.instanceMethod yX4_undo, Cond.selects RX4 yX4_undo yX4_undo, Cond.code yX4_undo cX4_undo 1 (some .int), Cond.methodLink RL 111 yL_lineOf, Cond.static yL_lineOf, Cond.codeWith yL_lineOf cL_lineOf 5 (some .int) [(0, 10, 13, 28), (0, 10, 17, 13)], Cond.methodLink RL 43 yX3_lineOf, Cond.instanceMethod yX3_lineOf, Cond.selects RX3 yX3_lineOf yX3_lineOf, Cond.code yX3_lineOf cX3_lineOf 3 (some .int), Cond.methodLink RX3 123 yX1_property, Cond.instanceMethod yX1_property, Cond.selects RX1 yX1_property yX1_property, Cond.code yX1_property cX1_property 3 (some .int), Cond.methodLink RX1 134 yX1_stateOf, Cond.instanceMethod yX1_stateOf]
def wsL_law0_r22 : List Cond := [Cond.selects RX1 yX1_stateOf yX1_stateOf, Cond.code yX1_stateOf cX1_stateOf 2 (some .int), Cond.methodLink RX1 128 yX1_isAtRest, Cond.instanceMethod yX1_isAtRest, Cond.selects RX1 yX1_isAtRest yX1_isAtRest, Cond.code yX1_isAtRest cX1_isAtRest 2 (some .boolean), Cond.methodLink RX1 131 yX1_placeOf, Cond.instanceMethod yX1_placeOf, Cond.selects RX1 yX1_placeOf yX1_placeOf, Cond.code yX1_placeOf cX1_placeOf 5 (some .int), Cond.methodLink RL 114 yX4_lineOf, Cond.instanceMethod yX4_lineOf, Cond.selects RX4 yX4_lineOf yX4_lineOf, Cond.code yX4_lineOf cX4_lineOf 3 (some .int), Cond.methodLink RX4 188 yX4_ofLine, Cond.instanceMethod yX4_ofLine, Cond.selects RX4 yX4_ofLine yX4_ofLine, Cond.code yX4_ofLine cX4_ofLine 3 (some .int), Cond.methodLink RX4 178 yX4_howOf, Cond.instanceMethod yX4_howOf, Cond.selects RX4 yX4_howOf yX4_howOf, Cond.code yX4_howOf cX4_howOf 3 (some .int), Cond.methodLink RX4 79 yX4_isAtRest, Cond.static yX4_isAtRest]
def wsL_law0_r23 : List Cond := [Cond.code yX4_isAtRest cX4_isAtRest 2 (some .boolean), Cond.methodLink RX4 181 yX4_beside, Cond.instanceMethod yX4_beside, Cond.selects RX4 yX4_beside yX4_beside, Cond.code yX4_beside cX4_beside 5 (some .int), Cond.methodLink RX4 185 yX4_readAt, Cond.instanceMethod yX4_readAt, Cond.selects RX4 yX4_readAt yX4_readAt, Cond.code yX4_readAt cX4_readAt 4 (some .int), Cond.methodLink RX4 175 yX4_place, Cond.static yX4_place, Cond.code yX4_place cX4_place 2 (some .int), Cond.methodLink RL 115 yL_at, Cond.static yL_at, Cond.codeWith yL_at cL_at 5 (some .int) [(0, 10, 13, 13)], Cond.methodLink RL 47 yX3_at, Cond.instanceMethod yX3_at, Cond.selects RX3 yX3_at yX3_at, Cond.code yX3_at cX3_at 3 (some .int), Cond.methodLink RX3 127 yX1_lineOn, Cond.instanceMethod yX1_lineOn, Cond.selects RX1 yX1_lineOn yX1_lineOn, Cond.code yX1_lineOn cX1_lineOn 4 (some .int), Cond.methodLink RL 117 yX4_at]
def wsL_law0_r24 : List Cond := [Cond.instanceMethod yX4_at, Cond.selects RX4 yX4_at yX4_at, Cond.code yX4_at cX4_at 3 (some .int), Cond.methodLink RX4 192 yX4_lineAt, Cond.instanceMethod yX4_lineAt, Cond.selects RX4 yX4_lineAt yX4_lineAt, Cond.code yX4_lineAt cX4_lineAt 6 (some .int), Cond.methodLink RL 118 yL_reads, Cond.static yL_reads, Cond.codeWith yL_reads cL_reads 4 (some .int) [(0, 9, 12, 13)], Cond.methodLink RL 50 yX3_reads, Cond.instanceMethod yX3_reads, Cond.selects RX3 yX3_reads yX3_reads, Cond.code yX3_reads cX3_reads 2 (some .int), Cond.methodLink RX3 130 yX1_readAt, Cond.instanceMethod yX1_readAt, Cond.selects RX1 yX1_readAt yX1_readAt, Cond.code yX1_readAt cX1_readAt 3 (some .int), Cond.methodLink RL 120 yX4_reads, Cond.instanceMethod yX4_reads, Cond.selects RX4 yX4_reads yX4_reads, Cond.code yX4_reads cX4_reads 2 (some .int), Cond.methodLink RX4 195 yX4_lineRead, Cond.instanceMethod yX4_lineRead]
def wsL_law0_r25 : List Cond := [Cond.selects RX4 yX4_lineRead yX4_lineRead, Cond.code yX4_lineRead cX4_lineRead 4 (some .int), Cond.methodLink RL 121 yL_count, Cond.static yL_count, Cond.codeWith yL_count cL_count 4 (some .int) [(0, 9, 12, 13)], Cond.methodLink RL 53 yX3_count, Cond.instanceMethod yX3_count, Cond.selects RX3 yX3_count yX3_count, Cond.code yX3_count cX3_count 2 (some .int), Cond.methodLink RX3 133 yX1_tally, Cond.instanceMethod yX1_tally, Cond.selects RX1 yX1_tally yX1_tally, Cond.code yX1_tally cX1_tally 2 (some .int), Cond.methodLink RX1 137 yX1_linesGone, Cond.instanceMethod yX1_linesGone, Cond.selects RX1 yX1_linesGone yX1_linesGone, Cond.code yX1_linesGone cX1_linesGone 3 (some .int), Cond.methodLink RX1 141 yX1_linesOnScreen, Cond.instanceMethod yX1_linesOnScreen, Cond.selects RX1 yX1_linesOnScreen yX1_linesOnScreen, Cond.code yX1_linesOnScreen cX1_linesOnScreen 3 (some .int), Cond.methodLink RX1 144 yX1_linesAtRest, Cond.instanceMethod yX1_linesAtRest, Cond.selects RX1 yX1_linesAtRest yX1_linesAtRest]
def wsL_law0_r26 : List Cond := [Cond.code yX1_linesAtRest cX1_linesAtRest 3 (some .int), Cond.methodLink RX1 147 yX1_topmostRow, Cond.instanceMethod yX1_topmostRow, Cond.selects RX1 yX1_topmostRow yX1_topmostRow, Cond.code yX1_topmostRow cX1_topmostRow 2 (some .int), Cond.methodLink RX1 150 yX1_squares, Cond.instanceMethod yX1_squares, Cond.selects RX1 yX1_squares yX1_squares, Cond.code yX1_squares cX1_squares 3 (some .int), Cond.methodLink RX1 71 yX1_isAllAtRest, Cond.instanceMethod yX1_isAllAtRest, Cond.selects RX1 yX1_isAllAtRest yX1_isAllAtRest, Cond.code yX1_isAllAtRest cX1_isAllAtRest 3 (some .boolean), Cond.methodLink RX1 153 yX1_greatestLoad, Cond.instanceMethod yX1_greatestLoad, Cond.selects RX1 yX1_greatestLoad yX1_greatestLoad, Cond.code yX1_greatestLoad cX1_greatestLoad 3 (some .int), Cond.methodLink RL 123 yX4_count, Cond.instanceMethod yX4_count, Cond.selects RX4 yX4_count yX4_count, Cond.code yX4_count cX4_count 2 (some .int), Cond.methodLink RX4 214 yX4_counted, Cond.instanceMethod yX4_counted, Cond.selects RX4 yX4_counted yX4_counted]
def wsL_law0_r27 : List Cond := [Cond.code yX4_counted cX4_counted 2 (some .int), Cond.methodLink RX4 198 yX4_withHow, Cond.instanceMethod yX4_withHow, Cond.selects RX4 yX4_withHow yX4_withHow, Cond.code yX4_withHow cX4_withHow 4 (some .int), Cond.methodLink RX4 201 yX4_atRest, Cond.instanceMethod yX4_atRest, Cond.selects RX4 yX4_atRest yX4_atRest, Cond.code yX4_atRest cX4_atRest 3 (some .int), Cond.methodLink RX4 205 yX4_topmost, Cond.instanceMethod yX4_topmost, Cond.selects RX4 yX4_topmost yX4_topmost, Cond.code yX4_topmost cX4_topmost 2 (some .int), Cond.methodLink RX4 208 yX4_squares, Cond.instanceMethod yX4_squares, Cond.selects RX4 yX4_squares yX4_squares, Cond.code yX4_squares cX4_squares 3 (some .int), Cond.methodLink RX4 113 yX4_isAllAtRest, Cond.static yX4_isAllAtRest, Cond.code yX4_isAllAtRest cX4_isAllAtRest 5 (some .boolean), Cond.methodLink RX4 211 yX4_greatestLoad, Cond.instanceMethod yX4_greatestLoad, Cond.selects RX4 yX4_greatestLoad yX4_greatestLoad, Cond.code yX4_greatestLoad cX4_greatestLoad 3 (some .int)]
def wsL_law0_r28 : List Cond := [Cond.methodLink RL 124 yX3_untilRest, Cond.instanceMethod yX3_untilRest, Cond.selects RX3 yX3_untilRest yX3_untilRest, Cond.code yX3_untilRest cX3_untilRest 1 (some .int), Cond.methodLink RX3 136 yX1_copyFrom, Cond.methodLink RX3 139 yX1_settle, Cond.instanceMethod yX1_settle, Cond.selects RX1 yX1_settle yX1_settle, Cond.code yX1_settle cX1_settle 2 (some .int), Cond.methodLink RX1 75 yX1_passBeat, Cond.methodLink RL 127 yX4_untilRest, Cond.instanceMethod yX4_untilRest, Cond.selects RX4 yX4_untilRest yX4_untilRest, Cond.code yX4_untilRest cX4_untilRest 1 (some .int), Cond.methodLink RX4 220 yX4_restIn, Cond.instanceMethod yX4_restIn, Cond.selects RX4 yX4_restIn yX4_restIn, Cond.code yX4_restIn cX4_restIn 1 (some .int), Cond.methodLink RX4 217 yX4_rests, Cond.instanceMethod yX4_rests, Cond.selects RX4 yX4_rests yX4_rests, Cond.code yX4_rests cX4_rests 4 (some .int), Cond.methodLink RL 128 yL_ifDropped, Cond.static yL_ifDropped]
def wsL_law0_r29 : List Cond := [Cond.codeWith yL_ifDropped cL_ifDropped 7 (some .int) [(0, 14, 17, 13)], Cond.methodLink RL 56 yX3_ifDropped, Cond.instanceMethod yX3_ifDropped, Cond.selects RX3 yX3_ifDropped yX3_ifDropped, Cond.code yX3_ifDropped cX3_ifDropped 7 (some .int), Cond.fieldLink RX3 149 "FallingLines$Poem" "row" "[I", Cond.methodLink RX3 142 yX3_joinTrial, Cond.instanceMethod yX3_joinTrial, Cond.selects RX3 yX3_joinTrial yX3_joinTrial, Cond.code yX3_joinTrial cX3_joinTrial 4 (some .int), Cond.methodLink RX3 146 yX1_isOnScreen, Cond.methodLink RL 131 yX4_ifDropped, Cond.instanceMethod yX4_ifDropped, Cond.selects RX4 yX4_ifDropped yX4_ifDropped, Cond.code yX4_ifDropped cX4_ifDropped 6 (some .int), Cond.methodLink RX4 223 yX4_dropped, Cond.instanceMethod yX4_dropped, Cond.selects RX4 yX4_dropped yX4_dropped, Cond.code yX4_dropped cX4_dropped 7 (some .int), Cond.methodLink RL 132 yL_bestColumn, Cond.static yL_bestColumn, Cond.codeWith yL_bestColumn cL_bestColumn 5 (some .int) [(0, 10, 13, 13)], Cond.methodLink RL 60 yX3_bestColumn, Cond.instanceMethod yX3_bestColumn]
def wsL_law0_r30 : List Cond := [Cond.selects RX3 yX3_bestColumn yX3_bestColumn, Cond.code yX3_bestColumn cX3_bestColumn 10 (some .int), Cond.methodLink RL 134 yX4_bestColumn, Cond.instanceMethod yX4_bestColumn, Cond.selects RX4 yX4_bestColumn yX4_bestColumn, Cond.code yX4_bestColumn cX4_bestColumn 4 (some .int), Cond.methodLink RX4 227 yX4_best, Cond.instanceMethod yX4_best, Cond.selects RX4 yX4_best yX4_best, Cond.code yX4_best cX4_best 10 (some .int), Cond.methodLink RL 135 yL_ifReset, Cond.static yL_ifReset, Cond.codeWith yL_ifReset cL_ifReset 4 (some .int) [(0, 9, 12, 13)], Cond.methodLink RL 63 yX3_ifReset, Cond.instanceMethod yX3_ifReset, Cond.selects RX3 yX3_ifReset yX3_ifReset, Cond.code yX3_ifReset cX3_ifReset 5 (some .int), Cond.fieldLink RX3 158 "FallingLines$Poem" "verse" "[I", Cond.methodLink RL 137 yX4_ifReset, Cond.instanceMethod yX4_ifReset, Cond.selects RX4 yX4_ifReset yX4_ifReset, Cond.code yX4_ifReset cX4_ifReset 2 (some .int), Cond.methodLink RX4 230 yX4_without, Cond.instanceMethod yX4_without]
def wsL_law0_r31 : List Cond := [Cond.selects RX4 yX4_without yX4_without, Cond.code yX4_without cX4_without 7 (some .int), Cond.methodLink RL 138 yX3_fullness, Cond.instanceMethod yX3_fullness, Cond.selects RX3 yX3_fullness yX3_fullness, Cond.code yX3_fullness cX3_fullness 1 (some .double), Cond.constantDouble RX3 164 (4645463015632666624), Cond.methodLink RX3 161 yX1_squares, Cond.methodLink RL 142 yX4_fullness, Cond.instanceMethod yX4_fullness, Cond.selects RX4 yX4_fullness yX4_fullness, Cond.code yX4_fullness cX4_fullness 1 (some .double), Cond.methodLink RX4 235 yX4_share, Cond.instanceMethod yX4_share, Cond.selects RX4 yX4_share yX4_share, Cond.code yX4_share cX4_share 1 (some .double), Cond.constantDouble RX4 233 (4645463015632666624), Cond.methodLink RL 143 yX3_digest, Cond.instanceMethod yX3_digest, Cond.selects RX3 yX3_digest yX3_digest, Cond.code yX3_digest cX3_digest 4 (some .long), Cond.constantLong RX3 166 (2909), Cond.constantLong RX3 172 (31), Cond.fieldLink RX3 195 "FallingLines$PoemText" "codes" "[I"]
def wsL_law0_r32 : List Cond := [Cond.methodLink RX3 168 yX3_hashOfLooks, Cond.instanceMethod yX3_hashOfLooks, Cond.selects RX3 yX3_hashOfLooks yX3_hashOfLooks, Cond.code yX3_hashOfLooks cX3_hashOfLooks 7 (some .long), Cond.methodLink RX3 174 yX3_untilRest, Cond.methodLink RX3 177 yX3_ifDropped, Cond.methodLink RX3 181 yX3_bestColumn, Cond.methodLink RX3 184 yX3_ifReset, Cond.methodLink RX3 187 yX3_fullness, Cond.methodLink RX3 191 yX3_bitsOf, Cond.static yX3_bitsOf, Cond.code yX3_bitsOf cX3_bitsOf 7 (some .long), Cond.constantLong RX3 198 (1023), Cond.constantDouble RX3 200 (4611686018427387904), Cond.constantDouble RX3 202 (4841369599423283200), Cond.methodLink RL 147 yX4_digest, Cond.instanceMethod yX4_digest, Cond.selects RX4 yX4_digest yX4_digest, Cond.code yX4_digest cX4_digest 2 (some .long), Cond.constantLong RX4 249 (2909), Cond.fieldLink RX4 241 "FallingLinesModel" "hash" "J", Cond.methodLink RX4 245 yX4_mix, Cond.instanceMethod yX4_mix, Cond.selects RX4 yX4_mix yX4_mix]
def wsL_law0_r33 : List Cond := [Cond.code yX4_mix cX4_mix 3 none, Cond.constantLong RX4 239 (31), Cond.methodLink RX4 251 yX4_mixScreen, Cond.instanceMethod yX4_mixScreen, Cond.selects RX4 yX4_mixScreen yX4_mixScreen, Cond.code yX4_mixScreen cX4_mixScreen 3 none, Cond.methodLink RX4 254 yJxe99ae_doubleToLongBits_ccdee, Cond.static yJxe99ae_doubleToLongBits_ccdee, Cond.initialized RJxe99ae, Cond.code yJxe99ae_doubleToLongBits_ccdee cJxe99ae_doubleToLongBits_ccdee 2 (some .long), Cond.methodLink RJxe99ae 134 ⟨"java/lang/Double", "doubleToRawLongBits", "(D)J"⟩, Cond.native ⟨"java/lang/Double", "doubleToRawLongBits", "(D)J"⟩, Cond.static ⟨"java/lang/Double", "doubleToRawLongBits", "(D)J"⟩, Cond.initialized "java/lang/Double", Cond.constantLong RJxe99ae 137 (9221120237041090560), Cond.methodLink RJxe99ae 122 yJxe99ae_isNaN_b9ae7, Cond.static yJxe99ae_isNaN_b9ae7, Cond.code yJxe99ae_isNaN_b9ae7 cJxe99ae_isNaN_b9ae7 2 (some .boolean)]
def wsL_law0 : List Cond := (wsL_law0_r1 ++ (wsL_law0_r2 ++ (wsL_law0_r3 ++ (wsL_law0_r4 ++ (wsL_law0_r5 ++ (wsL_law0_r6 ++ (wsL_law0_r7 ++ (wsL_law0_r8 ++ (wsL_law0_r9 ++ (wsL_law0_r10 ++ (wsL_law0_r11 ++ (wsL_law0_r12 ++ (wsL_law0_r13 ++ (wsL_law0_r14 ++ (wsL_law0_r15 ++ (wsL_law0_r16 ++ (wsL_law0_r17 ++ (wsL_law0_r18 ++ (wsL_law0_r19 ++ (wsL_law0_r20 ++ (wsL_law0_r21 ++ (wsL_law0_r22 ++ (wsL_law0_r23 ++ (wsL_law0_r24 ++ (wsL_law0_r25 ++ (wsL_law0_r26 ++ (wsL_law0_r27 ++ (wsL_law0_r28 ++ (wsL_law0_r29 ++ (wsL_law0_r30 ++ (wsL_law0_r31 ++ (wsL_law0_r32 ++ wsL_law0_r33)))))))))))))))))))))))))))))))) ++ wsX30 ++ wsX40 ++ wsX10 ++ wsX00 ++ wsX20 ++ ([] : List Cond)
def wsL_law : List Cond := wsL_law0 ++ (vx_at0 RX3 46 "java/lang/IllegalArgumentException" ["java/lang/RuntimeException", "java/lang/Exception"]).filter goodWord ++ (vx_at0 RX3 53 "java/lang/IllegalStateException" ["java/lang/RuntimeException", "java/lang/Exception"]).filter goodWord ++ (vx_at0 RX3 80 "java/lang/IndexOutOfBoundsException" ["java/lang/RuntimeException", "java/lang/Exception"]).filter goodWord
theorem inlX0 : ∀ w ∈ wsX00, w ∈ wsL_law := fun _ h => List.mem_append_left _ (List.mem_append_left _ (List.mem_append_left _ (List.mem_append_left _ (List.mem_append_left _ (List.mem_append_right _ h)))))
theorem inlX1 : ∀ w ∈ wsX10, w ∈ wsL_law := fun _ h => List.mem_append_left _ (List.mem_append_left _ (List.mem_append_left _ (List.mem_append_left _ (List.mem_append_left _ (List.mem_append_left _ (List.mem_append_right _ h))))))
theorem inlX2 : ∀ w ∈ wsX20, w ∈ wsL_law := fun _ h => List.mem_append_left _ (List.mem_append_left _ (List.mem_append_left _ (List.mem_append_left _ (List.mem_append_right _ h))))
theorem inlX3 : ∀ w ∈ wsX30, w ∈ wsL_law := fun _ h => List.mem_append_left _ (List.mem_append_left _ (List.mem_append_left _ (List.mem_append_left _ (List.mem_append_left _ (List.mem_append_left _ (List.mem_append_left _ (List.mem_append_left _ (List.mem_append_right _ h))))))))
theorem inlX4 : ∀ w ∈ wsX40, w ∈ wsL_law := fun _ h => List.mem_append_left _ (List.mem_append_left _ (List.mem_append_left _ (List.mem_append_left _ (List.mem_append_left _ (List.mem_append_left _ (List.mem_append_left _ (List.mem_append_right _ h)))))))
abbrev vwCl : List vw_C := [(RX0, TX0, 2), (RX1, TX1, 13), (RX2, TX2, 4), (RX3, TX3, 4), (RX4, TX4, 12)]
end
section
theorem dX0_init_0 : decode cX0_init 0 = .ok (.aload_n 0, 1) := by decide +kernel
theorem dX0_init_1 : decode cX0_init 1 = .ok (.invokespecial 3, 3) := by decide +kernel
theorem dX0_init_4 : decode cX0_init 4 = .ok (.aload_n 0, 1) := by decide +kernel
theorem dX0_init_5 : decode cX0_init 5 = .ok (.iconst 0, 1) := by decide +kernel
theorem dX0_init_6 : decode cX0_init 6 = .ok (.putfield 9, 3) := by decide +kernel
theorem dX0_init_9 : decode cX0_init 9 = .ok (.aload_n 0, 1) := by decide +kernel
theorem dX0_init_10 : decode cX0_init 10 = .ok (.bipush 6, 2) := by decide +kernel
theorem dX0_init_12 : decode cX0_init 12 = .ok (.anewarray 15, 3) := by decide +kernel
theorem dX0_init_15 : decode cX0_init 15 = .ok (.putfield 17, 3) := by decide +kernel
theorem dX0_init_18 : decode cX0_init 18 = .ok (.iconst 0, 1) := by decide +kernel
theorem dX0_init_19 : decode cX0_init 19 = .ok (.istore_n 1, 1) := by decide +kernel
theorem dX0_init_20 : decode cX0_init 20 = .ok (.iload_n 1, 1) := by decide +kernel
theorem dX0_init_21 : decode cX0_init 21 = .ok (.bipush 6, 2) := by decide +kernel
theorem dX0_init_23 : decode cX0_init 23 = .ok (.if_icmp .ge 22, 3) := by decide +kernel
theorem dX0_init_26 : decode cX0_init 26 = .ok (.aload_n 0, 1) := by decide +kernel
theorem dX0_init_27 : decode cX0_init 27 = .ok (.getfield 17, 3) := by decide +kernel
theorem dX0_init_30 : decode cX0_init 30 = .ok (.iload_n 1, 1) := by decide +kernel
theorem dX0_init_31 : decode cX0_init 31 = .ok (.new 15, 3) := by decide +kernel
theorem dX0_init_34 : decode cX0_init 34 = .ok (.dup, 1) := by decide +kernel
theorem dX0_init_35 : decode cX0_init 35 = .ok (.invokespecial 21, 3) := by decide +kernel
theorem dX0_init_38 : decode cX0_init 38 = .ok (.aastore, 1) := by decide +kernel
theorem dX0_init_39 : decode cX0_init 39 = .ok (.iinc 1 1, 3) := by decide +kernel
theorem dX0_init_42 : decode cX0_init 42 = .ok (.goto (-22), 3) := by decide +kernel
theorem dX0_init_45 : decode cX0_init 45 = .ok (.return_, 1) := by decide +kernel
theorem dX0_keep_0 : decode cX0_keep 0 = .ok (.aload_n 0, 1) := by decide +kernel
theorem dX0_keep_1 : decode cX0_keep 1 = .ok (.getfield 9, 3) := by decide +kernel
theorem dX0_keep_4 : decode cX0_keep 4 = .ok (.bipush 6, 2) := by decide +kernel
theorem dX0_keep_6 : decode cX0_keep 6 = .ok (.if_icmp .lt 7, 3) := by decide +kernel
theorem dX0_keep_9 : decode cX0_keep 9 = .ok (.aload_n 0, 1) := by decide +kernel
theorem dX0_keep_10 : decode cX0_keep 10 = .ok (.invokevirtual 22, 3) := by decide +kernel
theorem dX0_keep_13 : decode cX0_keep 13 = .ok (.aload_n 0, 1) := by decide +kernel
theorem dX0_keep_14 : decode cX0_keep 14 = .ok (.getfield 17, 3) := by decide +kernel
theorem dX0_keep_17 : decode cX0_keep 17 = .ok (.aload_n 0, 1) := by decide +kernel
theorem dX0_keep_18 : decode cX0_keep 18 = .ok (.getfield 9, 3) := by decide +kernel
theorem dX0_keep_21 : decode cX0_keep 21 = .ok (.aaload, 1) := by decide +kernel
theorem dX0_keep_22 : decode cX0_keep 22 = .ok (.aload_n 1, 1) := by decide +kernel
theorem dX0_keep_23 : decode cX0_keep 23 = .ok (.invokevirtual 25, 3) := by decide +kernel
theorem dX0_keep_26 : decode cX0_keep 26 = .ok (.aload_n 0, 1) := by decide +kernel
theorem dX0_keep_27 : decode cX0_keep 27 = .ok (.dup, 1) := by decide +kernel
theorem dX0_keep_28 : decode cX0_keep 28 = .ok (.getfield 9, 3) := by decide +kernel
theorem dX0_keep_31 : decode cX0_keep 31 = .ok (.iconst 1, 1) := by decide +kernel
theorem dX0_keep_32 : decode cX0_keep 32 = .ok (.iadd, 1) := by decide +kernel
theorem dX0_keep_33 : decode cX0_keep 33 = .ok (.putfield 9, 3) := by decide +kernel
theorem dX0_keep_36 : decode cX0_keep 36 = .ok (.return_, 1) := by decide +kernel
theorem dX0_giveBackTo_0 : decode cX0_giveBackTo 0 = .ok (.aload_n 0, 1) := by decide +kernel
theorem dX0_giveBackTo_1 : decode cX0_giveBackTo 1 = .ok (.getfield 9, 3) := by decide +kernel
theorem dX0_giveBackTo_4 : decode cX0_giveBackTo 4 = .ok (.iconst 1, 1) := by decide +kernel
theorem dX0_giveBackTo_5 : decode cX0_giveBackTo 5 = .ok (.if_icmp .ge 4, 3) := by decide +kernel
theorem dX0_giveBackTo_8 : decode cX0_giveBackTo 8 = .ok (.return_, 1) := by decide +kernel
theorem dX0_giveBackTo_9 : decode cX0_giveBackTo 9 = .ok (.aload_n 0, 1) := by decide +kernel
theorem dX0_giveBackTo_10 : decode cX0_giveBackTo 10 = .ok (.dup, 1) := by decide +kernel
theorem dX0_giveBackTo_11 : decode cX0_giveBackTo 11 = .ok (.getfield 9, 3) := by decide +kernel
theorem dX0_giveBackTo_14 : decode cX0_giveBackTo 14 = .ok (.iconst 1, 1) := by decide +kernel
theorem dX0_giveBackTo_15 : decode cX0_giveBackTo 15 = .ok (.isub, 1) := by decide +kernel
theorem dX0_giveBackTo_16 : decode cX0_giveBackTo 16 = .ok (.putfield 9, 3) := by decide +kernel
theorem dX0_giveBackTo_19 : decode cX0_giveBackTo 19 = .ok (.aload_n 1, 1) := by decide +kernel
theorem dX0_giveBackTo_20 : decode cX0_giveBackTo 20 = .ok (.aload_n 0, 1) := by decide +kernel
theorem dX0_giveBackTo_21 : decode cX0_giveBackTo 21 = .ok (.getfield 17, 3) := by decide +kernel
theorem dX0_giveBackTo_24 : decode cX0_giveBackTo 24 = .ok (.aload_n 0, 1) := by decide +kernel
theorem dX0_giveBackTo_25 : decode cX0_giveBackTo 25 = .ok (.getfield 9, 3) := by decide +kernel
theorem dX0_giveBackTo_28 : decode cX0_giveBackTo 28 = .ok (.aaload, 1) := by decide +kernel
theorem dX0_giveBackTo_29 : decode cX0_giveBackTo 29 = .ok (.invokevirtual 25, 3) := by decide +kernel
theorem dX0_giveBackTo_32 : decode cX0_giveBackTo 32 = .ok (.return_, 1) := by decide +kernel
theorem dX0_dropOldest_0 : decode cX0_dropOldest 0 = .ok (.aload_n 0, 1) := by decide +kernel
theorem dX0_dropOldest_1 : decode cX0_dropOldest 1 = .ok (.getfield 17, 3) := by decide +kernel
theorem dX0_dropOldest_4 : decode cX0_dropOldest 4 = .ok (.iconst 0, 1) := by decide +kernel
theorem dX0_dropOldest_5 : decode cX0_dropOldest 5 = .ok (.aaload, 1) := by decide +kernel
theorem dX0_dropOldest_6 : decode cX0_dropOldest 6 = .ok (.astore_n 1, 1) := by decide +kernel
theorem dX0_dropOldest_7 : decode cX0_dropOldest 7 = .ok (.iconst 1, 1) := by decide +kernel
theorem dX0_dropOldest_8 : decode cX0_dropOldest 8 = .ok (.istore_n 2, 1) := by decide +kernel
theorem dX0_dropOldest_9 : decode cX0_dropOldest 9 = .ok (.iload_n 2, 1) := by decide +kernel
theorem dX0_dropOldest_10 : decode cX0_dropOldest 10 = .ok (.bipush 6, 2) := by decide +kernel
theorem dX0_dropOldest_12 : decode cX0_dropOldest 12 = .ok (.if_icmp .ge 23, 3) := by decide +kernel
theorem dX0_dropOldest_15 : decode cX0_dropOldest 15 = .ok (.aload_n 0, 1) := by decide +kernel
theorem dX0_dropOldest_16 : decode cX0_dropOldest 16 = .ok (.getfield 17, 3) := by decide +kernel
theorem dX0_dropOldest_19 : decode cX0_dropOldest 19 = .ok (.iload_n 2, 1) := by decide +kernel
theorem dX0_dropOldest_20 : decode cX0_dropOldest 20 = .ok (.iconst 1, 1) := by decide +kernel
theorem dX0_dropOldest_21 : decode cX0_dropOldest 21 = .ok (.isub, 1) := by decide +kernel
theorem dX0_dropOldest_22 : decode cX0_dropOldest 22 = .ok (.aload_n 0, 1) := by decide +kernel
theorem dX0_dropOldest_23 : decode cX0_dropOldest 23 = .ok (.getfield 17, 3) := by decide +kernel
theorem dX0_dropOldest_26 : decode cX0_dropOldest 26 = .ok (.iload_n 2, 1) := by decide +kernel
theorem dX0_dropOldest_27 : decode cX0_dropOldest 27 = .ok (.aaload, 1) := by decide +kernel
theorem dX0_dropOldest_28 : decode cX0_dropOldest 28 = .ok (.aastore, 1) := by decide +kernel
theorem dX0_dropOldest_29 : decode cX0_dropOldest 29 = .ok (.iinc 2 1, 3) := by decide +kernel
theorem dX0_dropOldest_32 : decode cX0_dropOldest 32 = .ok (.goto (-23), 3) := by decide +kernel
theorem dX0_dropOldest_35 : decode cX0_dropOldest 35 = .ok (.aload_n 0, 1) := by decide +kernel
theorem dX0_dropOldest_36 : decode cX0_dropOldest 36 = .ok (.getfield 17, 3) := by decide +kernel
theorem dX0_dropOldest_39 : decode cX0_dropOldest 39 = .ok (.iconst 5, 1) := by decide +kernel
theorem dX0_dropOldest_40 : decode cX0_dropOldest 40 = .ok (.aload_n 1, 1) := by decide +kernel
theorem dX0_dropOldest_41 : decode cX0_dropOldest 41 = .ok (.aastore, 1) := by decide +kernel
theorem dX0_dropOldest_42 : decode cX0_dropOldest 42 = .ok (.aload_n 0, 1) := by decide +kernel
theorem dX0_dropOldest_43 : decode cX0_dropOldest 43 = .ok (.iconst 5, 1) := by decide +kernel
theorem dX0_dropOldest_44 : decode cX0_dropOldest 44 = .ok (.putfield 9, 3) := by decide +kernel
theorem dX0_dropOldest_47 : decode cX0_dropOldest 47 = .ok (.return_, 1) := by decide +kernel
theorem dX1_init_0 : decode cX1_init 0 = .ok (.aload_n 0, 1) := by decide +kernel
theorem dX1_init_1 : decode cX1_init 1 = .ok (.invokespecial 3, 3) := by decide +kernel
theorem dX1_init_4 : decode cX1_init 4 = .ok (.aload_n 0, 1) := by decide +kernel
theorem dX1_init_5 : decode cX1_init 5 = .ok (.iconst 0, 1) := by decide +kernel
theorem dX1_init_6 : decode cX1_init 6 = .ok (.putfield 9, 3) := by decide +kernel
theorem dX1_init_9 : decode cX1_init 9 = .ok (.aload_n 0, 1) := by decide +kernel
theorem dX1_init_10 : decode cX1_init 10 = .ok (.iconst 2, 1) := by decide +kernel
theorem dX1_init_11 : decode cX1_init 11 = .ok (.putfield 15, 3) := by decide +kernel
theorem dX1_init_14 : decode cX1_init 14 = .ok (.aload_n 0, 1) := by decide +kernel
theorem dX1_init_15 : decode cX1_init 15 = .ok (.iconst 0, 1) := by decide +kernel
theorem dX1_init_16 : decode cX1_init 16 = .ok (.putfield 18, 3) := by decide +kernel
theorem dX1_init_19 : decode cX1_init 19 = .ok (.aload_n 0, 1) := by decide +kernel
theorem dX1_init_20 : decode cX1_init 20 = .ok (.iconst 0, 1) := by decide +kernel
theorem dX1_init_21 : decode cX1_init 21 = .ok (.putfield 21, 3) := by decide +kernel
theorem dX1_init_24 : decode cX1_init 24 = .ok (.aload_n 0, 1) := by decide +kernel
theorem dX1_init_25 : decode cX1_init 25 = .ok (.bipush 11, 2) := by decide +kernel
theorem dX1_init_27 : decode cX1_init 27 = .ok (.newarray .int, 2) := by decide +kernel
theorem dX1_init_29 : decode cX1_init 29 = .ok (.putfield 24, 3) := by decide +kernel
theorem dX1_init_32 : decode cX1_init 32 = .ok (.aload_n 0, 1) := by decide +kernel
theorem dX1_init_33 : decode cX1_init 33 = .ok (.bipush 11, 2) := by decide +kernel
theorem dX1_init_35 : decode cX1_init 35 = .ok (.newarray .int, 2) := by decide +kernel
theorem dX1_init_37 : decode cX1_init 37 = .ok (.putfield 28, 3) := by decide +kernel
theorem dX1_init_40 : decode cX1_init 40 = .ok (.aload_n 0, 1) := by decide +kernel
theorem dX1_init_41 : decode cX1_init 41 = .ok (.bipush 11, 2) := by decide +kernel
theorem dX1_init_43 : decode cX1_init 43 = .ok (.newarray .int, 2) := by decide +kernel
theorem dX1_init_45 : decode cX1_init 45 = .ok (.putfield 31, 3) := by decide +kernel
theorem dX1_init_48 : decode cX1_init 48 = .ok (.aload_n 0, 1) := by decide +kernel
theorem dX1_init_49 : decode cX1_init 49 = .ok (.bipush 11, 2) := by decide +kernel
theorem dX1_init_51 : decode cX1_init 51 = .ok (.newarray .int, 2) := by decide +kernel
theorem dX1_init_53 : decode cX1_init 53 = .ok (.putfield 34, 3) := by decide +kernel
theorem dX1_init_56 : decode cX1_init 56 = .ok (.aload_n 0, 1) := by decide +kernel
theorem dX1_init_57 : decode cX1_init 57 = .ok (.bipush 11, 2) := by decide +kernel
theorem dX1_init_59 : decode cX1_init 59 = .ok (.newarray .int, 2) := by decide +kernel
theorem dX1_init_61 : decode cX1_init 61 = .ok (.putfield 37, 3) := by decide +kernel
theorem dX1_init_64 : decode cX1_init 64 = .ok (.aload_n 0, 1) := by decide +kernel
theorem dX1_init_65 : decode cX1_init 65 = .ok (.bipush 11, 2) := by decide +kernel
theorem dX1_init_67 : decode cX1_init 67 = .ok (.newarray .int, 2) := by decide +kernel
theorem dX1_init_69 : decode cX1_init 69 = .ok (.putfield 40, 3) := by decide +kernel
theorem dX1_init_72 : decode cX1_init 72 = .ok (.aload_n 0, 1) := by decide +kernel
theorem dX1_init_73 : decode cX1_init 73 = .ok (.bipush 11, 2) := by decide +kernel
theorem dX1_init_75 : decode cX1_init 75 = .ok (.newarray .int, 2) := by decide +kernel
theorem dX1_init_77 : decode cX1_init 77 = .ok (.putfield 43, 3) := by decide +kernel
theorem dX1_init_80 : decode cX1_init 80 = .ok (.aload_n 0, 1) := by decide +kernel
theorem dX1_init_81 : decode cX1_init 81 = .ok (.bipush 16, 2) := by decide +kernel
theorem dX1_init_83 : decode cX1_init 83 = .ok (.newarray .int, 2) := by decide +kernel
theorem dX1_init_85 : decode cX1_init 85 = .ok (.putfield 46, 3) := by decide +kernel
theorem dX1_init_88 : decode cX1_init 88 = .ok (.aload_n 0, 1) := by decide +kernel
theorem dX1_init_89 : decode cX1_init 89 = .ok (.bipush 11, 2) := by decide +kernel
theorem dX1_init_91 : decode cX1_init 91 = .ok (.newarray .int, 2) := by decide +kernel
theorem dX1_init_93 : decode cX1_init 93 = .ok (.putfield 49, 3) := by decide +kernel
theorem dX1_init_96 : decode cX1_init 96 = .ok (.return_, 1) := by decide +kernel
theorem dX1_copyFrom_0 : decode cX1_copyFrom 0 = .ok (.aload_n 0, 1) := by decide +kernel
theorem dX1_copyFrom_1 : decode cX1_copyFrom 1 = .ok (.aload_n 1, 1) := by decide +kernel
theorem dX1_copyFrom_2 : decode cX1_copyFrom 2 = .ok (.getfield 9, 3) := by decide +kernel
theorem dX1_copyFrom_5 : decode cX1_copyFrom 5 = .ok (.putfield 9, 3) := by decide +kernel
theorem dX1_copyFrom_8 : decode cX1_copyFrom 8 = .ok (.aload_n 0, 1) := by decide +kernel
theorem dX1_copyFrom_9 : decode cX1_copyFrom 9 = .ok (.aload_n 1, 1) := by decide +kernel
theorem dX1_copyFrom_10 : decode cX1_copyFrom 10 = .ok (.getfield 15, 3) := by decide +kernel
theorem dX1_copyFrom_13 : decode cX1_copyFrom 13 = .ok (.putfield 15, 3) := by decide +kernel
theorem dX1_copyFrom_16 : decode cX1_copyFrom 16 = .ok (.aload_n 0, 1) := by decide +kernel
theorem dX1_copyFrom_17 : decode cX1_copyFrom 17 = .ok (.aload_n 1, 1) := by decide +kernel
theorem dX1_copyFrom_18 : decode cX1_copyFrom 18 = .ok (.getfield 18, 3) := by decide +kernel
theorem dX1_copyFrom_21 : decode cX1_copyFrom 21 = .ok (.putfield 18, 3) := by decide +kernel
theorem dX1_copyFrom_24 : decode cX1_copyFrom 24 = .ok (.aload_n 0, 1) := by decide +kernel
theorem dX1_copyFrom_25 : decode cX1_copyFrom 25 = .ok (.aload_n 1, 1) := by decide +kernel
theorem dX1_copyFrom_26 : decode cX1_copyFrom 26 = .ok (.getfield 21, 3) := by decide +kernel
theorem dX1_copyFrom_29 : decode cX1_copyFrom 29 = .ok (.putfield 21, 3) := by decide +kernel
theorem dX1_copyFrom_32 : decode cX1_copyFrom 32 = .ok (.aload_n 1, 1) := by decide +kernel
theorem dX1_copyFrom_33 : decode cX1_copyFrom 33 = .ok (.getfield 24, 3) := by decide +kernel
theorem dX1_copyFrom_36 : decode cX1_copyFrom 36 = .ok (.iconst 0, 1) := by decide +kernel
theorem dX1_copyFrom_37 : decode cX1_copyFrom 37 = .ok (.aload_n 0, 1) := by decide +kernel
theorem dX1_copyFrom_38 : decode cX1_copyFrom 38 = .ok (.getfield 24, 3) := by decide +kernel
theorem dX1_copyFrom_41 : decode cX1_copyFrom 41 = .ok (.iconst 0, 1) := by decide +kernel
theorem dX1_copyFrom_42 : decode cX1_copyFrom 42 = .ok (.bipush 11, 2) := by decide +kernel
theorem dX1_copyFrom_44 : decode cX1_copyFrom 44 = .ok (.invokestatic 52, 3) := by decide +kernel
theorem dX1_copyFrom_47 : decode cX1_copyFrom 47 = .ok (.aload_n 1, 1) := by decide +kernel
theorem dX1_copyFrom_48 : decode cX1_copyFrom 48 = .ok (.getfield 28, 3) := by decide +kernel
theorem dX1_copyFrom_51 : decode cX1_copyFrom 51 = .ok (.iconst 0, 1) := by decide +kernel
theorem dX1_copyFrom_52 : decode cX1_copyFrom 52 = .ok (.aload_n 0, 1) := by decide +kernel
theorem dX1_copyFrom_53 : decode cX1_copyFrom 53 = .ok (.getfield 28, 3) := by decide +kernel
theorem dX1_copyFrom_56 : decode cX1_copyFrom 56 = .ok (.iconst 0, 1) := by decide +kernel
theorem dX1_copyFrom_57 : decode cX1_copyFrom 57 = .ok (.bipush 11, 2) := by decide +kernel
theorem dX1_copyFrom_59 : decode cX1_copyFrom 59 = .ok (.invokestatic 52, 3) := by decide +kernel
theorem dX1_copyFrom_62 : decode cX1_copyFrom 62 = .ok (.aload_n 1, 1) := by decide +kernel
theorem dX1_copyFrom_63 : decode cX1_copyFrom 63 = .ok (.getfield 31, 3) := by decide +kernel
theorem dX1_copyFrom_66 : decode cX1_copyFrom 66 = .ok (.iconst 0, 1) := by decide +kernel
theorem dX1_copyFrom_67 : decode cX1_copyFrom 67 = .ok (.aload_n 0, 1) := by decide +kernel
theorem dX1_copyFrom_68 : decode cX1_copyFrom 68 = .ok (.getfield 31, 3) := by decide +kernel
theorem dX1_copyFrom_71 : decode cX1_copyFrom 71 = .ok (.iconst 0, 1) := by decide +kernel
theorem dX1_copyFrom_72 : decode cX1_copyFrom 72 = .ok (.bipush 11, 2) := by decide +kernel
theorem dX1_copyFrom_74 : decode cX1_copyFrom 74 = .ok (.invokestatic 52, 3) := by decide +kernel
theorem dX1_copyFrom_77 : decode cX1_copyFrom 77 = .ok (.aload_n 1, 1) := by decide +kernel
theorem dX1_copyFrom_78 : decode cX1_copyFrom 78 = .ok (.getfield 34, 3) := by decide +kernel
theorem dX1_copyFrom_81 : decode cX1_copyFrom 81 = .ok (.iconst 0, 1) := by decide +kernel
theorem dX1_copyFrom_82 : decode cX1_copyFrom 82 = .ok (.aload_n 0, 1) := by decide +kernel
theorem dX1_copyFrom_83 : decode cX1_copyFrom 83 = .ok (.getfield 34, 3) := by decide +kernel
theorem dX1_copyFrom_86 : decode cX1_copyFrom 86 = .ok (.iconst 0, 1) := by decide +kernel
theorem dX1_copyFrom_87 : decode cX1_copyFrom 87 = .ok (.bipush 11, 2) := by decide +kernel
theorem dX1_copyFrom_89 : decode cX1_copyFrom 89 = .ok (.invokestatic 52, 3) := by decide +kernel
theorem dX1_copyFrom_92 : decode cX1_copyFrom 92 = .ok (.aload_n 1, 1) := by decide +kernel
theorem dX1_copyFrom_93 : decode cX1_copyFrom 93 = .ok (.getfield 37, 3) := by decide +kernel
theorem dX1_copyFrom_96 : decode cX1_copyFrom 96 = .ok (.iconst 0, 1) := by decide +kernel
theorem dX1_copyFrom_97 : decode cX1_copyFrom 97 = .ok (.aload_n 0, 1) := by decide +kernel
theorem dX1_copyFrom_98 : decode cX1_copyFrom 98 = .ok (.getfield 37, 3) := by decide +kernel
theorem dX1_copyFrom_101 : decode cX1_copyFrom 101 = .ok (.iconst 0, 1) := by decide +kernel
theorem dX1_copyFrom_102 : decode cX1_copyFrom 102 = .ok (.bipush 11, 2) := by decide +kernel
theorem dX1_copyFrom_104 : decode cX1_copyFrom 104 = .ok (.invokestatic 52, 3) := by decide +kernel
theorem dX1_copyFrom_107 : decode cX1_copyFrom 107 = .ok (.aload_n 1, 1) := by decide +kernel
theorem dX1_copyFrom_108 : decode cX1_copyFrom 108 = .ok (.getfield 40, 3) := by decide +kernel
theorem dX1_copyFrom_111 : decode cX1_copyFrom 111 = .ok (.iconst 0, 1) := by decide +kernel
theorem dX1_copyFrom_112 : decode cX1_copyFrom 112 = .ok (.aload_n 0, 1) := by decide +kernel
theorem dX1_copyFrom_113 : decode cX1_copyFrom 113 = .ok (.getfield 40, 3) := by decide +kernel
theorem dX1_copyFrom_116 : decode cX1_copyFrom 116 = .ok (.iconst 0, 1) := by decide +kernel
theorem dX1_copyFrom_117 : decode cX1_copyFrom 117 = .ok (.bipush 11, 2) := by decide +kernel
theorem dX1_copyFrom_119 : decode cX1_copyFrom 119 = .ok (.invokestatic 52, 3) := by decide +kernel
theorem dX1_copyFrom_122 : decode cX1_copyFrom 122 = .ok (.aload_n 1, 1) := by decide +kernel
theorem dX1_copyFrom_123 : decode cX1_copyFrom 123 = .ok (.getfield 43, 3) := by decide +kernel
theorem dX1_copyFrom_126 : decode cX1_copyFrom 126 = .ok (.iconst 0, 1) := by decide +kernel
theorem dX1_copyFrom_127 : decode cX1_copyFrom 127 = .ok (.aload_n 0, 1) := by decide +kernel
theorem dX1_copyFrom_128 : decode cX1_copyFrom 128 = .ok (.getfield 43, 3) := by decide +kernel
theorem dX1_copyFrom_131 : decode cX1_copyFrom 131 = .ok (.iconst 0, 1) := by decide +kernel
theorem dX1_copyFrom_132 : decode cX1_copyFrom 132 = .ok (.bipush 11, 2) := by decide +kernel
theorem dX1_copyFrom_134 : decode cX1_copyFrom 134 = .ok (.invokestatic 52, 3) := by decide +kernel
theorem dX1_copyFrom_137 : decode cX1_copyFrom 137 = .ok (.aload_n 1, 1) := by decide +kernel
theorem dX1_copyFrom_138 : decode cX1_copyFrom 138 = .ok (.getfield 46, 3) := by decide +kernel
theorem dX1_copyFrom_141 : decode cX1_copyFrom 141 = .ok (.iconst 0, 1) := by decide +kernel
theorem dX1_copyFrom_142 : decode cX1_copyFrom 142 = .ok (.aload_n 0, 1) := by decide +kernel
theorem dX1_copyFrom_143 : decode cX1_copyFrom 143 = .ok (.getfield 46, 3) := by decide +kernel
theorem dX1_copyFrom_146 : decode cX1_copyFrom 146 = .ok (.iconst 0, 1) := by decide +kernel
theorem dX1_copyFrom_147 : decode cX1_copyFrom 147 = .ok (.bipush 16, 2) := by decide +kernel
theorem dX1_copyFrom_149 : decode cX1_copyFrom 149 = .ok (.invokestatic 52, 3) := by decide +kernel
theorem dX1_copyFrom_152 : decode cX1_copyFrom 152 = .ok (.return_, 1) := by decide +kernel
theorem dX1_join_0 : decode cX1_join 0 = .ok (.aload_n 0, 1) := by decide +kernel
theorem dX1_join_1 : decode cX1_join 1 = .ok (.getfield 21, 3) := by decide +kernel
theorem dX1_join_4 : decode cX1_join 4 = .ok (.bipush 11, 2) := by decide +kernel
theorem dX1_join_6 : decode cX1_join 6 = .ok (.if_icmp .lt 5, 3) := by decide +kernel
theorem dX1_join_9 : decode cX1_join 9 = .ok (.iconst (-1), 1) := by decide +kernel
theorem dX1_join_10 : decode cX1_join 10 = .ok (.ireturn, 1) := by decide +kernel
theorem dX1_join_11 : decode cX1_join 11 = .ok (.aload_n 0, 1) := by decide +kernel
theorem dX1_join_12 : decode cX1_join 12 = .ok (.getfield 21, 3) := by decide +kernel
theorem dX1_join_15 : decode cX1_join 15 = .ok (.istore 6, 2) := by decide +kernel
theorem dX1_join_17 : decode cX1_join 17 = .ok (.aload_n 0, 1) := by decide +kernel
theorem dX1_join_18 : decode cX1_join 18 = .ok (.dup, 1) := by decide +kernel
theorem dX1_join_19 : decode cX1_join 19 = .ok (.getfield 21, 3) := by decide +kernel
theorem dX1_join_22 : decode cX1_join 22 = .ok (.iconst 1, 1) := by decide +kernel
theorem dX1_join_23 : decode cX1_join 23 = .ok (.iadd, 1) := by decide +kernel
theorem dX1_join_24 : decode cX1_join 24 = .ok (.putfield 21, 3) := by decide +kernel
theorem dX1_join_27 : decode cX1_join 27 = .ok (.aload_n 0, 1) := by decide +kernel
theorem dX1_join_28 : decode cX1_join 28 = .ok (.getfield 24, 3) := by decide +kernel
theorem dX1_join_31 : decode cX1_join 31 = .ok (.iload 6, 2) := by decide +kernel
theorem dX1_join_33 : decode cX1_join 33 = .ok (.iload_n 1, 1) := by decide +kernel
theorem dX1_join_34 : decode cX1_join 34 = .ok (.iastore, 1) := by decide +kernel
theorem dX1_join_35 : decode cX1_join 35 = .ok (.aload_n 0, 1) := by decide +kernel
theorem dX1_join_36 : decode cX1_join 36 = .ok (.getfield 28, 3) := by decide +kernel
theorem dX1_join_39 : decode cX1_join 39 = .ok (.iload 6, 2) := by decide +kernel
theorem dX1_join_41 : decode cX1_join 41 = .ok (.iload_n 2, 1) := by decide +kernel
theorem dX1_join_42 : decode cX1_join 42 = .ok (.iastore, 1) := by decide +kernel
theorem dX1_join_43 : decode cX1_join 43 = .ok (.aload_n 0, 1) := by decide +kernel
theorem dX1_join_44 : decode cX1_join 44 = .ok (.getfield 31, 3) := by decide +kernel
theorem dX1_join_47 : decode cX1_join 47 = .ok (.iload 6, 2) := by decide +kernel
theorem dX1_join_49 : decode cX1_join 49 = .ok (.iload 4, 2) := by decide +kernel
theorem dX1_join_51 : decode cX1_join 51 = .ok (.iastore, 1) := by decide +kernel
theorem dX1_join_52 : decode cX1_join 52 = .ok (.aload_n 0, 1) := by decide +kernel
theorem dX1_join_53 : decode cX1_join 53 = .ok (.getfield 34, 3) := by decide +kernel
theorem dX1_join_56 : decode cX1_join 56 = .ok (.iload 6, 2) := by decide +kernel
theorem dX1_join_58 : decode cX1_join 58 = .ok (.iload_n 3, 1) := by decide +kernel
theorem dX1_join_59 : decode cX1_join 59 = .ok (.iastore, 1) := by decide +kernel
theorem dX1_join_60 : decode cX1_join 60 = .ok (.aload_n 0, 1) := by decide +kernel
theorem dX1_join_61 : decode cX1_join 61 = .ok (.getfield 37, 3) := by decide +kernel
theorem dX1_join_64 : decode cX1_join 64 = .ok (.iload 6, 2) := by decide +kernel
theorem dX1_join_66 : decode cX1_join 66 = .ok (.iload 5, 2) := by decide +kernel
theorem dX1_join_68 : decode cX1_join 68 = .ok (.iastore, 1) := by decide +kernel
theorem dX1_join_69 : decode cX1_join 69 = .ok (.aload_n 0, 1) := by decide +kernel
theorem dX1_join_70 : decode cX1_join 70 = .ok (.getfield 40, 3) := by decide +kernel
theorem dX1_join_73 : decode cX1_join 73 = .ok (.iload 6, 2) := by decide +kernel
theorem dX1_join_75 : decode cX1_join 75 = .ok (.iconst (-1), 1) := by decide +kernel
theorem dX1_join_76 : decode cX1_join 76 = .ok (.iastore, 1) := by decide +kernel
theorem dX1_join_77 : decode cX1_join 77 = .ok (.aload_n 0, 1) := by decide +kernel
theorem dX1_join_78 : decode cX1_join 78 = .ok (.getfield 43, 3) := by decide +kernel
theorem dX1_join_81 : decode cX1_join 81 = .ok (.iload 6, 2) := by decide +kernel
theorem dX1_join_83 : decode cX1_join 83 = .ok (.iconst 1, 1) := by decide +kernel
theorem dX1_join_84 : decode cX1_join 84 = .ok (.iload_n 1, 1) := by decide +kernel
theorem dX1_join_85 : decode cX1_join 85 = .ok (.ishl, 1) := by decide +kernel
theorem dX1_join_86 : decode cX1_join 86 = .ok (.iconst 1, 1) := by decide +kernel
theorem dX1_join_87 : decode cX1_join 87 = .ok (.isub, 1) := by decide +kernel
theorem dX1_join_88 : decode cX1_join 88 = .ok (.iload_n 3, 1) := by decide +kernel
theorem dX1_join_89 : decode cX1_join 89 = .ok (.ishl, 1) := by decide +kernel
theorem dX1_join_90 : decode cX1_join 90 = .ok (.iastore, 1) := by decide +kernel
theorem dX1_join_91 : decode cX1_join 91 = .ok (.iload 6, 2) := by decide +kernel
theorem dX1_join_93 : decode cX1_join 93 = .ok (.ireturn, 1) := by decide +kernel
theorem dX1_takeVerseAway_0 : decode cX1_takeVerseAway 0 = .ok (.iconst 0, 1) := by decide +kernel
theorem dX1_takeVerseAway_1 : decode cX1_takeVerseAway 1 = .ok (.istore_n 2, 1) := by decide +kernel
theorem dX1_takeVerseAway_2 : decode cX1_takeVerseAway 2 = .ok (.iconst 0, 1) := by decide +kernel
theorem dX1_takeVerseAway_3 : decode cX1_takeVerseAway 3 = .ok (.istore_n 3, 1) := by decide +kernel
theorem dX1_takeVerseAway_4 : decode cX1_takeVerseAway 4 = .ok (.iload_n 3, 1) := by decide +kernel
theorem dX1_takeVerseAway_5 : decode cX1_takeVerseAway 5 = .ok (.aload_n 0, 1) := by decide +kernel
theorem dX1_takeVerseAway_6 : decode cX1_takeVerseAway 6 = .ok (.getfield 21, 3) := by decide +kernel
theorem dX1_takeVerseAway_9 : decode cX1_takeVerseAway 9 = .ok (.if_icmp .ge 38, 3) := by decide +kernel
theorem dX1_takeVerseAway_12 : decode cX1_takeVerseAway 12 = .ok (.aload_n 0, 1) := by decide +kernel
theorem dX1_takeVerseAway_13 : decode cX1_takeVerseAway 13 = .ok (.getfield 31, 3) := by decide +kernel
theorem dX1_takeVerseAway_16 : decode cX1_takeVerseAway 16 = .ok (.iload_n 3, 1) := by decide +kernel
theorem dX1_takeVerseAway_17 : decode cX1_takeVerseAway 17 = .ok (.iaload, 1) := by decide +kernel
theorem dX1_takeVerseAway_18 : decode cX1_takeVerseAway 18 = .ok (.iload_n 1, 1) := by decide +kernel
theorem dX1_takeVerseAway_19 : decode cX1_takeVerseAway 19 = .ok (.if_icmp .ne 22, 3) := by decide +kernel
theorem dX1_takeVerseAway_22 : decode cX1_takeVerseAway 22 = .ok (.aload_n 0, 1) := by decide +kernel
theorem dX1_takeVerseAway_23 : decode cX1_takeVerseAway 23 = .ok (.getfield 40, 3) := by decide +kernel
theorem dX1_takeVerseAway_26 : decode cX1_takeVerseAway 26 = .ok (.iload_n 3, 1) := by decide +kernel
theorem dX1_takeVerseAway_27 : decode cX1_takeVerseAway 27 = .ok (.iaload, 1) := by decide +kernel
theorem dX1_takeVerseAway_28 : decode cX1_takeVerseAway 28 = .ok (.bipush (-2), 2) := by decide +kernel
theorem dX1_takeVerseAway_30 : decode cX1_takeVerseAway 30 = .ok (.if_icmp .eq 11, 3) := by decide +kernel
theorem dX1_takeVerseAway_33 : decode cX1_takeVerseAway 33 = .ok (.aload_n 0, 1) := by decide +kernel
theorem dX1_takeVerseAway_34 : decode cX1_takeVerseAway 34 = .ok (.iload_n 3, 1) := by decide +kernel
theorem dX1_takeVerseAway_35 : decode cX1_takeVerseAway 35 = .ok (.invokevirtual 58, 3) := by decide +kernel
theorem dX1_takeVerseAway_38 : decode cX1_takeVerseAway 38 = .ok (.iinc 2 1, 3) := by decide +kernel
theorem dX1_takeVerseAway_41 : decode cX1_takeVerseAway 41 = .ok (.iinc 3 1, 3) := by decide +kernel
theorem dX1_takeVerseAway_44 : decode cX1_takeVerseAway 44 = .ok (.goto (-40), 3) := by decide +kernel
theorem dX1_takeVerseAway_47 : decode cX1_takeVerseAway 47 = .ok (.iload_n 2, 1) := by decide +kernel
theorem dX1_takeVerseAway_48 : decode cX1_takeVerseAway 48 = .ok (.ireturn, 1) := by decide +kernel
theorem dX1_isOnScreen_0 : decode cX1_isOnScreen 0 = .ok (.aload_n 0, 1) := by decide +kernel
theorem dX1_isOnScreen_1 : decode cX1_isOnScreen 1 = .ok (.getfield 40, 3) := by decide +kernel
theorem dX1_isOnScreen_4 : decode cX1_isOnScreen 4 = .ok (.iload_n 1, 1) := by decide +kernel
theorem dX1_isOnScreen_5 : decode cX1_isOnScreen 5 = .ok (.iaload, 1) := by decide +kernel
theorem dX1_isOnScreen_6 : decode cX1_isOnScreen 6 = .ok (.ifCond .lt 7, 3) := by decide +kernel
theorem dX1_isOnScreen_9 : decode cX1_isOnScreen 9 = .ok (.iconst 1, 1) := by decide +kernel
theorem dX1_isOnScreen_10 : decode cX1_isOnScreen 10 = .ok (.goto 4, 3) := by decide +kernel
theorem dX1_isOnScreen_13 : decode cX1_isOnScreen 13 = .ok (.iconst 0, 1) := by decide +kernel
theorem dX1_isOnScreen_14 : decode cX1_isOnScreen 14 = .ok (.ireturn, 1) := by decide +kernel
theorem dX1_passBeat_0 : decode cX1_passBeat 0 = .ok (.aload_n 0, 1) := by decide +kernel
theorem dX1_passBeat_1 : decode cX1_passBeat 1 = .ok (.invokevirtual 62, 3) := by decide +kernel
theorem dX1_passBeat_4 : decode cX1_passBeat 4 = .ok (.aload_n 0, 1) := by decide +kernel
theorem dX1_passBeat_5 : decode cX1_passBeat 5 = .ok (.invokevirtual 65, 3) := by decide +kernel
theorem dX1_passBeat_8 : decode cX1_passBeat 8 = .ok (.aload_n 0, 1) := by decide +kernel
theorem dX1_passBeat_9 : decode cX1_passBeat 9 = .ok (.invokevirtual 68, 3) := by decide +kernel
theorem dX1_passBeat_12 : decode cX1_passBeat 12 = .ok (.aload_n 0, 1) := by decide +kernel
theorem dX1_passBeat_13 : decode cX1_passBeat 13 = .ok (.dup, 1) := by decide +kernel
theorem dX1_passBeat_14 : decode cX1_passBeat 14 = .ok (.getfield 9, 3) := by decide +kernel
theorem dX1_passBeat_17 : decode cX1_passBeat 17 = .ok (.iconst 1, 1) := by decide +kernel
theorem dX1_passBeat_18 : decode cX1_passBeat 18 = .ok (.iadd, 1) := by decide +kernel
theorem dX1_passBeat_19 : decode cX1_passBeat 19 = .ok (.putfield 9, 3) := by decide +kernel
theorem dX1_passBeat_22 : decode cX1_passBeat 22 = .ok (.return_, 1) := by decide +kernel
theorem dX1_settle_0 : decode cX1_settle 0 = .ok (.iconst 0, 1) := by decide +kernel
theorem dX1_settle_1 : decode cX1_settle 1 = .ok (.istore_n 1, 1) := by decide +kernel
theorem dX1_settle_2 : decode cX1_settle 2 = .ok (.iload_n 1, 1) := by decide +kernel
theorem dX1_settle_3 : decode cX1_settle 3 = .ok (.sipush 200, 3) := by decide +kernel
theorem dX1_settle_6 : decode cX1_settle 6 = .ok (.if_icmp .ge 22, 3) := by decide +kernel
theorem dX1_settle_9 : decode cX1_settle 9 = .ok (.aload_n 0, 1) := by decide +kernel
theorem dX1_settle_10 : decode cX1_settle 10 = .ok (.invokevirtual 71, 3) := by decide +kernel
theorem dX1_settle_13 : decode cX1_settle 13 = .ok (.ifCond .eq 5, 3) := by decide +kernel
theorem dX1_settle_16 : decode cX1_settle 16 = .ok (.iload_n 1, 1) := by decide +kernel
theorem dX1_settle_17 : decode cX1_settle 17 = .ok (.ireturn, 1) := by decide +kernel
theorem dX1_settle_18 : decode cX1_settle 18 = .ok (.aload_n 0, 1) := by decide +kernel
theorem dX1_settle_19 : decode cX1_settle 19 = .ok (.invokevirtual 75, 3) := by decide +kernel
theorem dX1_settle_22 : decode cX1_settle 22 = .ok (.iinc 1 1, 3) := by decide +kernel
theorem dX1_settle_25 : decode cX1_settle 25 = .ok (.goto (-23), 3) := by decide +kernel
theorem dX1_settle_28 : decode cX1_settle 28 = .ok (.aload_n 0, 1) := by decide +kernel
theorem dX1_settle_29 : decode cX1_settle 29 = .ok (.invokevirtual 71, 3) := by decide +kernel
theorem dX1_settle_32 : decode cX1_settle 32 = .ok (.ifCond .eq 9, 3) := by decide +kernel
theorem dX1_settle_35 : decode cX1_settle 35 = .ok (.sipush 200, 3) := by decide +kernel
theorem dX1_settle_38 : decode cX1_settle 38 = .ok (.goto 4, 3) := by decide +kernel
theorem dX1_settle_41 : decode cX1_settle 41 = .ok (.iconst (-1), 1) := by decide +kernel
theorem dX1_settle_42 : decode cX1_settle 42 = .ok (.ireturn, 1) := by decide +kernel
theorem dX1_letGo_0 : decode cX1_letGo 0 = .ok (.iconst 0, 1) := by decide +kernel
theorem dX1_letGo_1 : decode cX1_letGo 1 = .ok (.istore_n 1, 1) := by decide +kernel
theorem dX1_letGo_2 : decode cX1_letGo 2 = .ok (.iconst 0, 1) := by decide +kernel
theorem dX1_letGo_3 : decode cX1_letGo 3 = .ok (.istore_n 2, 1) := by decide +kernel
theorem dX1_letGo_4 : decode cX1_letGo 4 = .ok (.iload_n 2, 1) := by decide +kernel
theorem dX1_letGo_5 : decode cX1_letGo 5 = .ok (.aload_n 0, 1) := by decide +kernel
theorem dX1_letGo_6 : decode cX1_letGo 6 = .ok (.getfield 21, 3) := by decide +kernel
theorem dX1_letGo_9 : decode cX1_letGo 9 = .ok (.if_icmp .ge 32, 3) := by decide +kernel
theorem dX1_letGo_12 : decode cX1_letGo 12 = .ok (.aload_n 0, 1) := by decide +kernel
theorem dX1_letGo_13 : decode cX1_letGo 13 = .ok (.iload_n 2, 1) := by decide +kernel
theorem dX1_letGo_14 : decode cX1_letGo 14 = .ok (.invokevirtual 78, 3) := by decide +kernel
theorem dX1_letGo_17 : decode cX1_letGo 17 = .ok (.ifCond .eq 18, 3) := by decide +kernel
theorem dX1_letGo_20 : decode cX1_letGo 20 = .ok (.aload_n 0, 1) := by decide +kernel
theorem dX1_letGo_21 : decode cX1_letGo 21 = .ok (.getfield 49, 3) := by decide +kernel
theorem dX1_letGo_24 : decode cX1_letGo 24 = .ok (.iload_n 1, 1) := by decide +kernel
theorem dX1_letGo_25 : decode cX1_letGo 25 = .ok (.aload_n 0, 1) := by decide +kernel
theorem dX1_letGo_26 : decode cX1_letGo 26 = .ok (.iconst 0, 1) := by decide +kernel
theorem dX1_letGo_27 : decode cX1_letGo 27 = .ok (.iload_n 2, 1) := by decide +kernel
theorem dX1_letGo_28 : decode cX1_letGo 28 = .ok (.invokevirtual 82, 3) := by decide +kernel
theorem dX1_letGo_31 : decode cX1_letGo 31 = .ok (.iastore, 1) := by decide +kernel
theorem dX1_letGo_32 : decode cX1_letGo 32 = .ok (.iinc 1 1, 3) := by decide +kernel
theorem dX1_letGo_35 : decode cX1_letGo 35 = .ok (.iinc 2 1, 3) := by decide +kernel
theorem dX1_letGo_38 : decode cX1_letGo 38 = .ok (.goto (-34), 3) := by decide +kernel
theorem dX1_letGo_41 : decode cX1_letGo 41 = .ok (.aload_n 0, 1) := by decide +kernel
theorem dX1_letGo_42 : decode cX1_letGo 42 = .ok (.iload_n 1, 1) := by decide +kernel
theorem dX1_letGo_43 : decode cX1_letGo 43 = .ok (.invokevirtual 86, 3) := by decide +kernel
theorem dX1_letGo_46 : decode cX1_letGo 46 = .ok (.iconst 0, 1) := by decide +kernel
theorem dX1_letGo_47 : decode cX1_letGo 47 = .ok (.istore_n 2, 1) := by decide +kernel
theorem dX1_letGo_48 : decode cX1_letGo 48 = .ok (.iload_n 2, 1) := by decide +kernel
theorem dX1_letGo_49 : decode cX1_letGo 49 = .ok (.iload_n 1, 1) := by decide +kernel
theorem dX1_letGo_50 : decode cX1_letGo 50 = .ok (.if_icmp .ge 57, 3) := by decide +kernel
theorem dX1_letGo_53 : decode cX1_letGo 53 = .ok (.aload_n 0, 1) := by decide +kernel
theorem dX1_letGo_54 : decode cX1_letGo 54 = .ok (.getfield 49, 3) := by decide +kernel
theorem dX1_letGo_57 : decode cX1_letGo 57 = .ok (.iload_n 2, 1) := by decide +kernel
theorem dX1_letGo_58 : decode cX1_letGo 58 = .ok (.iaload, 1) := by decide +kernel
theorem dX1_letGo_59 : decode cX1_letGo 59 = .ok (.invokestatic 89, 3) := by decide +kernel
theorem dX1_letGo_62 : decode cX1_letGo 62 = .ok (.istore_n 3, 1) := by decide +kernel
theorem dX1_letGo_63 : decode cX1_letGo 63 = .ok (.aload_n 0, 1) := by decide +kernel
theorem dX1_letGo_64 : decode cX1_letGo 64 = .ok (.getfield 46, 3) := by decide +kernel
theorem dX1_letGo_67 : decode cX1_letGo 67 = .ok (.iconst 0, 1) := by decide +kernel
theorem dX1_letGo_68 : decode cX1_letGo 68 = .ok (.iaload, 1) := by decide +kernel
theorem dX1_letGo_69 : decode cX1_letGo 69 = .ok (.aload_n 0, 1) := by decide +kernel
theorem dX1_letGo_70 : decode cX1_letGo 70 = .ok (.getfield 43, 3) := by decide +kernel
theorem dX1_letGo_73 : decode cX1_letGo 73 = .ok (.iload_n 3, 1) := by decide +kernel
theorem dX1_letGo_74 : decode cX1_letGo 74 = .ok (.iaload, 1) := by decide +kernel
theorem dX1_letGo_75 : decode cX1_letGo 75 = .ok (.iand, 1) := by decide +kernel
theorem dX1_letGo_76 : decode cX1_letGo 76 = .ok (.ifCond .ne 25, 3) := by decide +kernel
theorem dX1_letGo_79 : decode cX1_letGo 79 = .ok (.aload_n 0, 1) := by decide +kernel
theorem dX1_letGo_80 : decode cX1_letGo 80 = .ok (.getfield 40, 3) := by decide +kernel
theorem dX1_letGo_83 : decode cX1_letGo 83 = .ok (.iload_n 3, 1) := by decide +kernel
theorem dX1_letGo_84 : decode cX1_letGo 84 = .ok (.iconst 0, 1) := by decide +kernel
theorem dX1_letGo_85 : decode cX1_letGo 85 = .ok (.iastore, 1) := by decide +kernel
theorem dX1_letGo_86 : decode cX1_letGo 86 = .ok (.aload_n 0, 1) := by decide +kernel
theorem dX1_letGo_87 : decode cX1_letGo 87 = .ok (.getfield 46, 3) := by decide +kernel
theorem dX1_letGo_90 : decode cX1_letGo 90 = .ok (.iconst 0, 1) := by decide +kernel
theorem dX1_letGo_91 : decode cX1_letGo 91 = .ok (.dup2, 1) := by decide +kernel
theorem dX1_letGo_92 : decode cX1_letGo 92 = .ok (.iaload, 1) := by decide +kernel
theorem dX1_letGo_93 : decode cX1_letGo 93 = .ok (.aload_n 0, 1) := by decide +kernel
theorem dX1_letGo_94 : decode cX1_letGo 94 = .ok (.getfield 43, 3) := by decide +kernel
theorem dX1_letGo_97 : decode cX1_letGo 97 = .ok (.iload_n 3, 1) := by decide +kernel
theorem dX1_letGo_98 : decode cX1_letGo 98 = .ok (.iaload, 1) := by decide +kernel
theorem dX1_letGo_99 : decode cX1_letGo 99 = .ok (.ior, 1) := by decide +kernel
theorem dX1_letGo_100 : decode cX1_letGo 100 = .ok (.iastore, 1) := by decide +kernel
theorem dX1_letGo_101 : decode cX1_letGo 101 = .ok (.iinc 2 1, 3) := by decide +kernel
theorem dX1_letGo_104 : decode cX1_letGo 104 = .ok (.goto (-56), 3) := by decide +kernel
theorem dX1_letGo_107 : decode cX1_letGo 107 = .ok (.return_, 1) := by decide +kernel
theorem dX1_moveLines_0 : decode cX1_moveLines 0 = .ok (.iconst 0, 1) := by decide +kernel
theorem dX1_moveLines_1 : decode cX1_moveLines 1 = .ok (.istore_n 1, 1) := by decide +kernel
theorem dX1_moveLines_2 : decode cX1_moveLines 2 = .ok (.iconst 0, 1) := by decide +kernel
theorem dX1_moveLines_3 : decode cX1_moveLines 3 = .ok (.istore_n 2, 1) := by decide +kernel
theorem dX1_moveLines_4 : decode cX1_moveLines 4 = .ok (.iload_n 2, 1) := by decide +kernel
theorem dX1_moveLines_5 : decode cX1_moveLines 5 = .ok (.aload_n 0, 1) := by decide +kernel
theorem dX1_moveLines_6 : decode cX1_moveLines 6 = .ok (.getfield 21, 3) := by decide +kernel
theorem dX1_moveLines_9 : decode cX1_moveLines 9 = .ok (.if_icmp .ge 37, 3) := by decide +kernel
theorem dX1_moveLines_12 : decode cX1_moveLines 12 = .ok (.aload_n 0, 1) := by decide +kernel
theorem dX1_moveLines_13 : decode cX1_moveLines 13 = .ok (.iload_n 2, 1) := by decide +kernel
theorem dX1_moveLines_14 : decode cX1_moveLines 14 = .ok (.invokevirtual 93, 3) := by decide +kernel
theorem dX1_moveLines_17 : decode cX1_moveLines 17 = .ok (.ifCond .eq 23, 3) := by decide +kernel
theorem dX1_moveLines_20 : decode cX1_moveLines 20 = .ok (.aload_n 0, 1) := by decide +kernel
theorem dX1_moveLines_21 : decode cX1_moveLines 21 = .ok (.getfield 49, 3) := by decide +kernel
theorem dX1_moveLines_24 : decode cX1_moveLines 24 = .ok (.iload_n 1, 1) := by decide +kernel
theorem dX1_moveLines_25 : decode cX1_moveLines 25 = .ok (.aload_n 0, 1) := by decide +kernel
theorem dX1_moveLines_26 : decode cX1_moveLines 26 = .ok (.aload_n 0, 1) := by decide +kernel
theorem dX1_moveLines_27 : decode cX1_moveLines 27 = .ok (.getfield 40, 3) := by decide +kernel
theorem dX1_moveLines_30 : decode cX1_moveLines 30 = .ok (.iload_n 2, 1) := by decide +kernel
theorem dX1_moveLines_31 : decode cX1_moveLines 31 = .ok (.iaload, 1) := by decide +kernel
theorem dX1_moveLines_32 : decode cX1_moveLines 32 = .ok (.iload_n 2, 1) := by decide +kernel
theorem dX1_moveLines_33 : decode cX1_moveLines 33 = .ok (.invokevirtual 82, 3) := by decide +kernel
theorem dX1_moveLines_36 : decode cX1_moveLines 36 = .ok (.iastore, 1) := by decide +kernel
theorem dX1_moveLines_37 : decode cX1_moveLines 37 = .ok (.iinc 1 1, 3) := by decide +kernel
theorem dX1_moveLines_40 : decode cX1_moveLines 40 = .ok (.iinc 2 1, 3) := by decide +kernel
theorem dX1_moveLines_43 : decode cX1_moveLines 43 = .ok (.goto (-39), 3) := by decide +kernel
theorem dX1_moveLines_46 : decode cX1_moveLines 46 = .ok (.aload_n 0, 1) := by decide +kernel
theorem dX1_moveLines_47 : decode cX1_moveLines 47 = .ok (.iload_n 1, 1) := by decide +kernel
theorem dX1_moveLines_48 : decode cX1_moveLines 48 = .ok (.invokevirtual 86, 3) := by decide +kernel
theorem dX1_moveLines_51 : decode cX1_moveLines 51 = .ok (.iconst 0, 1) := by decide +kernel
theorem dX1_moveLines_52 : decode cX1_moveLines 52 = .ok (.istore_n 2, 1) := by decide +kernel
theorem dX1_moveLines_53 : decode cX1_moveLines 53 = .ok (.iload_n 2, 1) := by decide +kernel
theorem dX1_moveLines_54 : decode cX1_moveLines 54 = .ok (.iload_n 1, 1) := by decide +kernel
theorem dX1_moveLines_55 : decode cX1_moveLines 55 = .ok (.if_icmp .ge 69, 3) := by decide +kernel
theorem dX1_moveLines_58 : decode cX1_moveLines 58 = .ok (.aload_n 0, 1) := by decide +kernel
theorem dX1_moveLines_59 : decode cX1_moveLines 59 = .ok (.getfield 49, 3) := by decide +kernel
theorem dX1_moveLines_62 : decode cX1_moveLines 62 = .ok (.iload_n 2, 1) := by decide +kernel
theorem dX1_moveLines_63 : decode cX1_moveLines 63 = .ok (.iaload, 1) := by decide +kernel
theorem dX1_moveLines_64 : decode cX1_moveLines 64 = .ok (.invokestatic 89, 3) := by decide +kernel
theorem dX1_moveLines_67 : decode cX1_moveLines 67 = .ok (.istore_n 3, 1) := by decide +kernel
theorem dX1_moveLines_68 : decode cX1_moveLines 68 = .ok (.iconst 1, 1) := by decide +kernel
theorem dX1_moveLines_69 : decode cX1_moveLines 69 = .ok (.aload_n 0, 1) := by decide +kernel
theorem dX1_moveLines_70 : decode cX1_moveLines 70 = .ok (.getfield 28, 3) := by decide +kernel
theorem dX1_moveLines_73 : decode cX1_moveLines 73 = .ok (.iload_n 3, 1) := by decide +kernel
theorem dX1_moveLines_74 : decode cX1_moveLines 74 = .ok (.iaload, 1) := by decide +kernel
theorem dX1_moveLines_75 : decode cX1_moveLines 75 = .ok (.iconst 4, 1) := by decide +kernel
theorem dX1_moveLines_76 : decode cX1_moveLines 76 = .ok (.idiv, 1) := by decide +kernel
theorem dX1_moveLines_77 : decode cX1_moveLines 77 = .ok (.iadd, 1) := by decide +kernel
theorem dX1_moveLines_78 : decode cX1_moveLines 78 = .ok (.istore 4, 2) := by decide +kernel
theorem dX1_moveLines_80 : decode cX1_moveLines 80 = .ok (.iconst 0, 1) := by decide +kernel
theorem dX1_moveLines_81 : decode cX1_moveLines 81 = .ok (.istore 5, 2) := by decide +kernel
theorem dX1_moveLines_83 : decode cX1_moveLines 83 = .ok (.iload 5, 2) := by decide +kernel
theorem dX1_moveLines_85 : decode cX1_moveLines 85 = .ok (.iload 4, 2) := by decide +kernel
theorem dX1_moveLines_87 : decode cX1_moveLines 87 = .ok (.if_icmp .ge 31, 3) := by decide +kernel
theorem dX1_moveLines_90 : decode cX1_moveLines 90 = .ok (.aload_n 0, 1) := by decide +kernel
theorem dX1_moveLines_91 : decode cX1_moveLines 91 = .ok (.iload_n 3, 1) := by decide +kernel
theorem dX1_moveLines_92 : decode cX1_moveLines 92 = .ok (.invokevirtual 96, 3) := by decide +kernel
theorem dX1_moveLines_95 : decode cX1_moveLines 95 = .ok (.istore 6, 2) := by decide +kernel
theorem dX1_moveLines_97 : decode cX1_moveLines 97 = .ok (.iload 6, 2) := by decide +kernel
theorem dX1_moveLines_99 : decode cX1_moveLines 99 = .ok (.ifCond .ne 6, 3) := by decide +kernel
theorem dX1_moveLines_102 : decode cX1_moveLines 102 = .ok (.goto 16, 3) := by decide +kernel
theorem dX1_moveLines_105 : decode cX1_moveLines 105 = .ok (.aload_n 0, 1) := by decide +kernel
theorem dX1_moveLines_106 : decode cX1_moveLines 106 = .ok (.iload_n 3, 1) := by decide +kernel
theorem dX1_moveLines_107 : decode cX1_moveLines 107 = .ok (.iload 6, 2) := by decide +kernel
theorem dX1_moveLines_109 : decode cX1_moveLines 109 = .ok (.invokevirtual 99, 3) := by decide +kernel
theorem dX1_moveLines_112 : decode cX1_moveLines 112 = .ok (.iinc 5 1, 3) := by decide +kernel
theorem dX1_moveLines_115 : decode cX1_moveLines 115 = .ok (.goto (-32), 3) := by decide +kernel
theorem dX1_moveLines_118 : decode cX1_moveLines 118 = .ok (.iinc 2 1, 3) := by decide +kernel
theorem dX1_moveLines_121 : decode cX1_moveLines 121 = .ok (.goto (-68), 3) := by decide +kernel
theorem dX1_moveLines_124 : decode cX1_moveLines 124 = .ok (.return_, 1) := by decide +kernel
theorem dX1_breakLines_0 : decode cX1_breakLines 0 = .ok (.iconst 0, 1) := by decide +kernel
theorem dX1_breakLines_1 : decode cX1_breakLines 1 = .ok (.istore_n 1, 1) := by decide +kernel
theorem dX1_breakLines_2 : decode cX1_breakLines 2 = .ok (.iconst 0, 1) := by decide +kernel
theorem dX1_breakLines_3 : decode cX1_breakLines 3 = .ok (.istore_n 2, 1) := by decide +kernel
theorem dX1_breakLines_4 : decode cX1_breakLines 4 = .ok (.iload_n 2, 1) := by decide +kernel
theorem dX1_breakLines_5 : decode cX1_breakLines 5 = .ok (.aload_n 0, 1) := by decide +kernel
theorem dX1_breakLines_6 : decode cX1_breakLines 6 = .ok (.getfield 21, 3) := by decide +kernel
theorem dX1_breakLines_9 : decode cX1_breakLines 9 = .ok (.if_icmp .ge 28, 3) := by decide +kernel
theorem dX1_breakLines_12 : decode cX1_breakLines 12 = .ok (.aload_n 0, 1) := by decide +kernel
theorem dX1_breakLines_13 : decode cX1_breakLines 13 = .ok (.iload_n 2, 1) := by decide +kernel
theorem dX1_breakLines_14 : decode cX1_breakLines 14 = .ok (.invokevirtual 103, 3) := by decide +kernel
theorem dX1_breakLines_17 : decode cX1_breakLines 17 = .ok (.aload_n 0, 1) := by decide +kernel
theorem dX1_breakLines_18 : decode cX1_breakLines 18 = .ok (.iload_n 2, 1) := by decide +kernel
theorem dX1_breakLines_19 : decode cX1_breakLines 19 = .ok (.invokevirtual 106, 3) := by decide +kernel
theorem dX1_breakLines_22 : decode cX1_breakLines 22 = .ok (.if_icmp .le 9, 3) := by decide +kernel
theorem dX1_breakLines_25 : decode cX1_breakLines 25 = .ok (.iload_n 1, 1) := by decide +kernel
theorem dX1_breakLines_26 : decode cX1_breakLines 26 = .ok (.iconst 1, 1) := by decide +kernel
theorem dX1_breakLines_27 : decode cX1_breakLines 27 = .ok (.iload_n 2, 1) := by decide +kernel
theorem dX1_breakLines_28 : decode cX1_breakLines 28 = .ok (.ishl, 1) := by decide +kernel
theorem dX1_breakLines_29 : decode cX1_breakLines 29 = .ok (.ior, 1) := by decide +kernel
theorem dX1_breakLines_30 : decode cX1_breakLines 30 = .ok (.istore_n 1, 1) := by decide +kernel
theorem dX1_breakLines_31 : decode cX1_breakLines 31 = .ok (.iinc 2 1, 3) := by decide +kernel
theorem dX1_breakLines_34 : decode cX1_breakLines 34 = .ok (.goto (-30), 3) := by decide +kernel
theorem dX1_breakLines_37 : decode cX1_breakLines 37 = .ok (.iconst 0, 1) := by decide +kernel
theorem dX1_breakLines_38 : decode cX1_breakLines 38 = .ok (.istore_n 2, 1) := by decide +kernel
theorem dX1_breakLines_39 : decode cX1_breakLines 39 = .ok (.iload_n 2, 1) := by decide +kernel
theorem dX1_breakLines_40 : decode cX1_breakLines 40 = .ok (.aload_n 0, 1) := by decide +kernel
theorem dX1_breakLines_41 : decode cX1_breakLines 41 = .ok (.getfield 21, 3) := by decide +kernel
theorem dX1_breakLines_44 : decode cX1_breakLines 44 = .ok (.if_icmp .ge 32, 3) := by decide +kernel
theorem dX1_breakLines_47 : decode cX1_breakLines 47 = .ok (.iload_n 1, 1) := by decide +kernel
theorem dX1_breakLines_48 : decode cX1_breakLines 48 = .ok (.iload_n 2, 1) := by decide +kernel
theorem dX1_breakLines_49 : decode cX1_breakLines 49 = .ok (.ishr, 1) := by decide +kernel
theorem dX1_breakLines_50 : decode cX1_breakLines 50 = .ok (.iconst 1, 1) := by decide +kernel
theorem dX1_breakLines_51 : decode cX1_breakLines 51 = .ok (.iand, 1) := by decide +kernel
theorem dX1_breakLines_52 : decode cX1_breakLines 52 = .ok (.ifCond .eq 18, 3) := by decide +kernel
theorem dX1_breakLines_55 : decode cX1_breakLines 55 = .ok (.aload_n 0, 1) := by decide +kernel
theorem dX1_breakLines_56 : decode cX1_breakLines 56 = .ok (.iload_n 2, 1) := by decide +kernel
theorem dX1_breakLines_57 : decode cX1_breakLines 57 = .ok (.invokevirtual 58, 3) := by decide +kernel
theorem dX1_breakLines_60 : decode cX1_breakLines 60 = .ok (.aload_n 0, 1) := by decide +kernel
theorem dX1_breakLines_61 : decode cX1_breakLines 61 = .ok (.dup, 1) := by decide +kernel
theorem dX1_breakLines_62 : decode cX1_breakLines 62 = .ok (.getfield 18, 3) := by decide +kernel
theorem dX1_breakLines_65 : decode cX1_breakLines 65 = .ok (.iconst 1, 1) := by decide +kernel
theorem dX1_breakLines_66 : decode cX1_breakLines 66 = .ok (.iadd, 1) := by decide +kernel
theorem dX1_breakLines_67 : decode cX1_breakLines 67 = .ok (.putfield 18, 3) := by decide +kernel
theorem dX1_breakLines_70 : decode cX1_breakLines 70 = .ok (.iinc 2 1, 3) := by decide +kernel
theorem dX1_breakLines_73 : decode cX1_breakLines 73 = .ok (.goto (-34), 3) := by decide +kernel
theorem dX1_breakLines_76 : decode cX1_breakLines 76 = .ok (.return_, 1) := by decide +kernel
theorem dX1_isDue_0 : decode cX1_isDue 0 = .ok (.aload_n 0, 1) := by decide +kernel
theorem dX1_isDue_1 : decode cX1_isDue 1 = .ok (.getfield 40, 3) := by decide +kernel
theorem dX1_isDue_4 : decode cX1_isDue 4 = .ok (.iload_n 1, 1) := by decide +kernel
theorem dX1_isDue_5 : decode cX1_isDue 5 = .ok (.iaload, 1) := by decide +kernel
theorem dX1_isDue_6 : decode cX1_isDue 6 = .ok (.iconst (-1), 1) := by decide +kernel
theorem dX1_isDue_7 : decode cX1_isDue 7 = .ok (.if_icmp .ne 20, 3) := by decide +kernel
theorem dX1_isDue_10 : decode cX1_isDue 10 = .ok (.aload_n 0, 1) := by decide +kernel
theorem dX1_isDue_11 : decode cX1_isDue 11 = .ok (.getfield 37, 3) := by decide +kernel
theorem dX1_isDue_14 : decode cX1_isDue 14 = .ok (.iload_n 1, 1) := by decide +kernel
theorem dX1_isDue_15 : decode cX1_isDue 15 = .ok (.iaload, 1) := by decide +kernel
theorem dX1_isDue_16 : decode cX1_isDue 16 = .ok (.aload_n 0, 1) := by decide +kernel
theorem dX1_isDue_17 : decode cX1_isDue 17 = .ok (.getfield 9, 3) := by decide +kernel
theorem dX1_isDue_20 : decode cX1_isDue 20 = .ok (.if_icmp .gt 7, 3) := by decide +kernel
theorem dX1_isDue_23 : decode cX1_isDue 23 = .ok (.iconst 1, 1) := by decide +kernel
theorem dX1_isDue_24 : decode cX1_isDue 24 = .ok (.goto 4, 3) := by decide +kernel
theorem dX1_isDue_27 : decode cX1_isDue 27 = .ok (.iconst 0, 1) := by decide +kernel
theorem dX1_isDue_28 : decode cX1_isDue 28 = .ok (.ireturn, 1) := by decide +kernel
theorem dX1_keyOf_0 : decode cX1_keyOf 0 = .ok (.iload_n 1, 1) := by decide +kernel
theorem dX1_keyOf_1 : decode cX1_keyOf 1 = .ok (.bipush 10, 2) := by decide +kernel
theorem dX1_keyOf_3 : decode cX1_keyOf 3 = .ok (.imul, 1) := by decide +kernel
theorem dX1_keyOf_4 : decode cX1_keyOf 4 = .ok (.aload_n 0, 1) := by decide +kernel
theorem dX1_keyOf_5 : decode cX1_keyOf 5 = .ok (.getfield 28, 3) := by decide +kernel
theorem dX1_keyOf_8 : decode cX1_keyOf 8 = .ok (.iload_n 2, 1) := by decide +kernel
theorem dX1_keyOf_9 : decode cX1_keyOf 9 = .ok (.iaload, 1) := by decide +kernel
theorem dX1_keyOf_10 : decode cX1_keyOf 10 = .ok (.iadd, 1) := by decide +kernel
theorem dX1_keyOf_11 : decode cX1_keyOf 11 = .ok (.bipush 16, 2) := by decide +kernel
theorem dX1_keyOf_13 : decode cX1_keyOf 13 = .ok (.imul, 1) := by decide +kernel
theorem dX1_keyOf_14 : decode cX1_keyOf 14 = .ok (.bipush 10, 2) := by decide +kernel
theorem dX1_keyOf_16 : decode cX1_keyOf 16 = .ok (.iload_n 2, 1) := by decide +kernel
theorem dX1_keyOf_17 : decode cX1_keyOf 17 = .ok (.isub, 1) := by decide +kernel
theorem dX1_keyOf_18 : decode cX1_keyOf 18 = .ok (.iadd, 1) := by decide +kernel
theorem dX1_keyOf_19 : decode cX1_keyOf 19 = .ok (.ireturn, 1) := by decide +kernel
theorem dX1_numberOf_0 : decode cX1_numberOf 0 = .ok (.iconst 0, 1) := by decide +kernel
theorem dX1_numberOf_1 : decode cX1_numberOf 1 = .ok (.bipush 10, 2) := by decide +kernel
theorem dX1_numberOf_3 : decode cX1_numberOf 3 = .ok (.iload_n 0, 1) := by decide +kernel
theorem dX1_numberOf_4 : decode cX1_numberOf 4 = .ok (.bipush 15, 2) := by decide +kernel
theorem dX1_numberOf_6 : decode cX1_numberOf 6 = .ok (.iand, 1) := by decide +kernel
theorem dX1_numberOf_7 : decode cX1_numberOf 7 = .ok (.isub, 1) := by decide +kernel
theorem dX1_numberOf_8 : decode cX1_numberOf 8 = .ok (.invokestatic 109, 3) := by decide +kernel
theorem dX1_numberOf_11 : decode cX1_numberOf 11 = .ok (.ireturn, 1) := by decide +kernel
theorem dX1_sortKeys_0 : decode cX1_sortKeys 0 = .ok (.iconst 1, 1) := by decide +kernel
theorem dX1_sortKeys_1 : decode cX1_sortKeys 1 = .ok (.istore_n 2, 1) := by decide +kernel
theorem dX1_sortKeys_2 : decode cX1_sortKeys 2 = .ok (.iload_n 2, 1) := by decide +kernel
theorem dX1_sortKeys_3 : decode cX1_sortKeys 3 = .ok (.iload_n 1, 1) := by decide +kernel
theorem dX1_sortKeys_4 : decode cX1_sortKeys 4 = .ok (.if_icmp .ge 67, 3) := by decide +kernel
theorem dX1_sortKeys_7 : decode cX1_sortKeys 7 = .ok (.aload_n 0, 1) := by decide +kernel
theorem dX1_sortKeys_8 : decode cX1_sortKeys 8 = .ok (.getfield 49, 3) := by decide +kernel
theorem dX1_sortKeys_11 : decode cX1_sortKeys 11 = .ok (.iload_n 2, 1) := by decide +kernel
theorem dX1_sortKeys_12 : decode cX1_sortKeys 12 = .ok (.iaload, 1) := by decide +kernel
theorem dX1_sortKeys_13 : decode cX1_sortKeys 13 = .ok (.istore_n 3, 1) := by decide +kernel
theorem dX1_sortKeys_14 : decode cX1_sortKeys 14 = .ok (.iload_n 2, 1) := by decide +kernel
theorem dX1_sortKeys_15 : decode cX1_sortKeys 15 = .ok (.istore 4, 2) := by decide +kernel
theorem dX1_sortKeys_17 : decode cX1_sortKeys 17 = .ok (.iload 4, 2) := by decide +kernel
theorem dX1_sortKeys_19 : decode cX1_sortKeys 19 = .ok (.ifCond .le 38, 3) := by decide +kernel
theorem dX1_sortKeys_22 : decode cX1_sortKeys 22 = .ok (.aload_n 0, 1) := by decide +kernel
theorem dX1_sortKeys_23 : decode cX1_sortKeys 23 = .ok (.getfield 49, 3) := by decide +kernel
theorem dX1_sortKeys_26 : decode cX1_sortKeys 26 = .ok (.iload 4, 2) := by decide +kernel
theorem dX1_sortKeys_28 : decode cX1_sortKeys 28 = .ok (.iconst 1, 1) := by decide +kernel
theorem dX1_sortKeys_29 : decode cX1_sortKeys 29 = .ok (.isub, 1) := by decide +kernel
theorem dX1_sortKeys_30 : decode cX1_sortKeys 30 = .ok (.iaload, 1) := by decide +kernel
theorem dX1_sortKeys_31 : decode cX1_sortKeys 31 = .ok (.iload_n 3, 1) := by decide +kernel
theorem dX1_sortKeys_32 : decode cX1_sortKeys 32 = .ok (.if_icmp .ge 25, 3) := by decide +kernel
theorem dX1_sortKeys_35 : decode cX1_sortKeys 35 = .ok (.aload_n 0, 1) := by decide +kernel
theorem dX1_sortKeys_36 : decode cX1_sortKeys 36 = .ok (.getfield 49, 3) := by decide +kernel
theorem dX1_sortKeys_39 : decode cX1_sortKeys 39 = .ok (.iload 4, 2) := by decide +kernel
theorem dX1_sortKeys_41 : decode cX1_sortKeys 41 = .ok (.aload_n 0, 1) := by decide +kernel
theorem dX1_sortKeys_42 : decode cX1_sortKeys 42 = .ok (.getfield 49, 3) := by decide +kernel
theorem dX1_sortKeys_45 : decode cX1_sortKeys 45 = .ok (.iload 4, 2) := by decide +kernel
theorem dX1_sortKeys_47 : decode cX1_sortKeys 47 = .ok (.iconst 1, 1) := by decide +kernel
theorem dX1_sortKeys_48 : decode cX1_sortKeys 48 = .ok (.isub, 1) := by decide +kernel
theorem dX1_sortKeys_49 : decode cX1_sortKeys 49 = .ok (.iaload, 1) := by decide +kernel
theorem dX1_sortKeys_50 : decode cX1_sortKeys 50 = .ok (.iastore, 1) := by decide +kernel
theorem dX1_sortKeys_51 : decode cX1_sortKeys 51 = .ok (.iinc 4 (-1), 3) := by decide +kernel
theorem dX1_sortKeys_54 : decode cX1_sortKeys 54 = .ok (.goto (-37), 3) := by decide +kernel
theorem dX1_sortKeys_57 : decode cX1_sortKeys 57 = .ok (.aload_n 0, 1) := by decide +kernel
theorem dX1_sortKeys_58 : decode cX1_sortKeys 58 = .ok (.getfield 49, 3) := by decide +kernel
theorem dX1_sortKeys_61 : decode cX1_sortKeys 61 = .ok (.iload 4, 2) := by decide +kernel
theorem dX1_sortKeys_63 : decode cX1_sortKeys 63 = .ok (.iload_n 3, 1) := by decide +kernel
theorem dX1_sortKeys_64 : decode cX1_sortKeys 64 = .ok (.iastore, 1) := by decide +kernel
theorem dX1_sortKeys_65 : decode cX1_sortKeys 65 = .ok (.iinc 2 1, 3) := by decide +kernel
theorem dX1_sortKeys_68 : decode cX1_sortKeys 68 = .ok (.goto (-66), 3) := by decide +kernel
theorem dX1_sortKeys_71 : decode cX1_sortKeys 71 = .ok (.return_, 1) := by decide +kernel
theorem dX1_stepOf_0 : decode cX1_stepOf 0 = .ok (.aload_n 0, 1) := by decide +kernel
theorem dX1_stepOf_1 : decode cX1_stepOf 1 = .ok (.getfield 40, 3) := by decide +kernel
theorem dX1_stepOf_4 : decode cX1_stepOf 4 = .ok (.iload_n 1, 1) := by decide +kernel
theorem dX1_stepOf_5 : decode cX1_stepOf 5 = .ok (.iaload, 1) := by decide +kernel
theorem dX1_stepOf_6 : decode cX1_stepOf 6 = .ok (.istore_n 2, 1) := by decide +kernel
theorem dX1_stepOf_7 : decode cX1_stepOf 7 = .ok (.iload_n 2, 1) := by decide +kernel
theorem dX1_stepOf_8 : decode cX1_stepOf 8 = .ok (.ifCond .lt 9, 3) := by decide +kernel
theorem dX1_stepOf_11 : decode cX1_stepOf 11 = .ok (.iload_n 2, 1) := by decide +kernel
theorem dX1_stepOf_12 : decode cX1_stepOf 12 = .ok (.bipush 15, 2) := by decide +kernel
theorem dX1_stepOf_14 : decode cX1_stepOf 14 = .ok (.if_icmp .lt 5, 3) := by decide +kernel
theorem dX1_stepOf_17 : decode cX1_stepOf 17 = .ok (.iconst 0, 1) := by decide +kernel
theorem dX1_stepOf_18 : decode cX1_stepOf 18 = .ok (.ireturn, 1) := by decide +kernel
theorem dX1_stepOf_19 : decode cX1_stepOf 19 = .ok (.aload_n 0, 1) := by decide +kernel
theorem dX1_stepOf_20 : decode cX1_stepOf 20 = .ok (.getfield 46, 3) := by decide +kernel
theorem dX1_stepOf_23 : decode cX1_stepOf 23 = .ok (.iload_n 2, 1) := by decide +kernel
theorem dX1_stepOf_24 : decode cX1_stepOf 24 = .ok (.iconst 1, 1) := by decide +kernel
theorem dX1_stepOf_25 : decode cX1_stepOf 25 = .ok (.iadd, 1) := by decide +kernel
theorem dX1_stepOf_26 : decode cX1_stepOf 26 = .ok (.iaload, 1) := by decide +kernel
theorem dX1_stepOf_27 : decode cX1_stepOf 27 = .ok (.aload_n 0, 1) := by decide +kernel
theorem dX1_stepOf_28 : decode cX1_stepOf 28 = .ok (.getfield 43, 3) := by decide +kernel
theorem dX1_stepOf_31 : decode cX1_stepOf 31 = .ok (.iload_n 1, 1) := by decide +kernel
theorem dX1_stepOf_32 : decode cX1_stepOf 32 = .ok (.iaload, 1) := by decide +kernel
theorem dX1_stepOf_33 : decode cX1_stepOf 33 = .ok (.iand, 1) := by decide +kernel
theorem dX1_stepOf_34 : decode cX1_stepOf 34 = .ok (.istore_n 3, 1) := by decide +kernel
theorem dX1_stepOf_35 : decode cX1_stepOf 35 = .ok (.iload_n 3, 1) := by decide +kernel
theorem dX1_stepOf_36 : decode cX1_stepOf 36 = .ok (.ifCond .ne 5, 3) := by decide +kernel
theorem dX1_stepOf_39 : decode cX1_stepOf 39 = .ok (.iconst 1, 1) := by decide +kernel
theorem dX1_stepOf_40 : decode cX1_stepOf 40 = .ok (.ireturn, 1) := by decide +kernel
theorem dX1_stepOf_41 : decode cX1_stepOf 41 = .ok (.iconst 2, 1) := by decide +kernel
theorem dX1_stepOf_42 : decode cX1_stepOf 42 = .ok (.aload_n 0, 1) := by decide +kernel
theorem dX1_stepOf_43 : decode cX1_stepOf 43 = .ok (.getfield 34, 3) := by decide +kernel
theorem dX1_stepOf_46 : decode cX1_stepOf 46 = .ok (.iload_n 1, 1) := by decide +kernel
theorem dX1_stepOf_47 : decode cX1_stepOf 47 = .ok (.iaload, 1) := by decide +kernel
theorem dX1_stepOf_48 : decode cX1_stepOf 48 = .ok (.imul, 1) := by decide +kernel
theorem dX1_stepOf_49 : decode cX1_stepOf 49 = .ok (.aload_n 0, 1) := by decide +kernel
theorem dX1_stepOf_50 : decode cX1_stepOf 50 = .ok (.getfield 24, 3) := by decide +kernel
theorem dX1_stepOf_53 : decode cX1_stepOf 53 = .ok (.iload_n 1, 1) := by decide +kernel
theorem dX1_stepOf_54 : decode cX1_stepOf 54 = .ok (.iaload, 1) := by decide +kernel
theorem dX1_stepOf_55 : decode cX1_stepOf 55 = .ok (.iadd, 1) := by decide +kernel
theorem dX1_stepOf_56 : decode cX1_stepOf 56 = .ok (.iconst 1, 1) := by decide +kernel
theorem dX1_stepOf_57 : decode cX1_stepOf 57 = .ok (.isub, 1) := by decide +kernel
theorem dX1_stepOf_58 : decode cX1_stepOf 58 = .ok (.istore 4, 2) := by decide +kernel
theorem dX1_stepOf_60 : decode cX1_stepOf 60 = .ok (.iconst 2, 1) := by decide +kernel
theorem dX1_stepOf_61 : decode cX1_stepOf 61 = .ok (.iload 4, 2) := by decide +kernel
theorem dX1_stepOf_63 : decode cX1_stepOf 63 = .ok (.iconst 2, 1) := by decide +kernel
theorem dX1_stepOf_64 : decode cX1_stepOf 64 = .ok (.idiv, 1) := by decide +kernel
theorem dX1_stepOf_65 : decode cX1_stepOf 65 = .ok (.ishl, 1) := by decide +kernel
theorem dX1_stepOf_66 : decode cX1_stepOf 66 = .ok (.iconst 1, 1) := by decide +kernel
theorem dX1_stepOf_67 : decode cX1_stepOf 67 = .ok (.isub, 1) := by decide +kernel
theorem dX1_stepOf_68 : decode cX1_stepOf 68 = .ok (.istore 5, 2) := by decide +kernel
theorem dX1_stepOf_70 : decode cX1_stepOf 70 = .ok (.iload_n 3, 1) := by decide +kernel
theorem dX1_stepOf_71 : decode cX1_stepOf 71 = .ok (.iload 5, 2) := by decide +kernel
theorem dX1_stepOf_73 : decode cX1_stepOf 73 = .ok (.iand, 1) := by decide +kernel
theorem dX1_stepOf_74 : decode cX1_stepOf 74 = .ok (.ifCond .ne 18, 3) := by decide +kernel
theorem dX1_stepOf_77 : decode cX1_stepOf 77 = .ok (.aload_n 0, 1) := by decide +kernel
theorem dX1_stepOf_78 : decode cX1_stepOf 78 = .ok (.iload_n 1, 1) := by decide +kernel
theorem dX1_stepOf_79 : decode cX1_stepOf 79 = .ok (.iconst 0, 1) := by decide +kernel
theorem dX1_stepOf_80 : decode cX1_stepOf 80 = .ok (.invokevirtual 114, 3) := by decide +kernel
theorem dX1_stepOf_83 : decode cX1_stepOf 83 = .ok (.ifCond .eq 7, 3) := by decide +kernel
theorem dX1_stepOf_86 : decode cX1_stepOf 86 = .ok (.iconst 2, 1) := by decide +kernel
theorem dX1_stepOf_87 : decode cX1_stepOf 87 = .ok (.goto 4, 3) := by decide +kernel
theorem dX1_stepOf_90 : decode cX1_stepOf 90 = .ok (.iconst 0, 1) := by decide +kernel
theorem dX1_stepOf_91 : decode cX1_stepOf 91 = .ok (.ireturn, 1) := by decide +kernel
theorem dX1_stepOf_92 : decode cX1_stepOf 92 = .ok (.iload_n 3, 1) := by decide +kernel
theorem dX1_stepOf_93 : decode cX1_stepOf 93 = .ok (.iload 4, 2) := by decide +kernel
theorem dX1_stepOf_95 : decode cX1_stepOf 95 = .ok (.iconst 1, 1) := by decide +kernel
theorem dX1_stepOf_96 : decode cX1_stepOf 96 = .ok (.iadd, 1) := by decide +kernel
theorem dX1_stepOf_97 : decode cX1_stepOf 97 = .ok (.iconst 2, 1) := by decide +kernel
theorem dX1_stepOf_98 : decode cX1_stepOf 98 = .ok (.idiv, 1) := by decide +kernel
theorem dX1_stepOf_99 : decode cX1_stepOf 99 = .ok (.ishr, 1) := by decide +kernel
theorem dX1_stepOf_100 : decode cX1_stepOf 100 = .ok (.istore 6, 2) := by decide +kernel
theorem dX1_stepOf_102 : decode cX1_stepOf 102 = .ok (.iload 6, 2) := by decide +kernel
theorem dX1_stepOf_104 : decode cX1_stepOf 104 = .ok (.ifCond .ne 18, 3) := by decide +kernel
theorem dX1_stepOf_107 : decode cX1_stepOf 107 = .ok (.aload_n 0, 1) := by decide +kernel
theorem dX1_stepOf_108 : decode cX1_stepOf 108 = .ok (.iload_n 1, 1) := by decide +kernel
theorem dX1_stepOf_109 : decode cX1_stepOf 109 = .ok (.iconst 1, 1) := by decide +kernel
theorem dX1_stepOf_110 : decode cX1_stepOf 110 = .ok (.invokevirtual 114, 3) := by decide +kernel
theorem dX1_stepOf_113 : decode cX1_stepOf 113 = .ok (.ifCond .eq 7, 3) := by decide +kernel
theorem dX1_stepOf_116 : decode cX1_stepOf 116 = .ok (.iconst 3, 1) := by decide +kernel
theorem dX1_stepOf_117 : decode cX1_stepOf 117 = .ok (.goto 4, 3) := by decide +kernel
theorem dX1_stepOf_120 : decode cX1_stepOf 120 = .ok (.iconst 0, 1) := by decide +kernel
theorem dX1_stepOf_121 : decode cX1_stepOf 121 = .ok (.ireturn, 1) := by decide +kernel
theorem dX1_stepOf_122 : decode cX1_stepOf 122 = .ok (.iconst 0, 1) := by decide +kernel
theorem dX1_stepOf_123 : decode cX1_stepOf 123 = .ok (.ireturn, 1) := by decide +kernel
theorem dX1_takeStep_0 : decode cX1_takeStep 0 = .ok (.iload_n 2, 1) := by decide +kernel
theorem dX1_takeStep_1 : decode cX1_takeStep 1 = .ok (.iconst 1, 1) := by decide +kernel
theorem dX1_takeStep_2 : decode cX1_takeStep 2 = .ok (.if_icmp .ne 11, 3) := by decide +kernel
theorem dX1_takeStep_5 : decode cX1_takeStep 5 = .ok (.aload_n 0, 1) := by decide +kernel
theorem dX1_takeStep_6 : decode cX1_takeStep 6 = .ok (.iload_n 1, 1) := by decide +kernel
theorem dX1_takeStep_7 : decode cX1_takeStep 7 = .ok (.invokevirtual 118, 3) := by decide +kernel
theorem dX1_takeStep_10 : decode cX1_takeStep 10 = .ok (.goto 18, 3) := by decide +kernel
theorem dX1_takeStep_13 : decode cX1_takeStep 13 = .ok (.aload_n 0, 1) := by decide +kernel
theorem dX1_takeStep_14 : decode cX1_takeStep 14 = .ok (.iload_n 1, 1) := by decide +kernel
theorem dX1_takeStep_15 : decode cX1_takeStep 15 = .ok (.iload_n 2, 1) := by decide +kernel
theorem dX1_takeStep_16 : decode cX1_takeStep 16 = .ok (.iconst 3, 1) := by decide +kernel
theorem dX1_takeStep_17 : decode cX1_takeStep 17 = .ok (.if_icmp .ne 7, 3) := by decide +kernel
theorem dX1_takeStep_20 : decode cX1_takeStep 20 = .ok (.iconst 1, 1) := by decide +kernel
theorem dX1_takeStep_21 : decode cX1_takeStep 21 = .ok (.goto 4, 3) := by decide +kernel
theorem dX1_takeStep_24 : decode cX1_takeStep 24 = .ok (.iconst 0, 1) := by decide +kernel
theorem dX1_takeStep_25 : decode cX1_takeStep 25 = .ok (.invokevirtual 121, 3) := by decide +kernel
theorem dX1_takeStep_28 : decode cX1_takeStep 28 = .ok (.return_, 1) := by decide +kernel
theorem dX1_fall_0 : decode cX1_fall 0 = .ok (.aload_n 0, 1) := by decide +kernel
theorem dX1_fall_1 : decode cX1_fall 1 = .ok (.getfield 40, 3) := by decide +kernel
theorem dX1_fall_4 : decode cX1_fall 4 = .ok (.iload_n 1, 1) := by decide +kernel
theorem dX1_fall_5 : decode cX1_fall 5 = .ok (.iaload, 1) := by decide +kernel
theorem dX1_fall_6 : decode cX1_fall 6 = .ok (.istore_n 2, 1) := by decide +kernel
theorem dX1_fall_7 : decode cX1_fall 7 = .ok (.iload_n 2, 1) := by decide +kernel
theorem dX1_fall_8 : decode cX1_fall 8 = .ok (.ifCond .lt 9, 3) := by decide +kernel
theorem dX1_fall_11 : decode cX1_fall 11 = .ok (.iload_n 2, 1) := by decide +kernel
theorem dX1_fall_12 : decode cX1_fall 12 = .ok (.bipush 15, 2) := by decide +kernel
theorem dX1_fall_14 : decode cX1_fall 14 = .ok (.if_icmp .lt 4, 3) := by decide +kernel
theorem dX1_fall_17 : decode cX1_fall 17 = .ok (.return_, 1) := by decide +kernel
theorem dX1_fall_18 : decode cX1_fall 18 = .ok (.aload_n 0, 1) := by decide +kernel
theorem dX1_fall_19 : decode cX1_fall 19 = .ok (.getfield 46, 3) := by decide +kernel
theorem dX1_fall_22 : decode cX1_fall 22 = .ok (.iload_n 2, 1) := by decide +kernel
theorem dX1_fall_23 : decode cX1_fall 23 = .ok (.dup2, 1) := by decide +kernel
theorem dX1_fall_24 : decode cX1_fall 24 = .ok (.iaload, 1) := by decide +kernel
theorem dX1_fall_25 : decode cX1_fall 25 = .ok (.aload_n 0, 1) := by decide +kernel
theorem dX1_fall_26 : decode cX1_fall 26 = .ok (.getfield 43, 3) := by decide +kernel
theorem dX1_fall_29 : decode cX1_fall 29 = .ok (.iload_n 1, 1) := by decide +kernel
theorem dX1_fall_30 : decode cX1_fall 30 = .ok (.iaload, 1) := by decide +kernel
theorem dX1_fall_31 : decode cX1_fall 31 = .ok (.iconst (-1), 1) := by decide +kernel
theorem dX1_fall_32 : decode cX1_fall 32 = .ok (.ixor, 1) := by decide +kernel
theorem dX1_fall_33 : decode cX1_fall 33 = .ok (.iand, 1) := by decide +kernel
theorem dX1_fall_34 : decode cX1_fall 34 = .ok (.iastore, 1) := by decide +kernel
theorem dX1_fall_35 : decode cX1_fall 35 = .ok (.aload_n 0, 1) := by decide +kernel
theorem dX1_fall_36 : decode cX1_fall 36 = .ok (.getfield 46, 3) := by decide +kernel
theorem dX1_fall_39 : decode cX1_fall 39 = .ok (.iload_n 2, 1) := by decide +kernel
theorem dX1_fall_40 : decode cX1_fall 40 = .ok (.iconst 1, 1) := by decide +kernel
theorem dX1_fall_41 : decode cX1_fall 41 = .ok (.iadd, 1) := by decide +kernel
theorem dX1_fall_42 : decode cX1_fall 42 = .ok (.dup2, 1) := by decide +kernel
theorem dX1_fall_43 : decode cX1_fall 43 = .ok (.iaload, 1) := by decide +kernel
theorem dX1_fall_44 : decode cX1_fall 44 = .ok (.aload_n 0, 1) := by decide +kernel
theorem dX1_fall_45 : decode cX1_fall 45 = .ok (.getfield 43, 3) := by decide +kernel
theorem dX1_fall_48 : decode cX1_fall 48 = .ok (.iload_n 1, 1) := by decide +kernel
theorem dX1_fall_49 : decode cX1_fall 49 = .ok (.iaload, 1) := by decide +kernel
theorem dX1_fall_50 : decode cX1_fall 50 = .ok (.ior, 1) := by decide +kernel
theorem dX1_fall_51 : decode cX1_fall 51 = .ok (.iastore, 1) := by decide +kernel
theorem dX1_fall_52 : decode cX1_fall 52 = .ok (.aload_n 0, 1) := by decide +kernel
theorem dX1_fall_53 : decode cX1_fall 53 = .ok (.getfield 40, 3) := by decide +kernel
theorem dX1_fall_56 : decode cX1_fall 56 = .ok (.iload_n 1, 1) := by decide +kernel
theorem dX1_fall_57 : decode cX1_fall 57 = .ok (.iload_n 2, 1) := by decide +kernel
theorem dX1_fall_58 : decode cX1_fall 58 = .ok (.iconst 1, 1) := by decide +kernel
theorem dX1_fall_59 : decode cX1_fall 59 = .ok (.iadd, 1) := by decide +kernel
theorem dX1_fall_60 : decode cX1_fall 60 = .ok (.iastore, 1) := by decide +kernel
theorem dX1_fall_61 : decode cX1_fall 61 = .ok (.return_, 1) := by decide +kernel
theorem dX1_isFreeBeside_0 : decode cX1_isFreeBeside 0 = .ok (.aload_n 0, 1) := by decide +kernel
theorem dX1_isFreeBeside_1 : decode cX1_isFreeBeside 1 = .ok (.getfield 40, 3) := by decide +kernel
theorem dX1_isFreeBeside_4 : decode cX1_isFreeBeside 4 = .ok (.iload_n 1, 1) := by decide +kernel
theorem dX1_isFreeBeside_5 : decode cX1_isFreeBeside 5 = .ok (.iaload, 1) := by decide +kernel
theorem dX1_isFreeBeside_6 : decode cX1_isFreeBeside 6 = .ok (.istore_n 3, 1) := by decide +kernel
theorem dX1_isFreeBeside_7 : decode cX1_isFreeBeside 7 = .ok (.iload_n 2, 1) := by decide +kernel
theorem dX1_isFreeBeside_8 : decode cX1_isFreeBeside 8 = .ok (.ifCond .eq 19, 3) := by decide +kernel
theorem dX1_isFreeBeside_11 : decode cX1_isFreeBeside 11 = .ok (.aload_n 0, 1) := by decide +kernel
theorem dX1_isFreeBeside_12 : decode cX1_isFreeBeside 12 = .ok (.getfield 34, 3) := by decide +kernel
theorem dX1_isFreeBeside_15 : decode cX1_isFreeBeside 15 = .ok (.iload_n 1, 1) := by decide +kernel
theorem dX1_isFreeBeside_16 : decode cX1_isFreeBeside 16 = .ok (.iaload, 1) := by decide +kernel
theorem dX1_isFreeBeside_17 : decode cX1_isFreeBeside 17 = .ok (.aload_n 0, 1) := by decide +kernel
theorem dX1_isFreeBeside_18 : decode cX1_isFreeBeside 18 = .ok (.getfield 24, 3) := by decide +kernel
theorem dX1_isFreeBeside_21 : decode cX1_isFreeBeside 21 = .ok (.iload_n 1, 1) := by decide +kernel
theorem dX1_isFreeBeside_22 : decode cX1_isFreeBeside 22 = .ok (.iaload, 1) := by decide +kernel
theorem dX1_isFreeBeside_23 : decode cX1_isFreeBeside 23 = .ok (.iadd, 1) := by decide +kernel
theorem dX1_isFreeBeside_24 : decode cX1_isFreeBeside 24 = .ok (.goto 11, 3) := by decide +kernel
theorem dX1_isFreeBeside_27 : decode cX1_isFreeBeside 27 = .ok (.aload_n 0, 1) := by decide +kernel
theorem dX1_isFreeBeside_28 : decode cX1_isFreeBeside 28 = .ok (.getfield 34, 3) := by decide +kernel
theorem dX1_isFreeBeside_31 : decode cX1_isFreeBeside 31 = .ok (.iload_n 1, 1) := by decide +kernel
theorem dX1_isFreeBeside_32 : decode cX1_isFreeBeside 32 = .ok (.iaload, 1) := by decide +kernel
theorem dX1_isFreeBeside_33 : decode cX1_isFreeBeside 33 = .ok (.iconst 1, 1) := by decide +kernel
theorem dX1_isFreeBeside_34 : decode cX1_isFreeBeside 34 = .ok (.isub, 1) := by decide +kernel
theorem dX1_isFreeBeside_35 : decode cX1_isFreeBeside 35 = .ok (.istore 4, 2) := by decide +kernel
theorem dX1_isFreeBeside_37 : decode cX1_isFreeBeside 37 = .ok (.iload_n 3, 1) := by decide +kernel
theorem dX1_isFreeBeside_38 : decode cX1_isFreeBeside 38 = .ok (.ifCond .lt 33, 3) := by decide +kernel
theorem dX1_isFreeBeside_41 : decode cX1_isFreeBeside 41 = .ok (.iload 4, 2) := by decide +kernel
theorem dX1_isFreeBeside_43 : decode cX1_isFreeBeside 43 = .ok (.ifCond .lt 28, 3) := by decide +kernel
theorem dX1_isFreeBeside_46 : decode cX1_isFreeBeside 46 = .ok (.iload 4, 2) := by decide +kernel
theorem dX1_isFreeBeside_48 : decode cX1_isFreeBeside 48 = .ok (.bipush 24, 2) := by decide +kernel
theorem dX1_isFreeBeside_50 : decode cX1_isFreeBeside 50 = .ok (.if_icmp .ge 21, 3) := by decide +kernel
theorem dX1_isFreeBeside_53 : decode cX1_isFreeBeside 53 = .ok (.aload_n 0, 1) := by decide +kernel
theorem dX1_isFreeBeside_54 : decode cX1_isFreeBeside 54 = .ok (.getfield 46, 3) := by decide +kernel
theorem dX1_isFreeBeside_57 : decode cX1_isFreeBeside 57 = .ok (.iload_n 3, 1) := by decide +kernel
theorem dX1_isFreeBeside_58 : decode cX1_isFreeBeside 58 = .ok (.iaload, 1) := by decide +kernel
theorem dX1_isFreeBeside_59 : decode cX1_isFreeBeside 59 = .ok (.iload 4, 2) := by decide +kernel
theorem dX1_isFreeBeside_61 : decode cX1_isFreeBeside 61 = .ok (.ishr, 1) := by decide +kernel
theorem dX1_isFreeBeside_62 : decode cX1_isFreeBeside 62 = .ok (.iconst 1, 1) := by decide +kernel
theorem dX1_isFreeBeside_63 : decode cX1_isFreeBeside 63 = .ok (.iand, 1) := by decide +kernel
theorem dX1_isFreeBeside_64 : decode cX1_isFreeBeside 64 = .ok (.ifCond .ne 7, 3) := by decide +kernel
theorem dX1_isFreeBeside_67 : decode cX1_isFreeBeside 67 = .ok (.iconst 1, 1) := by decide +kernel
theorem dX1_isFreeBeside_68 : decode cX1_isFreeBeside 68 = .ok (.goto 4, 3) := by decide +kernel
theorem dX1_isFreeBeside_71 : decode cX1_isFreeBeside 71 = .ok (.iconst 0, 1) := by decide +kernel
theorem dX1_isFreeBeside_72 : decode cX1_isFreeBeside 72 = .ok (.ireturn, 1) := by decide +kernel
theorem dX1_slide_0 : decode cX1_slide 0 = .ok (.aload_n 0, 1) := by decide +kernel
theorem dX1_slide_1 : decode cX1_slide 1 = .ok (.getfield 40, 3) := by decide +kernel
theorem dX1_slide_4 : decode cX1_slide 4 = .ok (.iload_n 1, 1) := by decide +kernel
theorem dX1_slide_5 : decode cX1_slide 5 = .ok (.iaload, 1) := by decide +kernel
theorem dX1_slide_6 : decode cX1_slide 6 = .ok (.istore_n 3, 1) := by decide +kernel
theorem dX1_slide_7 : decode cX1_slide 7 = .ok (.iload_n 3, 1) := by decide +kernel
theorem dX1_slide_8 : decode cX1_slide 8 = .ok (.ifCond .ge 4, 3) := by decide +kernel
theorem dX1_slide_11 : decode cX1_slide 11 = .ok (.return_, 1) := by decide +kernel
theorem dX1_slide_12 : decode cX1_slide 12 = .ok (.aload_n 0, 1) := by decide +kernel
theorem dX1_slide_13 : decode cX1_slide 13 = .ok (.getfield 46, 3) := by decide +kernel
theorem dX1_slide_16 : decode cX1_slide 16 = .ok (.iload_n 3, 1) := by decide +kernel
theorem dX1_slide_17 : decode cX1_slide 17 = .ok (.dup2, 1) := by decide +kernel
theorem dX1_slide_18 : decode cX1_slide 18 = .ok (.iaload, 1) := by decide +kernel
theorem dX1_slide_19 : decode cX1_slide 19 = .ok (.aload_n 0, 1) := by decide +kernel
theorem dX1_slide_20 : decode cX1_slide 20 = .ok (.getfield 43, 3) := by decide +kernel
theorem dX1_slide_23 : decode cX1_slide 23 = .ok (.iload_n 1, 1) := by decide +kernel
theorem dX1_slide_24 : decode cX1_slide 24 = .ok (.iaload, 1) := by decide +kernel
theorem dX1_slide_25 : decode cX1_slide 25 = .ok (.iconst (-1), 1) := by decide +kernel
theorem dX1_slide_26 : decode cX1_slide 26 = .ok (.ixor, 1) := by decide +kernel
theorem dX1_slide_27 : decode cX1_slide 27 = .ok (.iand, 1) := by decide +kernel
theorem dX1_slide_28 : decode cX1_slide 28 = .ok (.iastore, 1) := by decide +kernel
theorem dX1_slide_29 : decode cX1_slide 29 = .ok (.aload_n 0, 1) := by decide +kernel
theorem dX1_slide_30 : decode cX1_slide 30 = .ok (.getfield 43, 3) := by decide +kernel
theorem dX1_slide_33 : decode cX1_slide 33 = .ok (.iload_n 1, 1) := by decide +kernel
theorem dX1_slide_34 : decode cX1_slide 34 = .ok (.iload_n 2, 1) := by decide +kernel
theorem dX1_slide_35 : decode cX1_slide 35 = .ok (.ifCond .eq 14, 3) := by decide +kernel
theorem dX1_slide_38 : decode cX1_slide 38 = .ok (.aload_n 0, 1) := by decide +kernel
theorem dX1_slide_39 : decode cX1_slide 39 = .ok (.getfield 43, 3) := by decide +kernel
theorem dX1_slide_42 : decode cX1_slide 42 = .ok (.iload_n 1, 1) := by decide +kernel
theorem dX1_slide_43 : decode cX1_slide 43 = .ok (.iaload, 1) := by decide +kernel
theorem dX1_slide_44 : decode cX1_slide 44 = .ok (.iconst 1, 1) := by decide +kernel
theorem dX1_slide_45 : decode cX1_slide 45 = .ok (.ishl, 1) := by decide +kernel
theorem dX1_slide_46 : decode cX1_slide 46 = .ok (.goto 11, 3) := by decide +kernel
theorem dX1_slide_49 : decode cX1_slide 49 = .ok (.aload_n 0, 1) := by decide +kernel
theorem dX1_slide_50 : decode cX1_slide 50 = .ok (.getfield 43, 3) := by decide +kernel
theorem dX1_slide_53 : decode cX1_slide 53 = .ok (.iload_n 1, 1) := by decide +kernel
theorem dX1_slide_54 : decode cX1_slide 54 = .ok (.iaload, 1) := by decide +kernel
theorem dX1_slide_55 : decode cX1_slide 55 = .ok (.iconst 1, 1) := by decide +kernel
theorem dX1_slide_56 : decode cX1_slide 56 = .ok (.ishr, 1) := by decide +kernel
theorem dX1_slide_57 : decode cX1_slide 57 = .ok (.iastore, 1) := by decide +kernel
theorem dX1_slide_58 : decode cX1_slide 58 = .ok (.aload_n 0, 1) := by decide +kernel
theorem dX1_slide_59 : decode cX1_slide 59 = .ok (.getfield 34, 3) := by decide +kernel
theorem dX1_slide_62 : decode cX1_slide 62 = .ok (.iload_n 1, 1) := by decide +kernel
theorem dX1_slide_63 : decode cX1_slide 63 = .ok (.dup2, 1) := by decide +kernel
theorem dX1_slide_64 : decode cX1_slide 64 = .ok (.iaload, 1) := by decide +kernel
theorem dX1_slide_65 : decode cX1_slide 65 = .ok (.iload_n 2, 1) := by decide +kernel
theorem dX1_slide_66 : decode cX1_slide 66 = .ok (.ifCond .eq 7, 3) := by decide +kernel
theorem dX1_slide_69 : decode cX1_slide 69 = .ok (.iconst 1, 1) := by decide +kernel
theorem dX1_slide_70 : decode cX1_slide 70 = .ok (.goto 4, 3) := by decide +kernel
theorem dX1_slide_73 : decode cX1_slide 73 = .ok (.iconst (-1), 1) := by decide +kernel
theorem dX1_slide_74 : decode cX1_slide 74 = .ok (.iadd, 1) := by decide +kernel
theorem dX1_slide_75 : decode cX1_slide 75 = .ok (.iastore, 1) := by decide +kernel
theorem dX1_slide_76 : decode cX1_slide 76 = .ok (.aload_n 0, 1) := by decide +kernel
theorem dX1_slide_77 : decode cX1_slide 77 = .ok (.getfield 46, 3) := by decide +kernel
theorem dX1_slide_80 : decode cX1_slide 80 = .ok (.iload_n 3, 1) := by decide +kernel
theorem dX1_slide_81 : decode cX1_slide 81 = .ok (.dup2, 1) := by decide +kernel
theorem dX1_slide_82 : decode cX1_slide 82 = .ok (.iaload, 1) := by decide +kernel
theorem dX1_slide_83 : decode cX1_slide 83 = .ok (.aload_n 0, 1) := by decide +kernel
theorem dX1_slide_84 : decode cX1_slide 84 = .ok (.getfield 43, 3) := by decide +kernel
theorem dX1_slide_87 : decode cX1_slide 87 = .ok (.iload_n 1, 1) := by decide +kernel
theorem dX1_slide_88 : decode cX1_slide 88 = .ok (.iaload, 1) := by decide +kernel
theorem dX1_slide_89 : decode cX1_slide 89 = .ok (.ior, 1) := by decide +kernel
theorem dX1_slide_90 : decode cX1_slide 90 = .ok (.iastore, 1) := by decide +kernel
theorem dX1_slide_91 : decode cX1_slide 91 = .ok (.return_, 1) := by decide +kernel
theorem dX1_takeAway_0 : decode cX1_takeAway 0 = .ok (.aload_n 0, 1) := by decide +kernel
theorem dX1_takeAway_1 : decode cX1_takeAway 1 = .ok (.iload_n 1, 1) := by decide +kernel
theorem dX1_takeAway_2 : decode cX1_takeAway 2 = .ok (.invokevirtual 93, 3) := by decide +kernel
theorem dX1_takeAway_5 : decode cX1_takeAway 5 = .ok (.ifCond .eq 25, 3) := by decide +kernel
theorem dX1_takeAway_8 : decode cX1_takeAway 8 = .ok (.aload_n 0, 1) := by decide +kernel
theorem dX1_takeAway_9 : decode cX1_takeAway 9 = .ok (.getfield 46, 3) := by decide +kernel
theorem dX1_takeAway_12 : decode cX1_takeAway 12 = .ok (.aload_n 0, 1) := by decide +kernel
theorem dX1_takeAway_13 : decode cX1_takeAway 13 = .ok (.getfield 40, 3) := by decide +kernel
theorem dX1_takeAway_16 : decode cX1_takeAway 16 = .ok (.iload_n 1, 1) := by decide +kernel
theorem dX1_takeAway_17 : decode cX1_takeAway 17 = .ok (.iaload, 1) := by decide +kernel
theorem dX1_takeAway_18 : decode cX1_takeAway 18 = .ok (.dup2, 1) := by decide +kernel
theorem dX1_takeAway_19 : decode cX1_takeAway 19 = .ok (.iaload, 1) := by decide +kernel
theorem dX1_takeAway_20 : decode cX1_takeAway 20 = .ok (.aload_n 0, 1) := by decide +kernel
theorem dX1_takeAway_21 : decode cX1_takeAway 21 = .ok (.getfield 43, 3) := by decide +kernel
theorem dX1_takeAway_24 : decode cX1_takeAway 24 = .ok (.iload_n 1, 1) := by decide +kernel
theorem dX1_takeAway_25 : decode cX1_takeAway 25 = .ok (.iaload, 1) := by decide +kernel
theorem dX1_takeAway_26 : decode cX1_takeAway 26 = .ok (.iconst (-1), 1) := by decide +kernel
theorem dX1_takeAway_27 : decode cX1_takeAway 27 = .ok (.ixor, 1) := by decide +kernel
theorem dX1_takeAway_28 : decode cX1_takeAway 28 = .ok (.iand, 1) := by decide +kernel
theorem dX1_takeAway_29 : decode cX1_takeAway 29 = .ok (.iastore, 1) := by decide +kernel
theorem dX1_takeAway_30 : decode cX1_takeAway 30 = .ok (.aload_n 0, 1) := by decide +kernel
theorem dX1_takeAway_31 : decode cX1_takeAway 31 = .ok (.getfield 40, 3) := by decide +kernel
theorem dX1_takeAway_34 : decode cX1_takeAway 34 = .ok (.iload_n 1, 1) := by decide +kernel
theorem dX1_takeAway_35 : decode cX1_takeAway 35 = .ok (.bipush (-2), 2) := by decide +kernel
theorem dX1_takeAway_37 : decode cX1_takeAway 37 = .ok (.iastore, 1) := by decide +kernel
theorem dX1_takeAway_38 : decode cX1_takeAway 38 = .ok (.return_, 1) := by decide +kernel
theorem dX1_linesNear_0 : decode cX1_linesNear 0 = .ok (.aload_n 0, 1) := by decide +kernel
theorem dX1_linesNear_1 : decode cX1_linesNear 1 = .ok (.getfield 40, 3) := by decide +kernel
theorem dX1_linesNear_4 : decode cX1_linesNear 4 = .ok (.iload_n 1, 1) := by decide +kernel
theorem dX1_linesNear_5 : decode cX1_linesNear 5 = .ok (.iaload, 1) := by decide +kernel
theorem dX1_linesNear_6 : decode cX1_linesNear 6 = .ok (.ifCond .lt 13, 3) := by decide +kernel
theorem dX1_linesNear_9 : decode cX1_linesNear 9 = .ok (.iload_n 2, 1) := by decide +kernel
theorem dX1_linesNear_10 : decode cX1_linesNear 10 = .ok (.ifCond .lt 9, 3) := by decide +kernel
theorem dX1_linesNear_13 : decode cX1_linesNear 13 = .ok (.iload_n 2, 1) := by decide +kernel
theorem dX1_linesNear_14 : decode cX1_linesNear 14 = .ok (.bipush 16, 2) := by decide +kernel
theorem dX1_linesNear_16 : decode cX1_linesNear 16 = .ok (.if_icmp .lt 5, 3) := by decide +kernel
theorem dX1_linesNear_19 : decode cX1_linesNear 19 = .ok (.iconst 0, 1) := by decide +kernel
theorem dX1_linesNear_20 : decode cX1_linesNear 20 = .ok (.ireturn, 1) := by decide +kernel
theorem dX1_linesNear_21 : decode cX1_linesNear 21 = .ok (.aload_n 0, 1) := by decide +kernel
theorem dX1_linesNear_22 : decode cX1_linesNear 22 = .ok (.getfield 46, 3) := by decide +kernel
theorem dX1_linesNear_25 : decode cX1_linesNear 25 = .ok (.iload_n 2, 1) := by decide +kernel
theorem dX1_linesNear_26 : decode cX1_linesNear 26 = .ok (.iaload, 1) := by decide +kernel
theorem dX1_linesNear_27 : decode cX1_linesNear 27 = .ok (.aload_n 0, 1) := by decide +kernel
theorem dX1_linesNear_28 : decode cX1_linesNear 28 = .ok (.getfield 43, 3) := by decide +kernel
theorem dX1_linesNear_31 : decode cX1_linesNear 31 = .ok (.iload_n 1, 1) := by decide +kernel
theorem dX1_linesNear_32 : decode cX1_linesNear 32 = .ok (.iaload, 1) := by decide +kernel
theorem dX1_linesNear_33 : decode cX1_linesNear 33 = .ok (.iand, 1) := by decide +kernel
theorem dX1_linesNear_34 : decode cX1_linesNear 34 = .ok (.ifCond .ne 5, 3) := by decide +kernel
theorem dX1_linesNear_37 : decode cX1_linesNear 37 = .ok (.iconst 0, 1) := by decide +kernel
theorem dX1_linesNear_38 : decode cX1_linesNear 38 = .ok (.ireturn, 1) := by decide +kernel
theorem dX1_linesNear_39 : decode cX1_linesNear 39 = .ok (.iconst 0, 1) := by decide +kernel
theorem dX1_linesNear_40 : decode cX1_linesNear 40 = .ok (.istore_n 3, 1) := by decide +kernel
theorem dX1_linesNear_41 : decode cX1_linesNear 41 = .ok (.iconst 0, 1) := by decide +kernel
theorem dX1_linesNear_42 : decode cX1_linesNear 42 = .ok (.istore 4, 2) := by decide +kernel
theorem dX1_linesNear_44 : decode cX1_linesNear 44 = .ok (.iload 4, 2) := by decide +kernel
theorem dX1_linesNear_46 : decode cX1_linesNear 46 = .ok (.aload_n 0, 1) := by decide +kernel
theorem dX1_linesNear_47 : decode cX1_linesNear 47 = .ok (.getfield 21, 3) := by decide +kernel
theorem dX1_linesNear_50 : decode cX1_linesNear 50 = .ok (.if_icmp .ge 44, 3) := by decide +kernel
theorem dX1_linesNear_53 : decode cX1_linesNear 53 = .ok (.aload_n 0, 1) := by decide +kernel
theorem dX1_linesNear_54 : decode cX1_linesNear 54 = .ok (.getfield 40, 3) := by decide +kernel
theorem dX1_linesNear_57 : decode cX1_linesNear 57 = .ok (.iload 4, 2) := by decide +kernel
theorem dX1_linesNear_59 : decode cX1_linesNear 59 = .ok (.iaload, 1) := by decide +kernel
theorem dX1_linesNear_60 : decode cX1_linesNear 60 = .ok (.iload_n 2, 1) := by decide +kernel
theorem dX1_linesNear_61 : decode cX1_linesNear 61 = .ok (.if_icmp .ne 27, 3) := by decide +kernel
theorem dX1_linesNear_64 : decode cX1_linesNear 64 = .ok (.aload_n 0, 1) := by decide +kernel
theorem dX1_linesNear_65 : decode cX1_linesNear 65 = .ok (.getfield 43, 3) := by decide +kernel
theorem dX1_linesNear_68 : decode cX1_linesNear 68 = .ok (.iload 4, 2) := by decide +kernel
theorem dX1_linesNear_70 : decode cX1_linesNear 70 = .ok (.iaload, 1) := by decide +kernel
theorem dX1_linesNear_71 : decode cX1_linesNear 71 = .ok (.aload_n 0, 1) := by decide +kernel
theorem dX1_linesNear_72 : decode cX1_linesNear 72 = .ok (.getfield 43, 3) := by decide +kernel
theorem dX1_linesNear_75 : decode cX1_linesNear 75 = .ok (.iload_n 1, 1) := by decide +kernel
theorem dX1_linesNear_76 : decode cX1_linesNear 76 = .ok (.iaload, 1) := by decide +kernel
theorem dX1_linesNear_77 : decode cX1_linesNear 77 = .ok (.iand, 1) := by decide +kernel
theorem dX1_linesNear_78 : decode cX1_linesNear 78 = .ok (.ifCond .eq 10, 3) := by decide +kernel
theorem dX1_linesNear_81 : decode cX1_linesNear 81 = .ok (.iload_n 3, 1) := by decide +kernel
theorem dX1_linesNear_82 : decode cX1_linesNear 82 = .ok (.iconst 1, 1) := by decide +kernel
theorem dX1_linesNear_83 : decode cX1_linesNear 83 = .ok (.iload 4, 2) := by decide +kernel
theorem dX1_linesNear_85 : decode cX1_linesNear 85 = .ok (.ishl, 1) := by decide +kernel
theorem dX1_linesNear_86 : decode cX1_linesNear 86 = .ok (.ior, 1) := by decide +kernel
theorem dX1_linesNear_87 : decode cX1_linesNear 87 = .ok (.istore_n 3, 1) := by decide +kernel
theorem dX1_linesNear_88 : decode cX1_linesNear 88 = .ok (.iinc 4 1, 3) := by decide +kernel
theorem dX1_linesNear_91 : decode cX1_linesNear 91 = .ok (.goto (-47), 3) := by decide +kernel
theorem dX1_linesNear_94 : decode cX1_linesNear 94 = .ok (.iload_n 3, 1) := by decide +kernel
theorem dX1_linesNear_95 : decode cX1_linesNear 95 = .ok (.ireturn, 1) := by decide +kernel
theorem dX1_loadOf_0 : decode cX1_loadOf 0 = .ok (.aload_n 0, 1) := by decide +kernel
theorem dX1_loadOf_1 : decode cX1_loadOf 1 = .ok (.iload_n 1, 1) := by decide +kernel
theorem dX1_loadOf_2 : decode cX1_loadOf 2 = .ok (.aload_n 0, 1) := by decide +kernel
theorem dX1_loadOf_3 : decode cX1_loadOf 3 = .ok (.getfield 40, 3) := by decide +kernel
theorem dX1_loadOf_6 : decode cX1_loadOf 6 = .ok (.iload_n 1, 1) := by decide +kernel
theorem dX1_loadOf_7 : decode cX1_loadOf 7 = .ok (.iaload, 1) := by decide +kernel
theorem dX1_loadOf_8 : decode cX1_loadOf 8 = .ok (.iconst 1, 1) := by decide +kernel
theorem dX1_loadOf_9 : decode cX1_loadOf 9 = .ok (.isub, 1) := by decide +kernel
theorem dX1_loadOf_10 : decode cX1_loadOf 10 = .ok (.invokevirtual 125, 3) := by decide +kernel
theorem dX1_loadOf_13 : decode cX1_loadOf 13 = .ok (.istore_n 2, 1) := by decide +kernel
theorem dX1_loadOf_14 : decode cX1_loadOf 14 = .ok (.iload_n 2, 1) := by decide +kernel
theorem dX1_loadOf_15 : decode cX1_loadOf 15 = .ok (.ifCond .ne 5, 3) := by decide +kernel
theorem dX1_loadOf_18 : decode cX1_loadOf 18 = .ok (.iconst 0, 1) := by decide +kernel
theorem dX1_loadOf_19 : decode cX1_loadOf 19 = .ok (.ireturn, 1) := by decide +kernel
theorem dX1_loadOf_20 : decode cX1_loadOf 20 = .ok (.iconst 0, 1) := by decide +kernel
theorem dX1_loadOf_21 : decode cX1_loadOf 21 = .ok (.istore_n 3, 1) := by decide +kernel
theorem dX1_loadOf_22 : decode cX1_loadOf 22 = .ok (.iconst 0, 1) := by decide +kernel
theorem dX1_loadOf_23 : decode cX1_loadOf 23 = .ok (.istore 4, 2) := by decide +kernel
theorem dX1_loadOf_25 : decode cX1_loadOf 25 = .ok (.iload 4, 2) := by decide +kernel
theorem dX1_loadOf_27 : decode cX1_loadOf 27 = .ok (.aload_n 0, 1) := by decide +kernel
theorem dX1_loadOf_28 : decode cX1_loadOf 28 = .ok (.getfield 21, 3) := by decide +kernel
theorem dX1_loadOf_31 : decode cX1_loadOf 31 = .ok (.if_icmp .ge 28, 3) := by decide +kernel
theorem dX1_loadOf_34 : decode cX1_loadOf 34 = .ok (.iload_n 2, 1) := by decide +kernel
theorem dX1_loadOf_35 : decode cX1_loadOf 35 = .ok (.iload 4, 2) := by decide +kernel
theorem dX1_loadOf_37 : decode cX1_loadOf 37 = .ok (.ishr, 1) := by decide +kernel
theorem dX1_loadOf_38 : decode cX1_loadOf 38 = .ok (.iconst 1, 1) := by decide +kernel
theorem dX1_loadOf_39 : decode cX1_loadOf 39 = .ok (.iand, 1) := by decide +kernel
theorem dX1_loadOf_40 : decode cX1_loadOf 40 = .ok (.ifCond .eq 13, 3) := by decide +kernel
theorem dX1_loadOf_43 : decode cX1_loadOf 43 = .ok (.iload_n 3, 1) := by decide +kernel
theorem dX1_loadOf_44 : decode cX1_loadOf 44 = .ok (.aload_n 0, 1) := by decide +kernel
theorem dX1_loadOf_45 : decode cX1_loadOf 45 = .ok (.getfield 28, 3) := by decide +kernel
theorem dX1_loadOf_48 : decode cX1_loadOf 48 = .ok (.iload 4, 2) := by decide +kernel
theorem dX1_loadOf_50 : decode cX1_loadOf 50 = .ok (.iaload, 1) := by decide +kernel
theorem dX1_loadOf_51 : decode cX1_loadOf 51 = .ok (.iadd, 1) := by decide +kernel
theorem dX1_loadOf_52 : decode cX1_loadOf 52 = .ok (.istore_n 3, 1) := by decide +kernel
theorem dX1_loadOf_53 : decode cX1_loadOf 53 = .ok (.iinc 4 1, 3) := by decide +kernel
theorem dX1_loadOf_56 : decode cX1_loadOf 56 = .ok (.goto (-31), 3) := by decide +kernel
theorem dX1_loadOf_59 : decode cX1_loadOf 59 = .ok (.iload_n 3, 1) := by decide +kernel
theorem dX1_loadOf_60 : decode cX1_loadOf 60 = .ok (.ireturn, 1) := by decide +kernel
theorem dX1_strengthOf_0 : decode cX1_strengthOf 0 = .ok (.aload_n 0, 1) := by decide +kernel
theorem dX1_strengthOf_1 : decode cX1_strengthOf 1 = .ok (.getfield 15, 3) := by decide +kernel
theorem dX1_strengthOf_4 : decode cX1_strengthOf 4 = .ok (.aload_n 0, 1) := by decide +kernel
theorem dX1_strengthOf_5 : decode cX1_strengthOf 5 = .ok (.getfield 24, 3) := by decide +kernel
theorem dX1_strengthOf_8 : decode cX1_strengthOf 8 = .ok (.iload_n 1, 1) := by decide +kernel
theorem dX1_strengthOf_9 : decode cX1_strengthOf 9 = .ok (.iaload, 1) := by decide +kernel
theorem dX1_strengthOf_10 : decode cX1_strengthOf 10 = .ok (.imul, 1) := by decide +kernel
theorem dX1_strengthOf_11 : decode cX1_strengthOf 11 = .ok (.ireturn, 1) := by decide +kernel
theorem dX1_isAtRest_0 : decode cX1_isAtRest 0 = .ok (.aload_n 0, 1) := by decide +kernel
theorem dX1_isAtRest_1 : decode cX1_isAtRest 1 = .ok (.iload_n 1, 1) := by decide +kernel
theorem dX1_isAtRest_2 : decode cX1_isAtRest 2 = .ok (.invokevirtual 93, 3) := by decide +kernel
theorem dX1_isAtRest_5 : decode cX1_isAtRest 5 = .ok (.ifCond .eq 15, 3) := by decide +kernel
theorem dX1_isAtRest_8 : decode cX1_isAtRest 8 = .ok (.aload_n 0, 1) := by decide +kernel
theorem dX1_isAtRest_9 : decode cX1_isAtRest 9 = .ok (.iload_n 1, 1) := by decide +kernel
theorem dX1_isAtRest_10 : decode cX1_isAtRest 10 = .ok (.invokevirtual 96, 3) := by decide +kernel
theorem dX1_isAtRest_13 : decode cX1_isAtRest 13 = .ok (.ifCond .ne 7, 3) := by decide +kernel
theorem dX1_isAtRest_16 : decode cX1_isAtRest 16 = .ok (.iconst 1, 1) := by decide +kernel
theorem dX1_isAtRest_17 : decode cX1_isAtRest 17 = .ok (.goto 4, 3) := by decide +kernel
theorem dX1_isAtRest_20 : decode cX1_isAtRest 20 = .ok (.iconst 0, 1) := by decide +kernel
theorem dX1_isAtRest_21 : decode cX1_isAtRest 21 = .ok (.ireturn, 1) := by decide +kernel
theorem dX1_isAllAtRest_0 : decode cX1_isAllAtRest 0 = .ok (.iconst 0, 1) := by decide +kernel
theorem dX1_isAllAtRest_1 : decode cX1_isAllAtRest 1 = .ok (.istore_n 1, 1) := by decide +kernel
theorem dX1_isAllAtRest_2 : decode cX1_isAllAtRest 2 = .ok (.iload_n 1, 1) := by decide +kernel
theorem dX1_isAllAtRest_3 : decode cX1_isAllAtRest 3 = .ok (.aload_n 0, 1) := by decide +kernel
theorem dX1_isAllAtRest_4 : decode cX1_isAllAtRest 4 = .ok (.getfield 21, 3) := by decide +kernel
theorem dX1_isAllAtRest_7 : decode cX1_isAllAtRest 7 = .ok (.if_icmp .ge 58, 3) := by decide +kernel
theorem dX1_isAllAtRest_10 : decode cX1_isAllAtRest 10 = .ok (.aload_n 0, 1) := by decide +kernel
theorem dX1_isAllAtRest_11 : decode cX1_isAllAtRest 11 = .ok (.iload_n 1, 1) := by decide +kernel
theorem dX1_isAllAtRest_12 : decode cX1_isAllAtRest 12 = .ok (.invokevirtual 93, 3) := by decide +kernel
theorem dX1_isAllAtRest_15 : decode cX1_isAllAtRest 15 = .ok (.ifCond .eq 15, 3) := by decide +kernel
theorem dX1_isAllAtRest_18 : decode cX1_isAllAtRest 18 = .ok (.aload_n 0, 1) := by decide +kernel
theorem dX1_isAllAtRest_19 : decode cX1_isAllAtRest 19 = .ok (.iload_n 1, 1) := by decide +kernel
theorem dX1_isAllAtRest_20 : decode cX1_isAllAtRest 20 = .ok (.invokevirtual 128, 3) := by decide +kernel
theorem dX1_isAllAtRest_23 : decode cX1_isAllAtRest 23 = .ok (.ifCond .ne 7, 3) := by decide +kernel
theorem dX1_isAllAtRest_26 : decode cX1_isAllAtRest 26 = .ok (.iconst 1, 1) := by decide +kernel
theorem dX1_isAllAtRest_27 : decode cX1_isAllAtRest 27 = .ok (.goto 4, 3) := by decide +kernel
theorem dX1_isAllAtRest_30 : decode cX1_isAllAtRest 30 = .ok (.iconst 0, 1) := by decide +kernel
theorem dX1_isAllAtRest_31 : decode cX1_isAllAtRest 31 = .ok (.istore_n 2, 1) := by decide +kernel
theorem dX1_isAllAtRest_32 : decode cX1_isAllAtRest 32 = .ok (.iload_n 2, 1) := by decide +kernel
theorem dX1_isAllAtRest_33 : decode cX1_isAllAtRest 33 = .ok (.ifCond .ne 24, 3) := by decide +kernel
theorem dX1_isAllAtRest_36 : decode cX1_isAllAtRest 36 = .ok (.aload_n 0, 1) := by decide +kernel
theorem dX1_isAllAtRest_37 : decode cX1_isAllAtRest 37 = .ok (.iload_n 1, 1) := by decide +kernel
theorem dX1_isAllAtRest_38 : decode cX1_isAllAtRest 38 = .ok (.invokevirtual 78, 3) := by decide +kernel
theorem dX1_isAllAtRest_41 : decode cX1_isAllAtRest 41 = .ok (.ifCond .ne 16, 3) := by decide +kernel
theorem dX1_isAllAtRest_44 : decode cX1_isAllAtRest 44 = .ok (.aload_n 0, 1) := by decide +kernel
theorem dX1_isAllAtRest_45 : decode cX1_isAllAtRest 45 = .ok (.iload_n 1, 1) := by decide +kernel
theorem dX1_isAllAtRest_46 : decode cX1_isAllAtRest 46 = .ok (.invokevirtual 103, 3) := by decide +kernel
theorem dX1_isAllAtRest_49 : decode cX1_isAllAtRest 49 = .ok (.aload_n 0, 1) := by decide +kernel
theorem dX1_isAllAtRest_50 : decode cX1_isAllAtRest 50 = .ok (.iload_n 1, 1) := by decide +kernel
theorem dX1_isAllAtRest_51 : decode cX1_isAllAtRest 51 = .ok (.invokevirtual 106, 3) := by decide +kernel
theorem dX1_isAllAtRest_54 : decode cX1_isAllAtRest 54 = .ok (.if_icmp .le 5, 3) := by decide +kernel
theorem dX1_isAllAtRest_57 : decode cX1_isAllAtRest 57 = .ok (.iconst 0, 1) := by decide +kernel
theorem dX1_isAllAtRest_58 : decode cX1_isAllAtRest 58 = .ok (.ireturn, 1) := by decide +kernel
theorem dX1_isAllAtRest_59 : decode cX1_isAllAtRest 59 = .ok (.iinc 1 1, 3) := by decide +kernel
theorem dX1_isAllAtRest_62 : decode cX1_isAllAtRest 62 = .ok (.goto (-60), 3) := by decide +kernel
theorem dX1_isAllAtRest_65 : decode cX1_isAllAtRest 65 = .ok (.iconst 1, 1) := by decide +kernel
theorem dX1_isAllAtRest_66 : decode cX1_isAllAtRest 66 = .ok (.ireturn, 1) := by decide +kernel
theorem dX1_stateOf_0 : decode cX1_stateOf 0 = .ok (.aload_n 0, 1) := by decide +kernel
theorem dX1_stateOf_1 : decode cX1_stateOf 1 = .ok (.getfield 40, 3) := by decide +kernel
theorem dX1_stateOf_4 : decode cX1_stateOf 4 = .ok (.iload_n 1, 1) := by decide +kernel
theorem dX1_stateOf_5 : decode cX1_stateOf 5 = .ok (.iaload, 1) := by decide +kernel
theorem dX1_stateOf_6 : decode cX1_stateOf 6 = .ok (.bipush (-2), 2) := by decide +kernel
theorem dX1_stateOf_8 : decode cX1_stateOf 8 = .ok (.if_icmp .ne 5, 3) := by decide +kernel
theorem dX1_stateOf_11 : decode cX1_stateOf 11 = .ok (.iconst 3, 1) := by decide +kernel
theorem dX1_stateOf_12 : decode cX1_stateOf 12 = .ok (.ireturn, 1) := by decide +kernel
theorem dX1_stateOf_13 : decode cX1_stateOf 13 = .ok (.aload_n 0, 1) := by decide +kernel
theorem dX1_stateOf_14 : decode cX1_stateOf 14 = .ok (.getfield 40, 3) := by decide +kernel
theorem dX1_stateOf_17 : decode cX1_stateOf 17 = .ok (.iload_n 1, 1) := by decide +kernel
theorem dX1_stateOf_18 : decode cX1_stateOf 18 = .ok (.iaload, 1) := by decide +kernel
theorem dX1_stateOf_19 : decode cX1_stateOf 19 = .ok (.iconst (-1), 1) := by decide +kernel
theorem dX1_stateOf_20 : decode cX1_stateOf 20 = .ok (.if_icmp .ne 5, 3) := by decide +kernel
theorem dX1_stateOf_23 : decode cX1_stateOf 23 = .ok (.iconst 0, 1) := by decide +kernel
theorem dX1_stateOf_24 : decode cX1_stateOf 24 = .ok (.ireturn, 1) := by decide +kernel
theorem dX1_stateOf_25 : decode cX1_stateOf 25 = .ok (.aload_n 0, 1) := by decide +kernel
theorem dX1_stateOf_26 : decode cX1_stateOf 26 = .ok (.iload_n 1, 1) := by decide +kernel
theorem dX1_stateOf_27 : decode cX1_stateOf 27 = .ok (.invokevirtual 128, 3) := by decide +kernel
theorem dX1_stateOf_30 : decode cX1_stateOf 30 = .ok (.ifCond .eq 7, 3) := by decide +kernel
theorem dX1_stateOf_33 : decode cX1_stateOf 33 = .ok (.iconst 2, 1) := by decide +kernel
theorem dX1_stateOf_34 : decode cX1_stateOf 34 = .ok (.goto 4, 3) := by decide +kernel
theorem dX1_stateOf_37 : decode cX1_stateOf 37 = .ok (.iconst 1, 1) := by decide +kernel
theorem dX1_stateOf_38 : decode cX1_stateOf 38 = .ok (.ireturn, 1) := by decide +kernel
theorem dX1_placeOf_0 : decode cX1_placeOf 0 = .ok (.aload_n 0, 1) := by decide +kernel
theorem dX1_placeOf_1 : decode cX1_placeOf 1 = .ok (.iload_n 1, 1) := by decide +kernel
theorem dX1_placeOf_2 : decode cX1_placeOf 2 = .ok (.invokevirtual 93, 3) := by decide +kernel
theorem dX1_placeOf_5 : decode cX1_placeOf 5 = .ok (.ifCond .ne 5, 3) := by decide +kernel
theorem dX1_placeOf_8 : decode cX1_placeOf 8 = .ok (.iconst (-1), 1) := by decide +kernel
theorem dX1_placeOf_9 : decode cX1_placeOf 9 = .ok (.ireturn, 1) := by decide +kernel
theorem dX1_placeOf_10 : decode cX1_placeOf 10 = .ok (.iconst 0, 1) := by decide +kernel
theorem dX1_placeOf_11 : decode cX1_placeOf 11 = .ok (.istore_n 2, 1) := by decide +kernel
theorem dX1_placeOf_12 : decode cX1_placeOf 12 = .ok (.iconst 0, 1) := by decide +kernel
theorem dX1_placeOf_13 : decode cX1_placeOf 13 = .ok (.istore_n 3, 1) := by decide +kernel
theorem dX1_placeOf_14 : decode cX1_placeOf 14 = .ok (.iload_n 3, 1) := by decide +kernel
theorem dX1_placeOf_15 : decode cX1_placeOf 15 = .ok (.aload_n 0, 1) := by decide +kernel
theorem dX1_placeOf_16 : decode cX1_placeOf 16 = .ok (.getfield 21, 3) := by decide +kernel
theorem dX1_placeOf_19 : decode cX1_placeOf 19 = .ok (.if_icmp .ge 77, 3) := by decide +kernel
theorem dX1_placeOf_22 : decode cX1_placeOf 22 = .ok (.aload_n 0, 1) := by decide +kernel
theorem dX1_placeOf_23 : decode cX1_placeOf 23 = .ok (.getfield 40, 3) := by decide +kernel
theorem dX1_placeOf_26 : decode cX1_placeOf 26 = .ok (.iload_n 3, 1) := by decide +kernel
theorem dX1_placeOf_27 : decode cX1_placeOf 27 = .ok (.iaload, 1) := by decide +kernel
theorem dX1_placeOf_28 : decode cX1_placeOf 28 = .ok (.aload_n 0, 1) := by decide +kernel
theorem dX1_placeOf_29 : decode cX1_placeOf 29 = .ok (.getfield 40, 3) := by decide +kernel
theorem dX1_placeOf_32 : decode cX1_placeOf 32 = .ok (.iload_n 1, 1) := by decide +kernel
theorem dX1_placeOf_33 : decode cX1_placeOf 33 = .ok (.iaload, 1) := by decide +kernel
theorem dX1_placeOf_34 : decode cX1_placeOf 34 = .ok (.if_icmp .ne 22, 3) := by decide +kernel
theorem dX1_placeOf_37 : decode cX1_placeOf 37 = .ok (.aload_n 0, 1) := by decide +kernel
theorem dX1_placeOf_38 : decode cX1_placeOf 38 = .ok (.getfield 34, 3) := by decide +kernel
theorem dX1_placeOf_41 : decode cX1_placeOf 41 = .ok (.iload_n 3, 1) := by decide +kernel
theorem dX1_placeOf_42 : decode cX1_placeOf 42 = .ok (.iaload, 1) := by decide +kernel
theorem dX1_placeOf_43 : decode cX1_placeOf 43 = .ok (.aload_n 0, 1) := by decide +kernel
theorem dX1_placeOf_44 : decode cX1_placeOf 44 = .ok (.getfield 34, 3) := by decide +kernel
theorem dX1_placeOf_47 : decode cX1_placeOf 47 = .ok (.iload_n 1, 1) := by decide +kernel
theorem dX1_placeOf_48 : decode cX1_placeOf 48 = .ok (.iaload, 1) := by decide +kernel
theorem dX1_placeOf_49 : decode cX1_placeOf 49 = .ok (.if_icmp .ge 7, 3) := by decide +kernel
theorem dX1_placeOf_52 : decode cX1_placeOf 52 = .ok (.iconst 1, 1) := by decide +kernel
theorem dX1_placeOf_53 : decode cX1_placeOf 53 = .ok (.goto 4, 3) := by decide +kernel
theorem dX1_placeOf_56 : decode cX1_placeOf 56 = .ok (.iconst 0, 1) := by decide +kernel
theorem dX1_placeOf_57 : decode cX1_placeOf 57 = .ok (.istore 4, 2) := by decide +kernel
theorem dX1_placeOf_59 : decode cX1_placeOf 59 = .ok (.aload_n 0, 1) := by decide +kernel
theorem dX1_placeOf_60 : decode cX1_placeOf 60 = .ok (.iload_n 3, 1) := by decide +kernel
theorem dX1_placeOf_61 : decode cX1_placeOf 61 = .ok (.invokevirtual 93, 3) := by decide +kernel
theorem dX1_placeOf_64 : decode cX1_placeOf 64 = .ok (.ifCond .eq 26, 3) := by decide +kernel
theorem dX1_placeOf_67 : decode cX1_placeOf 67 = .ok (.aload_n 0, 1) := by decide +kernel
theorem dX1_placeOf_68 : decode cX1_placeOf 68 = .ok (.getfield 40, 3) := by decide +kernel
theorem dX1_placeOf_71 : decode cX1_placeOf 71 = .ok (.iload_n 3, 1) := by decide +kernel
theorem dX1_placeOf_72 : decode cX1_placeOf 72 = .ok (.iaload, 1) := by decide +kernel
theorem dX1_placeOf_73 : decode cX1_placeOf 73 = .ok (.aload_n 0, 1) := by decide +kernel
theorem dX1_placeOf_74 : decode cX1_placeOf 74 = .ok (.getfield 40, 3) := by decide +kernel
theorem dX1_placeOf_77 : decode cX1_placeOf 77 = .ok (.iload_n 1, 1) := by decide +kernel
theorem dX1_placeOf_78 : decode cX1_placeOf 78 = .ok (.iaload, 1) := by decide +kernel
theorem dX1_placeOf_79 : decode cX1_placeOf 79 = .ok (.if_icmp .lt 8, 3) := by decide +kernel
theorem dX1_placeOf_82 : decode cX1_placeOf 82 = .ok (.iload 4, 2) := by decide +kernel
theorem dX1_placeOf_84 : decode cX1_placeOf 84 = .ok (.ifCond .eq 6, 3) := by decide +kernel
theorem dX1_placeOf_87 : decode cX1_placeOf 87 = .ok (.iinc 2 1, 3) := by decide +kernel
theorem dX1_placeOf_90 : decode cX1_placeOf 90 = .ok (.iinc 3 1, 3) := by decide +kernel
theorem dX1_placeOf_93 : decode cX1_placeOf 93 = .ok (.goto (-79), 3) := by decide +kernel
theorem dX1_placeOf_96 : decode cX1_placeOf 96 = .ok (.iload_n 2, 1) := by decide +kernel
theorem dX1_placeOf_97 : decode cX1_placeOf 97 = .ok (.ireturn, 1) := by decide +kernel
theorem dX1_readAt_0 : decode cX1_readAt 0 = .ok (.iconst 0, 1) := by decide +kernel
theorem dX1_readAt_1 : decode cX1_readAt 1 = .ok (.istore_n 2, 1) := by decide +kernel
theorem dX1_readAt_2 : decode cX1_readAt 2 = .ok (.iload_n 2, 1) := by decide +kernel
theorem dX1_readAt_3 : decode cX1_readAt 3 = .ok (.aload_n 0, 1) := by decide +kernel
theorem dX1_readAt_4 : decode cX1_readAt 4 = .ok (.getfield 21, 3) := by decide +kernel
theorem dX1_readAt_7 : decode cX1_readAt 7 = .ok (.if_icmp .ge 28, 3) := by decide +kernel
theorem dX1_readAt_10 : decode cX1_readAt 10 = .ok (.aload_n 0, 1) := by decide +kernel
theorem dX1_readAt_11 : decode cX1_readAt 11 = .ok (.iload_n 2, 1) := by decide +kernel
theorem dX1_readAt_12 : decode cX1_readAt 12 = .ok (.invokevirtual 93, 3) := by decide +kernel
theorem dX1_readAt_15 : decode cX1_readAt 15 = .ok (.ifCond .eq 14, 3) := by decide +kernel
theorem dX1_readAt_18 : decode cX1_readAt 18 = .ok (.aload_n 0, 1) := by decide +kernel
theorem dX1_readAt_19 : decode cX1_readAt 19 = .ok (.iload_n 2, 1) := by decide +kernel
theorem dX1_readAt_20 : decode cX1_readAt 20 = .ok (.invokevirtual 131, 3) := by decide +kernel
theorem dX1_readAt_23 : decode cX1_readAt 23 = .ok (.iload_n 1, 1) := by decide +kernel
theorem dX1_readAt_24 : decode cX1_readAt 24 = .ok (.if_icmp .ne 5, 3) := by decide +kernel
theorem dX1_readAt_27 : decode cX1_readAt 27 = .ok (.iload_n 2, 1) := by decide +kernel
theorem dX1_readAt_28 : decode cX1_readAt 28 = .ok (.ireturn, 1) := by decide +kernel
theorem dX1_readAt_29 : decode cX1_readAt 29 = .ok (.iinc 2 1, 3) := by decide +kernel
theorem dX1_readAt_32 : decode cX1_readAt 32 = .ok (.goto (-30), 3) := by decide +kernel
theorem dX1_readAt_35 : decode cX1_readAt 35 = .ok (.iconst (-1), 1) := by decide +kernel
theorem dX1_readAt_36 : decode cX1_readAt 36 = .ok (.ireturn, 1) := by decide +kernel
theorem dX1_lineOn_0 : decode cX1_lineOn 0 = .ok (.iload_n 1, 1) := by decide +kernel
theorem dX1_lineOn_1 : decode cX1_lineOn 1 = .ok (.ifCond .lt 22, 3) := by decide +kernel
theorem dX1_lineOn_4 : decode cX1_lineOn 4 = .ok (.iload_n 1, 1) := by decide +kernel
theorem dX1_lineOn_5 : decode cX1_lineOn 5 = .ok (.bipush 16, 2) := by decide +kernel
theorem dX1_lineOn_7 : decode cX1_lineOn 7 = .ok (.if_icmp .ge 16, 3) := by decide +kernel
theorem dX1_lineOn_10 : decode cX1_lineOn 10 = .ok (.aload_n 0, 1) := by decide +kernel
theorem dX1_lineOn_11 : decode cX1_lineOn 11 = .ok (.getfield 46, 3) := by decide +kernel
theorem dX1_lineOn_14 : decode cX1_lineOn 14 = .ok (.iload_n 1, 1) := by decide +kernel
theorem dX1_lineOn_15 : decode cX1_lineOn 15 = .ok (.iaload, 1) := by decide +kernel
theorem dX1_lineOn_16 : decode cX1_lineOn 16 = .ok (.iload_n 2, 1) := by decide +kernel
theorem dX1_lineOn_17 : decode cX1_lineOn 17 = .ok (.ishr, 1) := by decide +kernel
theorem dX1_lineOn_18 : decode cX1_lineOn 18 = .ok (.iconst 1, 1) := by decide +kernel
theorem dX1_lineOn_19 : decode cX1_lineOn 19 = .ok (.iand, 1) := by decide +kernel
theorem dX1_lineOn_20 : decode cX1_lineOn 20 = .ok (.ifCond .ne 5, 3) := by decide +kernel
theorem dX1_lineOn_23 : decode cX1_lineOn 23 = .ok (.iconst (-1), 1) := by decide +kernel
theorem dX1_lineOn_24 : decode cX1_lineOn 24 = .ok (.ireturn, 1) := by decide +kernel
theorem dX1_lineOn_25 : decode cX1_lineOn 25 = .ok (.iconst 0, 1) := by decide +kernel
theorem dX1_lineOn_26 : decode cX1_lineOn 26 = .ok (.istore_n 3, 1) := by decide +kernel
theorem dX1_lineOn_27 : decode cX1_lineOn 27 = .ok (.iload_n 3, 1) := by decide +kernel
theorem dX1_lineOn_28 : decode cX1_lineOn 28 = .ok (.aload_n 0, 1) := by decide +kernel
theorem dX1_lineOn_29 : decode cX1_lineOn 29 = .ok (.getfield 21, 3) := by decide +kernel
theorem dX1_lineOn_32 : decode cX1_lineOn 32 = .ok (.if_icmp .ge 34, 3) := by decide +kernel
theorem dX1_lineOn_35 : decode cX1_lineOn 35 = .ok (.aload_n 0, 1) := by decide +kernel
theorem dX1_lineOn_36 : decode cX1_lineOn 36 = .ok (.getfield 40, 3) := by decide +kernel
theorem dX1_lineOn_39 : decode cX1_lineOn 39 = .ok (.iload_n 3, 1) := by decide +kernel
theorem dX1_lineOn_40 : decode cX1_lineOn 40 = .ok (.iaload, 1) := by decide +kernel
theorem dX1_lineOn_41 : decode cX1_lineOn 41 = .ok (.iload_n 1, 1) := by decide +kernel
theorem dX1_lineOn_42 : decode cX1_lineOn 42 = .ok (.if_icmp .ne 18, 3) := by decide +kernel
theorem dX1_lineOn_45 : decode cX1_lineOn 45 = .ok (.aload_n 0, 1) := by decide +kernel
theorem dX1_lineOn_46 : decode cX1_lineOn 46 = .ok (.getfield 43, 3) := by decide +kernel
theorem dX1_lineOn_49 : decode cX1_lineOn 49 = .ok (.iload_n 3, 1) := by decide +kernel
theorem dX1_lineOn_50 : decode cX1_lineOn 50 = .ok (.iaload, 1) := by decide +kernel
theorem dX1_lineOn_51 : decode cX1_lineOn 51 = .ok (.iload_n 2, 1) := by decide +kernel
theorem dX1_lineOn_52 : decode cX1_lineOn 52 = .ok (.ishr, 1) := by decide +kernel
theorem dX1_lineOn_53 : decode cX1_lineOn 53 = .ok (.iconst 1, 1) := by decide +kernel
theorem dX1_lineOn_54 : decode cX1_lineOn 54 = .ok (.iand, 1) := by decide +kernel
theorem dX1_lineOn_55 : decode cX1_lineOn 55 = .ok (.ifCond .eq 5, 3) := by decide +kernel
theorem dX1_lineOn_58 : decode cX1_lineOn 58 = .ok (.iload_n 3, 1) := by decide +kernel
theorem dX1_lineOn_59 : decode cX1_lineOn 59 = .ok (.ireturn, 1) := by decide +kernel
theorem dX1_lineOn_60 : decode cX1_lineOn 60 = .ok (.iinc 3 1, 3) := by decide +kernel
theorem dX1_lineOn_63 : decode cX1_lineOn 63 = .ok (.goto (-36), 3) := by decide +kernel
theorem dX1_lineOn_66 : decode cX1_lineOn 66 = .ok (.iconst (-1), 1) := by decide +kernel
theorem dX1_lineOn_67 : decode cX1_lineOn 67 = .ok (.ireturn, 1) := by decide +kernel
theorem dX1_property_0 : decode cX1_property 0 = .ok (.iload_n 2, 1) := by decide +kernel
theorem dX1_property_1 : decode cX1_property 1 = .ok (.tableswitch 159 0 10 #[59, 66, 73, 80, 87, 94, 100, 119, 125, 131, 145], 59) := by decide +kernel
theorem dX1_property_60 : decode cX1_property 60 = .ok (.aload_n 0, 1) := by decide +kernel
theorem dX1_property_61 : decode cX1_property 61 = .ok (.getfield 24, 3) := by decide +kernel
theorem dX1_property_64 : decode cX1_property 64 = .ok (.iload_n 1, 1) := by decide +kernel
theorem dX1_property_65 : decode cX1_property 65 = .ok (.iaload, 1) := by decide +kernel
theorem dX1_property_66 : decode cX1_property 66 = .ok (.ireturn, 1) := by decide +kernel
theorem dX1_property_67 : decode cX1_property 67 = .ok (.aload_n 0, 1) := by decide +kernel
theorem dX1_property_68 : decode cX1_property 68 = .ok (.getfield 28, 3) := by decide +kernel
theorem dX1_property_71 : decode cX1_property 71 = .ok (.iload_n 1, 1) := by decide +kernel
theorem dX1_property_72 : decode cX1_property 72 = .ok (.iaload, 1) := by decide +kernel
theorem dX1_property_73 : decode cX1_property 73 = .ok (.ireturn, 1) := by decide +kernel
theorem dX1_property_74 : decode cX1_property 74 = .ok (.aload_n 0, 1) := by decide +kernel
theorem dX1_property_75 : decode cX1_property 75 = .ok (.getfield 31, 3) := by decide +kernel
theorem dX1_property_78 : decode cX1_property 78 = .ok (.iload_n 1, 1) := by decide +kernel
theorem dX1_property_79 : decode cX1_property 79 = .ok (.iaload, 1) := by decide +kernel
theorem dX1_property_80 : decode cX1_property 80 = .ok (.ireturn, 1) := by decide +kernel
theorem dX1_property_81 : decode cX1_property 81 = .ok (.aload_n 0, 1) := by decide +kernel
theorem dX1_property_82 : decode cX1_property 82 = .ok (.getfield 34, 3) := by decide +kernel
theorem dX1_property_85 : decode cX1_property 85 = .ok (.iload_n 1, 1) := by decide +kernel
theorem dX1_property_86 : decode cX1_property 86 = .ok (.iaload, 1) := by decide +kernel
theorem dX1_property_87 : decode cX1_property 87 = .ok (.ireturn, 1) := by decide +kernel
theorem dX1_property_88 : decode cX1_property 88 = .ok (.aload_n 0, 1) := by decide +kernel
theorem dX1_property_89 : decode cX1_property 89 = .ok (.getfield 37, 3) := by decide +kernel
theorem dX1_property_92 : decode cX1_property 92 = .ok (.iload_n 1, 1) := by decide +kernel
theorem dX1_property_93 : decode cX1_property 93 = .ok (.iaload, 1) := by decide +kernel
theorem dX1_property_94 : decode cX1_property 94 = .ok (.ireturn, 1) := by decide +kernel
theorem dX1_property_95 : decode cX1_property 95 = .ok (.aload_n 0, 1) := by decide +kernel
theorem dX1_property_96 : decode cX1_property 96 = .ok (.iload_n 1, 1) := by decide +kernel
theorem dX1_property_97 : decode cX1_property 97 = .ok (.invokevirtual 134, 3) := by decide +kernel
theorem dX1_property_100 : decode cX1_property 100 = .ok (.ireturn, 1) := by decide +kernel
theorem dX1_property_101 : decode cX1_property 101 = .ok (.aload_n 0, 1) := by decide +kernel
theorem dX1_property_102 : decode cX1_property 102 = .ok (.iload_n 1, 1) := by decide +kernel
theorem dX1_property_103 : decode cX1_property 103 = .ok (.invokevirtual 93, 3) := by decide +kernel
theorem dX1_property_106 : decode cX1_property 106 = .ok (.ifCond .eq 12, 3) := by decide +kernel
theorem dX1_property_109 : decode cX1_property 109 = .ok (.aload_n 0, 1) := by decide +kernel
theorem dX1_property_110 : decode cX1_property 110 = .ok (.getfield 40, 3) := by decide +kernel
theorem dX1_property_113 : decode cX1_property 113 = .ok (.iload_n 1, 1) := by decide +kernel
theorem dX1_property_114 : decode cX1_property 114 = .ok (.iaload, 1) := by decide +kernel
theorem dX1_property_115 : decode cX1_property 115 = .ok (.goto 4, 3) := by decide +kernel
theorem dX1_property_118 : decode cX1_property 118 = .ok (.iconst (-1), 1) := by decide +kernel
theorem dX1_property_119 : decode cX1_property 119 = .ok (.ireturn, 1) := by decide +kernel
theorem dX1_property_120 : decode cX1_property 120 = .ok (.aload_n 0, 1) := by decide +kernel
theorem dX1_property_121 : decode cX1_property 121 = .ok (.iload_n 1, 1) := by decide +kernel
theorem dX1_property_122 : decode cX1_property 122 = .ok (.invokevirtual 103, 3) := by decide +kernel
theorem dX1_property_125 : decode cX1_property 125 = .ok (.ireturn, 1) := by decide +kernel
theorem dX1_property_126 : decode cX1_property 126 = .ok (.aload_n 0, 1) := by decide +kernel
theorem dX1_property_127 : decode cX1_property 127 = .ok (.iload_n 1, 1) := by decide +kernel
theorem dX1_property_128 : decode cX1_property 128 = .ok (.invokevirtual 106, 3) := by decide +kernel
theorem dX1_property_131 : decode cX1_property 131 = .ok (.ireturn, 1) := by decide +kernel
theorem dX1_property_132 : decode cX1_property 132 = .ok (.aload_n 0, 1) := by decide +kernel
theorem dX1_property_133 : decode cX1_property 133 = .ok (.iload_n 1, 1) := by decide +kernel
theorem dX1_property_134 : decode cX1_property 134 = .ok (.aload_n 0, 1) := by decide +kernel
theorem dX1_property_135 : decode cX1_property 135 = .ok (.getfield 40, 3) := by decide +kernel
theorem dX1_property_138 : decode cX1_property 138 = .ok (.iload_n 1, 1) := by decide +kernel
theorem dX1_property_139 : decode cX1_property 139 = .ok (.iaload, 1) := by decide +kernel
theorem dX1_property_140 : decode cX1_property 140 = .ok (.iconst 1, 1) := by decide +kernel
theorem dX1_property_141 : decode cX1_property 141 = .ok (.iadd, 1) := by decide +kernel
theorem dX1_property_142 : decode cX1_property 142 = .ok (.invokevirtual 125, 3) := by decide +kernel
theorem dX1_property_145 : decode cX1_property 145 = .ok (.ireturn, 1) := by decide +kernel
theorem dX1_property_146 : decode cX1_property 146 = .ok (.aload_n 0, 1) := by decide +kernel
theorem dX1_property_147 : decode cX1_property 147 = .ok (.iload_n 1, 1) := by decide +kernel
theorem dX1_property_148 : decode cX1_property 148 = .ok (.aload_n 0, 1) := by decide +kernel
theorem dX1_property_149 : decode cX1_property 149 = .ok (.getfield 40, 3) := by decide +kernel
theorem dX1_property_152 : decode cX1_property 152 = .ok (.iload_n 1, 1) := by decide +kernel
theorem dX1_property_153 : decode cX1_property 153 = .ok (.iaload, 1) := by decide +kernel
theorem dX1_property_154 : decode cX1_property 154 = .ok (.iconst 1, 1) := by decide +kernel
theorem dX1_property_155 : decode cX1_property 155 = .ok (.isub, 1) := by decide +kernel
theorem dX1_property_156 : decode cX1_property 156 = .ok (.invokevirtual 125, 3) := by decide +kernel
theorem dX1_property_159 : decode cX1_property 159 = .ok (.ireturn, 1) := by decide +kernel
theorem dX1_property_160 : decode cX1_property 160 = .ok (.aload_n 0, 1) := by decide +kernel
theorem dX1_property_161 : decode cX1_property 161 = .ok (.iload_n 1, 1) := by decide +kernel
theorem dX1_property_162 : decode cX1_property 162 = .ok (.invokevirtual 131, 3) := by decide +kernel
theorem dX1_property_165 : decode cX1_property 165 = .ok (.ireturn, 1) := by decide +kernel
theorem dX1_tally_0 : decode cX1_tally 0 = .ok (.iload_n 1, 1) := by decide +kernel
theorem dX1_tally_1 : decode cX1_tally 1 = .ok (.tableswitch 123 0 9 #[55, 60, 65, 80, 85, 90, 95, 100, 105, 110], 55) := by decide +kernel
theorem dX1_tally_56 : decode cX1_tally 56 = .ok (.aload_n 0, 1) := by decide +kernel
theorem dX1_tally_57 : decode cX1_tally 57 = .ok (.getfield 9, 3) := by decide +kernel
theorem dX1_tally_60 : decode cX1_tally 60 = .ok (.ireturn, 1) := by decide +kernel
theorem dX1_tally_61 : decode cX1_tally 61 = .ok (.aload_n 0, 1) := by decide +kernel
theorem dX1_tally_62 : decode cX1_tally 62 = .ok (.getfield 21, 3) := by decide +kernel
theorem dX1_tally_65 : decode cX1_tally 65 = .ok (.ireturn, 1) := by decide +kernel
theorem dX1_tally_66 : decode cX1_tally 66 = .ok (.aload_n 0, 1) := by decide +kernel
theorem dX1_tally_67 : decode cX1_tally 67 = .ok (.getfield 21, 3) := by decide +kernel
theorem dX1_tally_70 : decode cX1_tally 70 = .ok (.aload_n 0, 1) := by decide +kernel
theorem dX1_tally_71 : decode cX1_tally 71 = .ok (.invokevirtual 137, 3) := by decide +kernel
theorem dX1_tally_74 : decode cX1_tally 74 = .ok (.isub, 1) := by decide +kernel
theorem dX1_tally_75 : decode cX1_tally 75 = .ok (.aload_n 0, 1) := by decide +kernel
theorem dX1_tally_76 : decode cX1_tally 76 = .ok (.invokevirtual 141, 3) := by decide +kernel
theorem dX1_tally_79 : decode cX1_tally 79 = .ok (.isub, 1) := by decide +kernel
theorem dX1_tally_80 : decode cX1_tally 80 = .ok (.ireturn, 1) := by decide +kernel
theorem dX1_tally_81 : decode cX1_tally 81 = .ok (.aload_n 0, 1) := by decide +kernel
theorem dX1_tally_82 : decode cX1_tally 82 = .ok (.invokevirtual 141, 3) := by decide +kernel
theorem dX1_tally_85 : decode cX1_tally 85 = .ok (.ireturn, 1) := by decide +kernel
theorem dX1_tally_86 : decode cX1_tally 86 = .ok (.aload_n 0, 1) := by decide +kernel
theorem dX1_tally_87 : decode cX1_tally 87 = .ok (.invokevirtual 144, 3) := by decide +kernel
theorem dX1_tally_90 : decode cX1_tally 90 = .ok (.ireturn, 1) := by decide +kernel
theorem dX1_tally_91 : decode cX1_tally 91 = .ok (.aload_n 0, 1) := by decide +kernel
theorem dX1_tally_92 : decode cX1_tally 92 = .ok (.invokevirtual 137, 3) := by decide +kernel
theorem dX1_tally_95 : decode cX1_tally 95 = .ok (.ireturn, 1) := by decide +kernel
theorem dX1_tally_96 : decode cX1_tally 96 = .ok (.aload_n 0, 1) := by decide +kernel
theorem dX1_tally_97 : decode cX1_tally 97 = .ok (.getfield 18, 3) := by decide +kernel
theorem dX1_tally_100 : decode cX1_tally 100 = .ok (.ireturn, 1) := by decide +kernel
theorem dX1_tally_101 : decode cX1_tally 101 = .ok (.aload_n 0, 1) := by decide +kernel
theorem dX1_tally_102 : decode cX1_tally 102 = .ok (.invokevirtual 147, 3) := by decide +kernel
theorem dX1_tally_105 : decode cX1_tally 105 = .ok (.ireturn, 1) := by decide +kernel
theorem dX1_tally_106 : decode cX1_tally 106 = .ok (.aload_n 0, 1) := by decide +kernel
theorem dX1_tally_107 : decode cX1_tally 107 = .ok (.invokevirtual 150, 3) := by decide +kernel
theorem dX1_tally_110 : decode cX1_tally 110 = .ok (.ireturn, 1) := by decide +kernel
theorem dX1_tally_111 : decode cX1_tally 111 = .ok (.aload_n 0, 1) := by decide +kernel
theorem dX1_tally_112 : decode cX1_tally 112 = .ok (.invokevirtual 71, 3) := by decide +kernel
theorem dX1_tally_115 : decode cX1_tally 115 = .ok (.ifCond .eq 7, 3) := by decide +kernel
theorem dX1_tally_118 : decode cX1_tally 118 = .ok (.iconst 1, 1) := by decide +kernel
theorem dX1_tally_119 : decode cX1_tally 119 = .ok (.goto 4, 3) := by decide +kernel
theorem dX1_tally_122 : decode cX1_tally 122 = .ok (.iconst 0, 1) := by decide +kernel
theorem dX1_tally_123 : decode cX1_tally 123 = .ok (.ireturn, 1) := by decide +kernel
theorem dX1_tally_124 : decode cX1_tally 124 = .ok (.aload_n 0, 1) := by decide +kernel
theorem dX1_tally_125 : decode cX1_tally 125 = .ok (.invokevirtual 153, 3) := by decide +kernel
theorem dX1_tally_128 : decode cX1_tally 128 = .ok (.ireturn, 1) := by decide +kernel
theorem dX1_linesOnScreen_0 : decode cX1_linesOnScreen 0 = .ok (.iconst 0, 1) := by decide +kernel
theorem dX1_linesOnScreen_1 : decode cX1_linesOnScreen 1 = .ok (.istore_n 1, 1) := by decide +kernel
theorem dX1_linesOnScreen_2 : decode cX1_linesOnScreen 2 = .ok (.iconst 0, 1) := by decide +kernel
theorem dX1_linesOnScreen_3 : decode cX1_linesOnScreen 3 = .ok (.istore_n 2, 1) := by decide +kernel
theorem dX1_linesOnScreen_4 : decode cX1_linesOnScreen 4 = .ok (.iload_n 2, 1) := by decide +kernel
theorem dX1_linesOnScreen_5 : decode cX1_linesOnScreen 5 = .ok (.aload_n 0, 1) := by decide +kernel
theorem dX1_linesOnScreen_6 : decode cX1_linesOnScreen 6 = .ok (.getfield 21, 3) := by decide +kernel
theorem dX1_linesOnScreen_9 : decode cX1_linesOnScreen 9 = .ok (.if_icmp .ge 25, 3) := by decide +kernel
theorem dX1_linesOnScreen_12 : decode cX1_linesOnScreen 12 = .ok (.iload_n 1, 1) := by decide +kernel
theorem dX1_linesOnScreen_13 : decode cX1_linesOnScreen 13 = .ok (.aload_n 0, 1) := by decide +kernel
theorem dX1_linesOnScreen_14 : decode cX1_linesOnScreen 14 = .ok (.iload_n 2, 1) := by decide +kernel
theorem dX1_linesOnScreen_15 : decode cX1_linesOnScreen 15 = .ok (.invokevirtual 93, 3) := by decide +kernel
theorem dX1_linesOnScreen_18 : decode cX1_linesOnScreen 18 = .ok (.ifCond .eq 7, 3) := by decide +kernel
theorem dX1_linesOnScreen_21 : decode cX1_linesOnScreen 21 = .ok (.iconst 1, 1) := by decide +kernel
theorem dX1_linesOnScreen_22 : decode cX1_linesOnScreen 22 = .ok (.goto 4, 3) := by decide +kernel
theorem dX1_linesOnScreen_25 : decode cX1_linesOnScreen 25 = .ok (.iconst 0, 1) := by decide +kernel
theorem dX1_linesOnScreen_26 : decode cX1_linesOnScreen 26 = .ok (.iadd, 1) := by decide +kernel
theorem dX1_linesOnScreen_27 : decode cX1_linesOnScreen 27 = .ok (.istore_n 1, 1) := by decide +kernel
theorem dX1_linesOnScreen_28 : decode cX1_linesOnScreen 28 = .ok (.iinc 2 1, 3) := by decide +kernel
theorem dX1_linesOnScreen_31 : decode cX1_linesOnScreen 31 = .ok (.goto (-27), 3) := by decide +kernel
theorem dX1_linesOnScreen_34 : decode cX1_linesOnScreen 34 = .ok (.iload_n 1, 1) := by decide +kernel
theorem dX1_linesOnScreen_35 : decode cX1_linesOnScreen 35 = .ok (.ireturn, 1) := by decide +kernel
theorem dX1_linesAtRest_0 : decode cX1_linesAtRest 0 = .ok (.iconst 0, 1) := by decide +kernel
theorem dX1_linesAtRest_1 : decode cX1_linesAtRest 1 = .ok (.istore_n 1, 1) := by decide +kernel
theorem dX1_linesAtRest_2 : decode cX1_linesAtRest 2 = .ok (.iconst 0, 1) := by decide +kernel
theorem dX1_linesAtRest_3 : decode cX1_linesAtRest 3 = .ok (.istore_n 2, 1) := by decide +kernel
theorem dX1_linesAtRest_4 : decode cX1_linesAtRest 4 = .ok (.iload_n 2, 1) := by decide +kernel
theorem dX1_linesAtRest_5 : decode cX1_linesAtRest 5 = .ok (.aload_n 0, 1) := by decide +kernel
theorem dX1_linesAtRest_6 : decode cX1_linesAtRest 6 = .ok (.getfield 21, 3) := by decide +kernel
theorem dX1_linesAtRest_9 : decode cX1_linesAtRest 9 = .ok (.if_icmp .ge 25, 3) := by decide +kernel
theorem dX1_linesAtRest_12 : decode cX1_linesAtRest 12 = .ok (.iload_n 1, 1) := by decide +kernel
theorem dX1_linesAtRest_13 : decode cX1_linesAtRest 13 = .ok (.aload_n 0, 1) := by decide +kernel
theorem dX1_linesAtRest_14 : decode cX1_linesAtRest 14 = .ok (.iload_n 2, 1) := by decide +kernel
theorem dX1_linesAtRest_15 : decode cX1_linesAtRest 15 = .ok (.invokevirtual 128, 3) := by decide +kernel
theorem dX1_linesAtRest_18 : decode cX1_linesAtRest 18 = .ok (.ifCond .eq 7, 3) := by decide +kernel
theorem dX1_linesAtRest_21 : decode cX1_linesAtRest 21 = .ok (.iconst 1, 1) := by decide +kernel
theorem dX1_linesAtRest_22 : decode cX1_linesAtRest 22 = .ok (.goto 4, 3) := by decide +kernel
theorem dX1_linesAtRest_25 : decode cX1_linesAtRest 25 = .ok (.iconst 0, 1) := by decide +kernel
theorem dX1_linesAtRest_26 : decode cX1_linesAtRest 26 = .ok (.iadd, 1) := by decide +kernel
theorem dX1_linesAtRest_27 : decode cX1_linesAtRest 27 = .ok (.istore_n 1, 1) := by decide +kernel
theorem dX1_linesAtRest_28 : decode cX1_linesAtRest 28 = .ok (.iinc 2 1, 3) := by decide +kernel
theorem dX1_linesAtRest_31 : decode cX1_linesAtRest 31 = .ok (.goto (-27), 3) := by decide +kernel
theorem dX1_linesAtRest_34 : decode cX1_linesAtRest 34 = .ok (.iload_n 1, 1) := by decide +kernel
theorem dX1_linesAtRest_35 : decode cX1_linesAtRest 35 = .ok (.ireturn, 1) := by decide +kernel
theorem dX1_linesGone_0 : decode cX1_linesGone 0 = .ok (.iconst 0, 1) := by decide +kernel
theorem dX1_linesGone_1 : decode cX1_linesGone 1 = .ok (.istore_n 1, 1) := by decide +kernel
theorem dX1_linesGone_2 : decode cX1_linesGone 2 = .ok (.iconst 0, 1) := by decide +kernel
theorem dX1_linesGone_3 : decode cX1_linesGone 3 = .ok (.istore_n 2, 1) := by decide +kernel
theorem dX1_linesGone_4 : decode cX1_linesGone 4 = .ok (.iload_n 2, 1) := by decide +kernel
theorem dX1_linesGone_5 : decode cX1_linesGone 5 = .ok (.aload_n 0, 1) := by decide +kernel
theorem dX1_linesGone_6 : decode cX1_linesGone 6 = .ok (.getfield 21, 3) := by decide +kernel
theorem dX1_linesGone_9 : decode cX1_linesGone 9 = .ok (.if_icmp .ge 28, 3) := by decide +kernel
theorem dX1_linesGone_12 : decode cX1_linesGone 12 = .ok (.iload_n 1, 1) := by decide +kernel
theorem dX1_linesGone_13 : decode cX1_linesGone 13 = .ok (.aload_n 0, 1) := by decide +kernel
theorem dX1_linesGone_14 : decode cX1_linesGone 14 = .ok (.getfield 40, 3) := by decide +kernel
theorem dX1_linesGone_17 : decode cX1_linesGone 17 = .ok (.iload_n 2, 1) := by decide +kernel
theorem dX1_linesGone_18 : decode cX1_linesGone 18 = .ok (.iaload, 1) := by decide +kernel
theorem dX1_linesGone_19 : decode cX1_linesGone 19 = .ok (.bipush (-2), 2) := by decide +kernel
theorem dX1_linesGone_21 : decode cX1_linesGone 21 = .ok (.if_icmp .ne 7, 3) := by decide +kernel
theorem dX1_linesGone_24 : decode cX1_linesGone 24 = .ok (.iconst 1, 1) := by decide +kernel
theorem dX1_linesGone_25 : decode cX1_linesGone 25 = .ok (.goto 4, 3) := by decide +kernel
theorem dX1_linesGone_28 : decode cX1_linesGone 28 = .ok (.iconst 0, 1) := by decide +kernel
theorem dX1_linesGone_29 : decode cX1_linesGone 29 = .ok (.iadd, 1) := by decide +kernel
theorem dX1_linesGone_30 : decode cX1_linesGone 30 = .ok (.istore_n 1, 1) := by decide +kernel
theorem dX1_linesGone_31 : decode cX1_linesGone 31 = .ok (.iinc 2 1, 3) := by decide +kernel
theorem dX1_linesGone_34 : decode cX1_linesGone 34 = .ok (.goto (-30), 3) := by decide +kernel
theorem dX1_linesGone_37 : decode cX1_linesGone 37 = .ok (.iload_n 1, 1) := by decide +kernel
theorem dX1_linesGone_38 : decode cX1_linesGone 38 = .ok (.ireturn, 1) := by decide +kernel
theorem dX1_topmostRow_0 : decode cX1_topmostRow 0 = .ok (.iconst 0, 1) := by decide +kernel
theorem dX1_topmostRow_1 : decode cX1_topmostRow 1 = .ok (.istore_n 1, 1) := by decide +kernel
theorem dX1_topmostRow_2 : decode cX1_topmostRow 2 = .ok (.iload_n 1, 1) := by decide +kernel
theorem dX1_topmostRow_3 : decode cX1_topmostRow 3 = .ok (.bipush 16, 2) := by decide +kernel
theorem dX1_topmostRow_5 : decode cX1_topmostRow 5 = .ok (.if_icmp .ge 20, 3) := by decide +kernel
theorem dX1_topmostRow_8 : decode cX1_topmostRow 8 = .ok (.aload_n 0, 1) := by decide +kernel
theorem dX1_topmostRow_9 : decode cX1_topmostRow 9 = .ok (.getfield 46, 3) := by decide +kernel
theorem dX1_topmostRow_12 : decode cX1_topmostRow 12 = .ok (.iload_n 1, 1) := by decide +kernel
theorem dX1_topmostRow_13 : decode cX1_topmostRow 13 = .ok (.iaload, 1) := by decide +kernel
theorem dX1_topmostRow_14 : decode cX1_topmostRow 14 = .ok (.ifCond .eq 5, 3) := by decide +kernel
theorem dX1_topmostRow_17 : decode cX1_topmostRow 17 = .ok (.iload_n 1, 1) := by decide +kernel
theorem dX1_topmostRow_18 : decode cX1_topmostRow 18 = .ok (.ireturn, 1) := by decide +kernel
theorem dX1_topmostRow_19 : decode cX1_topmostRow 19 = .ok (.iinc 1 1, 3) := by decide +kernel
theorem dX1_topmostRow_22 : decode cX1_topmostRow 22 = .ok (.goto (-20), 3) := by decide +kernel
theorem dX1_topmostRow_25 : decode cX1_topmostRow 25 = .ok (.iconst (-1), 1) := by decide +kernel
theorem dX1_topmostRow_26 : decode cX1_topmostRow 26 = .ok (.ireturn, 1) := by decide +kernel
theorem dX1_squares_0 : decode cX1_squares 0 = .ok (.iconst 0, 1) := by decide +kernel
theorem dX1_squares_1 : decode cX1_squares 1 = .ok (.istore_n 1, 1) := by decide +kernel
theorem dX1_squares_2 : decode cX1_squares 2 = .ok (.iconst 0, 1) := by decide +kernel
theorem dX1_squares_3 : decode cX1_squares 3 = .ok (.istore_n 2, 1) := by decide +kernel
theorem dX1_squares_4 : decode cX1_squares 4 = .ok (.iload_n 2, 1) := by decide +kernel
theorem dX1_squares_5 : decode cX1_squares 5 = .ok (.aload_n 0, 1) := by decide +kernel
theorem dX1_squares_6 : decode cX1_squares 6 = .ok (.getfield 21, 3) := by decide +kernel
theorem dX1_squares_9 : decode cX1_squares 9 = .ok (.if_icmp .ge 30, 3) := by decide +kernel
theorem dX1_squares_12 : decode cX1_squares 12 = .ok (.iload_n 1, 1) := by decide +kernel
theorem dX1_squares_13 : decode cX1_squares 13 = .ok (.aload_n 0, 1) := by decide +kernel
theorem dX1_squares_14 : decode cX1_squares 14 = .ok (.iload_n 2, 1) := by decide +kernel
theorem dX1_squares_15 : decode cX1_squares 15 = .ok (.invokevirtual 93, 3) := by decide +kernel
theorem dX1_squares_18 : decode cX1_squares 18 = .ok (.ifCond .eq 12, 3) := by decide +kernel
theorem dX1_squares_21 : decode cX1_squares 21 = .ok (.aload_n 0, 1) := by decide +kernel
theorem dX1_squares_22 : decode cX1_squares 22 = .ok (.getfield 24, 3) := by decide +kernel
theorem dX1_squares_25 : decode cX1_squares 25 = .ok (.iload_n 2, 1) := by decide +kernel
theorem dX1_squares_26 : decode cX1_squares 26 = .ok (.iaload, 1) := by decide +kernel
theorem dX1_squares_27 : decode cX1_squares 27 = .ok (.goto 4, 3) := by decide +kernel
theorem dX1_squares_30 : decode cX1_squares 30 = .ok (.iconst 0, 1) := by decide +kernel
theorem dX1_squares_31 : decode cX1_squares 31 = .ok (.iadd, 1) := by decide +kernel
theorem dX1_squares_32 : decode cX1_squares 32 = .ok (.istore_n 1, 1) := by decide +kernel
theorem dX1_squares_33 : decode cX1_squares 33 = .ok (.iinc 2 1, 3) := by decide +kernel
theorem dX1_squares_36 : decode cX1_squares 36 = .ok (.goto (-32), 3) := by decide +kernel
theorem dX1_squares_39 : decode cX1_squares 39 = .ok (.iload_n 1, 1) := by decide +kernel
theorem dX1_squares_40 : decode cX1_squares 40 = .ok (.ireturn, 1) := by decide +kernel
theorem dX1_greatestLoad_0 : decode cX1_greatestLoad 0 = .ok (.iconst 0, 1) := by decide +kernel
theorem dX1_greatestLoad_1 : decode cX1_greatestLoad 1 = .ok (.istore_n 1, 1) := by decide +kernel
theorem dX1_greatestLoad_2 : decode cX1_greatestLoad 2 = .ok (.iconst 0, 1) := by decide +kernel
theorem dX1_greatestLoad_3 : decode cX1_greatestLoad 3 = .ok (.istore_n 2, 1) := by decide +kernel
theorem dX1_greatestLoad_4 : decode cX1_greatestLoad 4 = .ok (.iload_n 2, 1) := by decide +kernel
theorem dX1_greatestLoad_5 : decode cX1_greatestLoad 5 = .ok (.aload_n 0, 1) := by decide +kernel
theorem dX1_greatestLoad_6 : decode cX1_greatestLoad 6 = .ok (.getfield 21, 3) := by decide +kernel
theorem dX1_greatestLoad_9 : decode cX1_greatestLoad 9 = .ok (.if_icmp .ge 19, 3) := by decide +kernel
theorem dX1_greatestLoad_12 : decode cX1_greatestLoad 12 = .ok (.iload_n 1, 1) := by decide +kernel
theorem dX1_greatestLoad_13 : decode cX1_greatestLoad 13 = .ok (.aload_n 0, 1) := by decide +kernel
theorem dX1_greatestLoad_14 : decode cX1_greatestLoad 14 = .ok (.iload_n 2, 1) := by decide +kernel
theorem dX1_greatestLoad_15 : decode cX1_greatestLoad 15 = .ok (.invokevirtual 103, 3) := by decide +kernel
theorem dX1_greatestLoad_18 : decode cX1_greatestLoad 18 = .ok (.invokestatic 109, 3) := by decide +kernel
theorem dX1_greatestLoad_21 : decode cX1_greatestLoad 21 = .ok (.istore_n 1, 1) := by decide +kernel
theorem dX1_greatestLoad_22 : decode cX1_greatestLoad 22 = .ok (.iinc 2 1, 3) := by decide +kernel
theorem dX1_greatestLoad_25 : decode cX1_greatestLoad 25 = .ok (.goto (-21), 3) := by decide +kernel
theorem dX1_greatestLoad_28 : decode cX1_greatestLoad 28 = .ok (.iload_n 1, 1) := by decide +kernel
theorem dX1_greatestLoad_29 : decode cX1_greatestLoad 29 = .ok (.ireturn, 1) := by decide +kernel
theorem dX2_init_0 : decode cX2_init 0 = .ok (.aload_n 0, 1) := by decide +kernel
theorem dX2_init_1 : decode cX2_init 1 = .ok (.invokespecial 3, 3) := by decide +kernel
theorem dX2_init_4 : decode cX2_init 4 = .ok (.aload_n 0, 1) := by decide +kernel
theorem dX2_init_5 : decode cX2_init 5 = .ok (.iconst 0, 1) := by decide +kernel
theorem dX2_init_6 : decode cX2_init 6 = .ok (.putfield 9, 3) := by decide +kernel
theorem dX2_init_9 : decode cX2_init 9 = .ok (.aload_n 0, 1) := by decide +kernel
theorem dX2_init_10 : decode cX2_init 10 = .ok (.bipush 60, 2) := by decide +kernel
theorem dX2_init_12 : decode cX2_init 12 = .ok (.newarray .int, 2) := by decide +kernel
theorem dX2_init_14 : decode cX2_init 14 = .ok (.putfield 15, 3) := by decide +kernel
theorem dX2_init_17 : decode cX2_init 17 = .ok (.aload_n 0, 1) := by decide +kernel
theorem dX2_init_18 : decode cX2_init 18 = .ok (.iconst 4, 1) := by decide +kernel
theorem dX2_init_19 : decode cX2_init 19 = .ok (.newarray .int, 2) := by decide +kernel
theorem dX2_init_21 : decode cX2_init 21 = .ok (.putfield 19, 3) := by decide +kernel
theorem dX2_init_24 : decode cX2_init 24 = .ok (.aload_n 0, 1) := by decide +kernel
theorem dX2_init_25 : decode cX2_init 25 = .ok (.iconst 0, 1) := by decide +kernel
theorem dX2_init_26 : decode cX2_init 26 = .ok (.putfield 22, 3) := by decide +kernel
theorem dX2_init_29 : decode cX2_init 29 = .ok (.return_, 1) := by decide +kernel
theorem dX2_add_0 : decode cX2_add 0 = .ok (.aload_n 0, 1) := by decide +kernel
theorem dX2_add_1 : decode cX2_add 1 = .ok (.getfield 9, 3) := by decide +kernel
theorem dX2_add_4 : decode cX2_add 4 = .ok (.bipush 60, 2) := by decide +kernel
theorem dX2_add_6 : decode cX2_add 6 = .ok (.if_icmp .ge 23, 3) := by decide +kernel
theorem dX2_add_9 : decode cX2_add 9 = .ok (.aload_n 0, 1) := by decide +kernel
theorem dX2_add_10 : decode cX2_add 10 = .ok (.getfield 15, 3) := by decide +kernel
theorem dX2_add_13 : decode cX2_add 13 = .ok (.aload_n 0, 1) := by decide +kernel
theorem dX2_add_14 : decode cX2_add 14 = .ok (.getfield 9, 3) := by decide +kernel
theorem dX2_add_17 : decode cX2_add 17 = .ok (.iload_n 1, 1) := by decide +kernel
theorem dX2_add_18 : decode cX2_add 18 = .ok (.iastore, 1) := by decide +kernel
theorem dX2_add_19 : decode cX2_add 19 = .ok (.aload_n 0, 1) := by decide +kernel
theorem dX2_add_20 : decode cX2_add 20 = .ok (.dup, 1) := by decide +kernel
theorem dX2_add_21 : decode cX2_add 21 = .ok (.getfield 9, 3) := by decide +kernel
theorem dX2_add_24 : decode cX2_add 24 = .ok (.iconst 1, 1) := by decide +kernel
theorem dX2_add_25 : decode cX2_add 25 = .ok (.iadd, 1) := by decide +kernel
theorem dX2_add_26 : decode cX2_add 26 = .ok (.putfield 9, 3) := by decide +kernel
theorem dX2_add_29 : decode cX2_add 29 = .ok (.return_, 1) := by decide +kernel
theorem dX2_scan_0 : decode cX2_scan 0 = .ok (.aload_n 0, 1) := by decide +kernel
theorem dX2_scan_1 : decode cX2_scan 1 = .ok (.invokevirtual 25, 3) := by decide +kernel
theorem dX2_scan_4 : decode cX2_scan 4 = .ok (.iconst 0, 1) := by decide +kernel
theorem dX2_scan_5 : decode cX2_scan 5 = .ok (.istore_n 1, 1) := by decide +kernel
theorem dX2_scan_6 : decode cX2_scan 6 = .ok (.iload_n 1, 1) := by decide +kernel
theorem dX2_scan_7 : decode cX2_scan 7 = .ok (.aload_n 0, 1) := by decide +kernel
theorem dX2_scan_8 : decode cX2_scan 8 = .ok (.getfield 9, 3) := by decide +kernel
theorem dX2_scan_11 : decode cX2_scan 11 = .ok (.if_icmp .ge 24, 3) := by decide +kernel
theorem dX2_scan_14 : decode cX2_scan 14 = .ok (.aload_n 0, 1) := by decide +kernel
theorem dX2_scan_15 : decode cX2_scan 15 = .ok (.aload_n 0, 1) := by decide +kernel
theorem dX2_scan_16 : decode cX2_scan 16 = .ok (.getfield 15, 3) := by decide +kernel
theorem dX2_scan_19 : decode cX2_scan 19 = .ok (.iload_n 1, 1) := by decide +kernel
theorem dX2_scan_20 : decode cX2_scan 20 = .ok (.iaload, 1) := by decide +kernel
theorem dX2_scan_21 : decode cX2_scan 21 = .ok (.invokevirtual 28, 3) := by decide +kernel
theorem dX2_scan_24 : decode cX2_scan 24 = .ok (.ifCond .ne 5, 3) := by decide +kernel
theorem dX2_scan_27 : decode cX2_scan 27 = .ok (.iload_n 1, 1) := by decide +kernel
theorem dX2_scan_28 : decode cX2_scan 28 = .ok (.ireturn, 1) := by decide +kernel
theorem dX2_scan_29 : decode cX2_scan 29 = .ok (.iinc 1 1, 3) := by decide +kernel
theorem dX2_scan_32 : decode cX2_scan 32 = .ok (.goto (-26), 3) := by decide +kernel
theorem dX2_scan_35 : decode cX2_scan 35 = .ok (.aload_n 0, 1) := by decide +kernel
theorem dX2_scan_36 : decode cX2_scan 36 = .ok (.getfield 9, 3) := by decide +kernel
theorem dX2_scan_39 : decode cX2_scan 39 = .ok (.ireturn, 1) := by decide +kernel
theorem dX2_tellsPoem_0 : decode cX2_tellsPoem 0 = .ok (.aload_n 0, 1) := by decide +kernel
theorem dX2_tellsPoem_1 : decode cX2_tellsPoem 1 = .ok (.invokevirtual 32, 3) := by decide +kernel
theorem dX2_tellsPoem_4 : decode cX2_tellsPoem 4 = .ok (.aload_n 0, 1) := by decide +kernel
theorem dX2_tellsPoem_5 : decode cX2_tellsPoem 5 = .ok (.getfield 9, 3) := by decide +kernel
theorem dX2_tellsPoem_8 : decode cX2_tellsPoem 8 = .ok (.if_icmp .ne 28, 3) := by decide +kernel
theorem dX2_tellsPoem_11 : decode cX2_tellsPoem 11 = .ok (.aload_n 0, 1) := by decide +kernel
theorem dX2_tellsPoem_12 : decode cX2_tellsPoem 12 = .ok (.getfield 22, 3) := by decide +kernel
theorem dX2_tellsPoem_15 : decode cX2_tellsPoem 15 = .ok (.iconst 2, 1) := by decide +kernel
theorem dX2_tellsPoem_16 : decode cX2_tellsPoem 16 = .ok (.if_icmp .lt 20, 3) := by decide +kernel
theorem dX2_tellsPoem_19 : decode cX2_tellsPoem 19 = .ok (.aload_n 0, 1) := by decide +kernel
theorem dX2_tellsPoem_20 : decode cX2_tellsPoem 20 = .ok (.getfield 19, 3) := by decide +kernel
theorem dX2_tellsPoem_23 : decode cX2_tellsPoem 23 = .ok (.aload_n 0, 1) := by decide +kernel
theorem dX2_tellsPoem_24 : decode cX2_tellsPoem 24 = .ok (.getfield 22, 3) := by decide +kernel
theorem dX2_tellsPoem_27 : decode cX2_tellsPoem 27 = .ok (.iaload, 1) := by decide +kernel
theorem dX2_tellsPoem_28 : decode cX2_tellsPoem 28 = .ok (.iconst (-1), 1) := by decide +kernel
theorem dX2_tellsPoem_29 : decode cX2_tellsPoem 29 = .ok (.if_icmp .eq 7, 3) := by decide +kernel
theorem dX2_tellsPoem_32 : decode cX2_tellsPoem 32 = .ok (.iconst 1, 1) := by decide +kernel
theorem dX2_tellsPoem_33 : decode cX2_tellsPoem 33 = .ok (.goto 4, 3) := by decide +kernel
theorem dX2_tellsPoem_36 : decode cX2_tellsPoem 36 = .ok (.iconst 0, 1) := by decide +kernel
theorem dX2_tellsPoem_37 : decode cX2_tellsPoem 37 = .ok (.ireturn, 1) := by decide +kernel
theorem dX2_scanLine_0 : decode cX2_scanLine 0 = .ok (.aload_n 0, 1) := by decide +kernel
theorem dX2_scanLine_1 : decode cX2_scanLine 1 = .ok (.invokevirtual 25, 3) := by decide +kernel
theorem dX2_scanLine_4 : decode cX2_scanLine 4 = .ok (.iconst 0, 1) := by decide +kernel
theorem dX2_scanLine_5 : decode cX2_scanLine 5 = .ok (.iload_n 1, 1) := by decide +kernel
theorem dX2_scanLine_6 : decode cX2_scanLine 6 = .ok (.invokestatic 36, 3) := by decide +kernel
theorem dX2_scanLine_9 : decode cX2_scanLine 9 = .ok (.istore_n 2, 1) := by decide +kernel
theorem dX2_scanLine_10 : decode cX2_scanLine 10 = .ok (.iload_n 2, 1) := by decide +kernel
theorem dX2_scanLine_11 : decode cX2_scanLine 11 = .ok (.aload_n 0, 1) := by decide +kernel
theorem dX2_scanLine_12 : decode cX2_scanLine 12 = .ok (.getfield 9, 3) := by decide +kernel
theorem dX2_scanLine_15 : decode cX2_scanLine 15 = .ok (.if_icmp .ge 35, 3) := by decide +kernel
theorem dX2_scanLine_18 : decode cX2_scanLine 18 = .ok (.aload_n 0, 1) := by decide +kernel
theorem dX2_scanLine_19 : decode cX2_scanLine 19 = .ok (.getfield 15, 3) := by decide +kernel
theorem dX2_scanLine_22 : decode cX2_scanLine 22 = .ok (.iload_n 2, 1) := by decide +kernel
theorem dX2_scanLine_23 : decode cX2_scanLine 23 = .ok (.iaload, 1) := by decide +kernel
theorem dX2_scanLine_24 : decode cX2_scanLine 24 = .ok (.bipush 59, 2) := by decide +kernel
theorem dX2_scanLine_26 : decode cX2_scanLine 26 = .ok (.if_icmp .ne 7, 3) := by decide +kernel
theorem dX2_scanLine_29 : decode cX2_scanLine 29 = .ok (.iload_n 2, 1) := by decide +kernel
theorem dX2_scanLine_30 : decode cX2_scanLine 30 = .ok (.iconst 1, 1) := by decide +kernel
theorem dX2_scanLine_31 : decode cX2_scanLine 31 = .ok (.iadd, 1) := by decide +kernel
theorem dX2_scanLine_32 : decode cX2_scanLine 32 = .ok (.ireturn, 1) := by decide +kernel
theorem dX2_scanLine_33 : decode cX2_scanLine 33 = .ok (.aload_n 0, 1) := by decide +kernel
theorem dX2_scanLine_34 : decode cX2_scanLine 34 = .ok (.aload_n 0, 1) := by decide +kernel
theorem dX2_scanLine_35 : decode cX2_scanLine 35 = .ok (.getfield 15, 3) := by decide +kernel
theorem dX2_scanLine_38 : decode cX2_scanLine 38 = .ok (.iload_n 2, 1) := by decide +kernel
theorem dX2_scanLine_39 : decode cX2_scanLine 39 = .ok (.iaload, 1) := by decide +kernel
theorem dX2_scanLine_40 : decode cX2_scanLine 40 = .ok (.invokevirtual 28, 3) := by decide +kernel
theorem dX2_scanLine_43 : decode cX2_scanLine 43 = .ok (.pop, 1) := by decide +kernel
theorem dX2_scanLine_44 : decode cX2_scanLine 44 = .ok (.iinc 2 1, 3) := by decide +kernel
theorem dX2_scanLine_47 : decode cX2_scanLine 47 = .ok (.goto (-37), 3) := by decide +kernel
theorem dX2_scanLine_50 : decode cX2_scanLine 50 = .ok (.aload_n 0, 1) := by decide +kernel
theorem dX2_scanLine_51 : decode cX2_scanLine 51 = .ok (.getfield 9, 3) := by decide +kernel
theorem dX2_scanLine_54 : decode cX2_scanLine 54 = .ok (.ireturn, 1) := by decide +kernel
theorem dX2_beginLine_0 : decode cX2_beginLine 0 = .ok (.aload_n 0, 1) := by decide +kernel
theorem dX2_beginLine_1 : decode cX2_beginLine 1 = .ok (.iconst 0, 1) := by decide +kernel
theorem dX2_beginLine_2 : decode cX2_beginLine 2 = .ok (.putfield 22, 3) := by decide +kernel
theorem dX2_beginLine_5 : decode cX2_beginLine 5 = .ok (.aload_n 0, 1) := by decide +kernel
theorem dX2_beginLine_6 : decode cX2_beginLine 6 = .ok (.getfield 19, 3) := by decide +kernel
theorem dX2_beginLine_9 : decode cX2_beginLine 9 = .ok (.iconst 0, 1) := by decide +kernel
theorem dX2_beginLine_10 : decode cX2_beginLine 10 = .ok (.iconst (-1), 1) := by decide +kernel
theorem dX2_beginLine_11 : decode cX2_beginLine 11 = .ok (.iastore, 1) := by decide +kernel
theorem dX2_beginLine_12 : decode cX2_beginLine 12 = .ok (.aload_n 0, 1) := by decide +kernel
theorem dX2_beginLine_13 : decode cX2_beginLine 13 = .ok (.getfield 19, 3) := by decide +kernel
theorem dX2_beginLine_16 : decode cX2_beginLine 16 = .ok (.iconst 3, 1) := by decide +kernel
theorem dX2_beginLine_17 : decode cX2_beginLine 17 = .ok (.iconst 0, 1) := by decide +kernel
theorem dX2_beginLine_18 : decode cX2_beginLine 18 = .ok (.iastore, 1) := by decide +kernel
theorem dX2_beginLine_19 : decode cX2_beginLine 19 = .ok (.return_, 1) := by decide +kernel
theorem dX2_accepts_0 : decode cX2_accepts 0 = .ok (.iload_n 1, 1) := by decide +kernel
theorem dX2_accepts_1 : decode cX2_accepts 1 = .ok (.bipush 48, 2) := by decide +kernel
theorem dX2_accepts_3 : decode cX2_accepts 3 = .ok (.if_icmp .lt 20, 3) := by decide +kernel
theorem dX2_accepts_6 : decode cX2_accepts 6 = .ok (.iload_n 1, 1) := by decide +kernel
theorem dX2_accepts_7 : decode cX2_accepts 7 = .ok (.bipush 57, 2) := by decide +kernel
theorem dX2_accepts_9 : decode cX2_accepts 9 = .ok (.if_icmp .gt 14, 3) := by decide +kernel
theorem dX2_accepts_12 : decode cX2_accepts 12 = .ok (.aload_n 0, 1) := by decide +kernel
theorem dX2_accepts_13 : decode cX2_accepts 13 = .ok (.iload_n 1, 1) := by decide +kernel
theorem dX2_accepts_14 : decode cX2_accepts 14 = .ok (.bipush 48, 2) := by decide +kernel
theorem dX2_accepts_16 : decode cX2_accepts 16 = .ok (.isub, 1) := by decide +kernel
theorem dX2_accepts_17 : decode cX2_accepts 17 = .ok (.invokevirtual 42, 3) := by decide +kernel
theorem dX2_accepts_20 : decode cX2_accepts 20 = .ok (.goto 8, 3) := by decide +kernel
theorem dX2_accepts_23 : decode cX2_accepts 23 = .ok (.aload_n 0, 1) := by decide +kernel
theorem dX2_accepts_24 : decode cX2_accepts 24 = .ok (.iload_n 1, 1) := by decide +kernel
theorem dX2_accepts_25 : decode cX2_accepts 25 = .ok (.invokevirtual 45, 3) := by decide +kernel
theorem dX2_accepts_28 : decode cX2_accepts 28 = .ok (.ireturn, 1) := by decide +kernel
theorem dX2_acceptsDigit_0 : decode cX2_acceptsDigit 0 = .ok (.aload_n 0, 1) := by decide +kernel
theorem dX2_acceptsDigit_1 : decode cX2_acceptsDigit 1 = .ok (.getfield 19, 3) := by decide +kernel
theorem dX2_acceptsDigit_4 : decode cX2_acceptsDigit 4 = .ok (.aload_n 0, 1) := by decide +kernel
theorem dX2_acceptsDigit_5 : decode cX2_acceptsDigit 5 = .ok (.getfield 22, 3) := by decide +kernel
theorem dX2_acceptsDigit_8 : decode cX2_acceptsDigit 8 = .ok (.iaload, 1) := by decide +kernel
theorem dX2_acceptsDigit_9 : decode cX2_acceptsDigit 9 = .ok (.istore_n 2, 1) := by decide +kernel
theorem dX2_acceptsDigit_10 : decode cX2_acceptsDigit 10 = .ok (.iload_n 2, 1) := by decide +kernel
theorem dX2_acceptsDigit_11 : decode cX2_acceptsDigit 11 = .ok (.iconst (-1), 1) := by decide +kernel
theorem dX2_acceptsDigit_12 : decode cX2_acceptsDigit 12 = .ok (.if_icmp .ne 7, 3) := by decide +kernel
theorem dX2_acceptsDigit_15 : decode cX2_acceptsDigit 15 = .ok (.iload_n 1, 1) := by decide +kernel
theorem dX2_acceptsDigit_16 : decode cX2_acceptsDigit 16 = .ok (.goto 9, 3) := by decide +kernel
theorem dX2_acceptsDigit_19 : decode cX2_acceptsDigit 19 = .ok (.iload_n 2, 1) := by decide +kernel
theorem dX2_acceptsDigit_20 : decode cX2_acceptsDigit 20 = .ok (.bipush 10, 2) := by decide +kernel
theorem dX2_acceptsDigit_22 : decode cX2_acceptsDigit 22 = .ok (.imul, 1) := by decide +kernel
theorem dX2_acceptsDigit_23 : decode cX2_acceptsDigit 23 = .ok (.iload_n 1, 1) := by decide +kernel
theorem dX2_acceptsDigit_24 : decode cX2_acceptsDigit 24 = .ok (.iadd, 1) := by decide +kernel
theorem dX2_acceptsDigit_25 : decode cX2_acceptsDigit 25 = .ok (.istore_n 3, 1) := by decide +kernel
theorem dX2_acceptsDigit_26 : decode cX2_acceptsDigit 26 = .ok (.iload_n 2, 1) := by decide +kernel
theorem dX2_acceptsDigit_27 : decode cX2_acceptsDigit 27 = .ok (.ifCond .eq 25, 3) := by decide +kernel
theorem dX2_acceptsDigit_30 : decode cX2_acceptsDigit 30 = .ok (.iload_n 3, 1) := by decide +kernel
theorem dX2_acceptsDigit_31 : decode cX2_acceptsDigit 31 = .ok (.aload_n 0, 1) := by decide +kernel
theorem dX2_acceptsDigit_32 : decode cX2_acceptsDigit 32 = .ok (.getfield 22, 3) := by decide +kernel
theorem dX2_acceptsDigit_35 : decode cX2_acceptsDigit 35 = .ok (.invokestatic 48, 3) := by decide +kernel
theorem dX2_acceptsDigit_38 : decode cX2_acceptsDigit 38 = .ok (.if_icmp .lt 14, 3) := by decide +kernel
theorem dX2_acceptsDigit_41 : decode cX2_acceptsDigit 41 = .ok (.iload_n 3, 1) := by decide +kernel
theorem dX2_acceptsDigit_42 : decode cX2_acceptsDigit 42 = .ok (.aload_n 0, 1) := by decide +kernel
theorem dX2_acceptsDigit_43 : decode cX2_acceptsDigit 43 = .ok (.getfield 22, 3) := by decide +kernel
theorem dX2_acceptsDigit_46 : decode cX2_acceptsDigit 46 = .ok (.invokestatic 52, 3) := by decide +kernel
theorem dX2_acceptsDigit_49 : decode cX2_acceptsDigit 49 = .ok (.if_icmp .le 5, 3) := by decide +kernel
theorem dX2_acceptsDigit_52 : decode cX2_acceptsDigit 52 = .ok (.iconst 0, 1) := by decide +kernel
theorem dX2_acceptsDigit_53 : decode cX2_acceptsDigit 53 = .ok (.ireturn, 1) := by decide +kernel
theorem dX2_acceptsDigit_54 : decode cX2_acceptsDigit 54 = .ok (.aload_n 0, 1) := by decide +kernel
theorem dX2_acceptsDigit_55 : decode cX2_acceptsDigit 55 = .ok (.getfield 19, 3) := by decide +kernel
theorem dX2_acceptsDigit_58 : decode cX2_acceptsDigit 58 = .ok (.aload_n 0, 1) := by decide +kernel
theorem dX2_acceptsDigit_59 : decode cX2_acceptsDigit 59 = .ok (.getfield 22, 3) := by decide +kernel
theorem dX2_acceptsDigit_62 : decode cX2_acceptsDigit 62 = .ok (.iload_n 3, 1) := by decide +kernel
theorem dX2_acceptsDigit_63 : decode cX2_acceptsDigit 63 = .ok (.iastore, 1) := by decide +kernel
theorem dX2_acceptsDigit_64 : decode cX2_acceptsDigit 64 = .ok (.iconst 1, 1) := by decide +kernel
theorem dX2_acceptsDigit_65 : decode cX2_acceptsDigit 65 = .ok (.ireturn, 1) := by decide +kernel
theorem dX2_acceptsSign_0 : decode cX2_acceptsSign 0 = .ok (.aload_n 0, 1) := by decide +kernel
theorem dX2_acceptsSign_1 : decode cX2_acceptsSign 1 = .ok (.getfield 19, 3) := by decide +kernel
theorem dX2_acceptsSign_4 : decode cX2_acceptsSign 4 = .ok (.aload_n 0, 1) := by decide +kernel
theorem dX2_acceptsSign_5 : decode cX2_acceptsSign 5 = .ok (.getfield 22, 3) := by decide +kernel
theorem dX2_acceptsSign_8 : decode cX2_acceptsSign 8 = .ok (.iaload, 1) := by decide +kernel
theorem dX2_acceptsSign_9 : decode cX2_acceptsSign 9 = .ok (.iconst (-1), 1) := by decide +kernel
theorem dX2_acceptsSign_10 : decode cX2_acceptsSign 10 = .ok (.if_icmp .ne 5, 3) := by decide +kernel
theorem dX2_acceptsSign_13 : decode cX2_acceptsSign 13 = .ok (.iconst 0, 1) := by decide +kernel
theorem dX2_acceptsSign_14 : decode cX2_acceptsSign 14 = .ok (.ireturn, 1) := by decide +kernel
theorem dX2_acceptsSign_15 : decode cX2_acceptsSign 15 = .ok (.iload_n 1, 1) := by decide +kernel
theorem dX2_acceptsSign_16 : decode cX2_acceptsSign 16 = .ok (.bipush 59, 2) := by decide +kernel
theorem dX2_acceptsSign_18 : decode cX2_acceptsSign 18 = .ok (.if_icmp .ne 17, 3) := by decide +kernel
theorem dX2_acceptsSign_21 : decode cX2_acceptsSign 21 = .ok (.aload_n 0, 1) := by decide +kernel
theorem dX2_acceptsSign_22 : decode cX2_acceptsSign 22 = .ok (.getfield 22, 3) := by decide +kernel
theorem dX2_acceptsSign_25 : decode cX2_acceptsSign 25 = .ok (.iconst 2, 1) := by decide +kernel
theorem dX2_acceptsSign_26 : decode cX2_acceptsSign 26 = .ok (.if_icmp .lt 9, 3) := by decide +kernel
theorem dX2_acceptsSign_29 : decode cX2_acceptsSign 29 = .ok (.aload_n 0, 1) := by decide +kernel
theorem dX2_acceptsSign_30 : decode cX2_acceptsSign 30 = .ok (.invokevirtual 25, 3) := by decide +kernel
theorem dX2_acceptsSign_33 : decode cX2_acceptsSign 33 = .ok (.iconst 1, 1) := by decide +kernel
theorem dX2_acceptsSign_34 : decode cX2_acceptsSign 34 = .ok (.ireturn, 1) := by decide +kernel
theorem dX2_acceptsSign_35 : decode cX2_acceptsSign 35 = .ok (.aload_n 0, 1) := by decide +kernel
theorem dX2_acceptsSign_36 : decode cX2_acceptsSign 36 = .ok (.getfield 22, 3) := by decide +kernel
theorem dX2_acceptsSign_39 : decode cX2_acceptsSign 39 = .ok (.iconst 3, 1) := by decide +kernel
theorem dX2_acceptsSign_40 : decode cX2_acceptsSign 40 = .ok (.if_icmp .ge 14, 3) := by decide +kernel
theorem dX2_acceptsSign_43 : decode cX2_acceptsSign 43 = .ok (.iload_n 1, 1) := by decide +kernel
theorem dX2_acceptsSign_44 : decode cX2_acceptsSign 44 = .ok (.aload_n 0, 1) := by decide +kernel
theorem dX2_acceptsSign_45 : decode cX2_acceptsSign 45 = .ok (.getfield 22, 3) := by decide +kernel
theorem dX2_acceptsSign_48 : decode cX2_acceptsSign 48 = .ok (.invokestatic 55, 3) := by decide +kernel
theorem dX2_acceptsSign_51 : decode cX2_acceptsSign 51 = .ok (.if_icmp .eq 5, 3) := by decide +kernel
theorem dX2_acceptsSign_54 : decode cX2_acceptsSign 54 = .ok (.iconst 0, 1) := by decide +kernel
theorem dX2_acceptsSign_55 : decode cX2_acceptsSign 55 = .ok (.ireturn, 1) := by decide +kernel
theorem dX2_acceptsSign_56 : decode cX2_acceptsSign 56 = .ok (.aload_n 0, 1) := by decide +kernel
theorem dX2_acceptsSign_57 : decode cX2_acceptsSign 57 = .ok (.dup, 1) := by decide +kernel
theorem dX2_acceptsSign_58 : decode cX2_acceptsSign 58 = .ok (.getfield 22, 3) := by decide +kernel
theorem dX2_acceptsSign_61 : decode cX2_acceptsSign 61 = .ok (.iconst 1, 1) := by decide +kernel
theorem dX2_acceptsSign_62 : decode cX2_acceptsSign 62 = .ok (.iadd, 1) := by decide +kernel
theorem dX2_acceptsSign_63 : decode cX2_acceptsSign 63 = .ok (.putfield 22, 3) := by decide +kernel
theorem dX2_acceptsSign_66 : decode cX2_acceptsSign 66 = .ok (.aload_n 0, 1) := by decide +kernel
theorem dX2_acceptsSign_67 : decode cX2_acceptsSign 67 = .ok (.getfield 19, 3) := by decide +kernel
theorem dX2_acceptsSign_70 : decode cX2_acceptsSign 70 = .ok (.aload_n 0, 1) := by decide +kernel
theorem dX2_acceptsSign_71 : decode cX2_acceptsSign 71 = .ok (.getfield 22, 3) := by decide +kernel
theorem dX2_acceptsSign_74 : decode cX2_acceptsSign 74 = .ok (.iconst (-1), 1) := by decide +kernel
theorem dX2_acceptsSign_75 : decode cX2_acceptsSign 75 = .ok (.iastore, 1) := by decide +kernel
theorem dX2_acceptsSign_76 : decode cX2_acceptsSign 76 = .ok (.iconst 1, 1) := by decide +kernel
theorem dX2_acceptsSign_77 : decode cX2_acceptsSign 77 = .ok (.ireturn, 1) := by decide +kernel
theorem dX2_signBehind_0 : decode cX2_signBehind 0 = .ok (.iload_n 0, 1) := by decide +kernel
theorem dX2_signBehind_1 : decode cX2_signBehind 1 = .ok (.lookupswitch 33 #[(0, 27), (1, 30)], 27) := by decide +kernel
theorem dX2_signBehind_28 : decode cX2_signBehind 28 = .ok (.bipush 119, 2) := by decide +kernel
theorem dX2_signBehind_30 : decode cX2_signBehind 30 = .ok (.ireturn, 1) := by decide +kernel
theorem dX2_signBehind_31 : decode cX2_signBehind 31 = .ok (.bipush 64, 2) := by decide +kernel
theorem dX2_signBehind_33 : decode cX2_signBehind 33 = .ok (.ireturn, 1) := by decide +kernel
theorem dX2_signBehind_34 : decode cX2_signBehind 34 = .ok (.bipush 43, 2) := by decide +kernel
theorem dX2_signBehind_36 : decode cX2_signBehind 36 = .ok (.ireturn, 1) := by decide +kernel
theorem dX2_leastOf_0 : decode cX2_leastOf 0 = .ok (.iload_n 0, 1) := by decide +kernel
theorem dX2_leastOf_1 : decode cX2_leastOf 1 = .ok (.ifCond .eq 8, 3) := by decide +kernel
theorem dX2_leastOf_4 : decode cX2_leastOf 4 = .ok (.iload_n 0, 1) := by decide +kernel
theorem dX2_leastOf_5 : decode cX2_leastOf 5 = .ok (.iconst 1, 1) := by decide +kernel
theorem dX2_leastOf_6 : decode cX2_leastOf 6 = .ok (.if_icmp .ne 7, 3) := by decide +kernel
theorem dX2_leastOf_9 : decode cX2_leastOf 9 = .ok (.iconst 1, 1) := by decide +kernel
theorem dX2_leastOf_10 : decode cX2_leastOf 10 = .ok (.goto 4, 3) := by decide +kernel
theorem dX2_leastOf_13 : decode cX2_leastOf 13 = .ok (.iconst 0, 1) := by decide +kernel
theorem dX2_leastOf_14 : decode cX2_leastOf 14 = .ok (.ireturn, 1) := by decide +kernel
theorem dX2_greatestOf_0 : decode cX2_greatestOf 0 = .ok (.iload_n 0, 1) := by decide +kernel
theorem dX2_greatestOf_1 : decode cX2_greatestOf 1 = .ok (.tableswitch 36 0 2 #[27, 30, 33], 27) := by decide +kernel
theorem dX2_greatestOf_28 : decode cX2_greatestOf 28 = .ok (.bipush 12, 2) := by decide +kernel
theorem dX2_greatestOf_30 : decode cX2_greatestOf 30 = .ok (.ireturn, 1) := by decide +kernel
theorem dX2_greatestOf_31 : decode cX2_greatestOf 31 = .ok (.bipush 9, 2) := by decide +kernel
theorem dX2_greatestOf_33 : decode cX2_greatestOf 33 = .ok (.ireturn, 1) := by decide +kernel
theorem dX2_greatestOf_34 : decode cX2_greatestOf 34 = .ok (.bipush 23, 2) := by decide +kernel
theorem dX2_greatestOf_36 : decode cX2_greatestOf 36 = .ok (.ireturn, 1) := by decide +kernel
theorem dX2_greatestOf_37 : decode cX2_greatestOf 37 = .ok (.bipush 50, 2) := by decide +kernel
theorem dX2_greatestOf_39 : decode cX2_greatestOf 39 = .ok (.ireturn, 1) := by decide +kernel
theorem dX3_init_0 : decode cX3_init 0 = .ok (.aload_n 0, 1) := by decide +kernel
theorem dX3_init_1 : decode cX3_init 1 = .ok (.invokespecial 3, 3) := by decide +kernel
theorem dX3_init_4 : decode cX3_init 4 = .ok (.aload_n 0, 1) := by decide +kernel
theorem dX3_init_5 : decode cX3_init 5 = .ok (.new 9, 3) := by decide +kernel
theorem dX3_init_8 : decode cX3_init 8 = .ok (.dup, 1) := by decide +kernel
theorem dX3_init_9 : decode cX3_init 9 = .ok (.invokespecial 11, 3) := by decide +kernel
theorem dX3_init_12 : decode cX3_init 12 = .ok (.putfield 12, 3) := by decide +kernel
theorem dX3_init_15 : decode cX3_init 15 = .ok (.aload_n 0, 1) := by decide +kernel
theorem dX3_init_16 : decode cX3_init 16 = .ok (.new 9, 3) := by decide +kernel
theorem dX3_init_19 : decode cX3_init 19 = .ok (.dup, 1) := by decide +kernel
theorem dX3_init_20 : decode cX3_init 20 = .ok (.invokespecial 11, 3) := by decide +kernel
theorem dX3_init_23 : decode cX3_init 23 = .ok (.putfield 16, 3) := by decide +kernel
theorem dX3_init_26 : decode cX3_init 26 = .ok (.aload_n 0, 1) := by decide +kernel
theorem dX3_init_27 : decode cX3_init 27 = .ok (.new 19, 3) := by decide +kernel
theorem dX3_init_30 : decode cX3_init 30 = .ok (.dup, 1) := by decide +kernel
theorem dX3_init_31 : decode cX3_init 31 = .ok (.invokespecial 21, 3) := by decide +kernel
theorem dX3_init_34 : decode cX3_init 34 = .ok (.putfield 22, 3) := by decide +kernel
theorem dX3_init_37 : decode cX3_init 37 = .ok (.aload_n 0, 1) := by decide +kernel
theorem dX3_init_38 : decode cX3_init 38 = .ok (.new 26, 3) := by decide +kernel
theorem dX3_init_41 : decode cX3_init 41 = .ok (.dup, 1) := by decide +kernel
theorem dX3_init_42 : decode cX3_init 42 = .ok (.invokespecial 28, 3) := by decide +kernel
theorem dX3_init_45 : decode cX3_init 45 = .ok (.putfield 29, 3) := by decide +kernel
theorem dX3_init_48 : decode cX3_init 48 = .ok (.return_, 1) := by decide +kernel
theorem dX3_line_0 : decode cX3_line 0 = .ok (.iload_n 1, 1) := by decide +kernel
theorem dX3_line_1 : decode cX3_line 1 = .ok (.iload_n 2, 1) := by decide +kernel
theorem dX3_line_2 : decode cX3_line 2 = .ok (.iload_n 3, 1) := by decide +kernel
theorem dX3_line_3 : decode cX3_line 3 = .ok (.invokestatic 33, 3) := by decide +kernel
theorem dX3_line_6 : decode cX3_line 6 = .ok (.ifCond .eq 19, 3) := by decide +kernel
theorem dX3_line_9 : decode cX3_line 9 = .ok (.iload 4, 2) := by decide +kernel
theorem dX3_line_11 : decode cX3_line 11 = .ok (.invokestatic 37, 3) := by decide +kernel
theorem dX3_line_14 : decode cX3_line 14 = .ok (.ifCond .eq 11, 3) := by decide +kernel
theorem dX3_line_17 : decode cX3_line 17 = .ok (.iload 5, 2) := by decide +kernel
theorem dX3_line_19 : decode cX3_line 19 = .ok (.invokestatic 41, 3) := by decide +kernel
theorem dX3_line_22 : decode cX3_line 22 = .ok (.ifCond .ne 11, 3) := by decide +kernel
theorem dX3_line_25 : decode cX3_line 25 = .ok (.new 44, 3) := by decide +kernel
theorem dX3_line_28 : decode cX3_line 28 = .ok (.dup, 1) := by decide +kernel
theorem dX3_line_29 : decode cX3_line 29 = .ok (.invokespecial 46, 3) := by decide +kernel
theorem dX3_line_32 : decode cX3_line 32 = .ok (.athrow, 1) := by decide +kernel
theorem dX3_line_33 : decode cX3_line 33 = .ok (.aload_n 0, 1) := by decide +kernel
theorem dX3_line_34 : decode cX3_line 34 = .ok (.getfield 12, 3) := by decide +kernel
theorem dX3_line_37 : decode cX3_line 37 = .ok (.getfield 47, 3) := by decide +kernel
theorem dX3_line_40 : decode cX3_line 40 = .ok (.bipush 10, 2) := by decide +kernel
theorem dX3_line_42 : decode cX3_line 42 = .ok (.if_icmp .lt 11, 3) := by decide +kernel
theorem dX3_line_45 : decode cX3_line 45 = .ok (.new 51, 3) := by decide +kernel
theorem dX3_line_48 : decode cX3_line 48 = .ok (.dup, 1) := by decide +kernel
theorem dX3_line_49 : decode cX3_line 49 = .ok (.invokespecial 53, 3) := by decide +kernel
theorem dX3_line_52 : decode cX3_line 52 = .ok (.athrow, 1) := by decide +kernel
theorem dX3_line_53 : decode cX3_line 53 = .ok (.aload_n 0, 1) := by decide +kernel
theorem dX3_line_54 : decode cX3_line 54 = .ok (.getfield 22, 3) := by decide +kernel
theorem dX3_line_57 : decode cX3_line 57 = .ok (.aload_n 0, 1) := by decide +kernel
theorem dX3_line_58 : decode cX3_line 58 = .ok (.getfield 12, 3) := by decide +kernel
theorem dX3_line_61 : decode cX3_line 61 = .ok (.invokevirtual 54, 3) := by decide +kernel
theorem dX3_line_64 : decode cX3_line 64 = .ok (.aload_n 0, 1) := by decide +kernel
theorem dX3_line_65 : decode cX3_line 65 = .ok (.getfield 12, 3) := by decide +kernel
theorem dX3_line_68 : decode cX3_line 68 = .ok (.iload_n 1, 1) := by decide +kernel
theorem dX3_line_69 : decode cX3_line 69 = .ok (.iload_n 2, 1) := by decide +kernel
theorem dX3_line_70 : decode cX3_line 70 = .ok (.iload_n 3, 1) := by decide +kernel
theorem dX3_line_71 : decode cX3_line 71 = .ok (.iload 4, 2) := by decide +kernel
theorem dX3_line_73 : decode cX3_line 73 = .ok (.iload 5, 2) := by decide +kernel
theorem dX3_line_75 : decode cX3_line 75 = .ok (.invokevirtual 58, 3) := by decide +kernel
theorem dX3_line_78 : decode cX3_line 78 = .ok (.ireturn, 1) := by decide +kernel
theorem dX3_run_0 : decode cX3_run 0 = .ok (.iload_n 1, 1) := by decide +kernel
theorem dX3_run_1 : decode cX3_run 1 = .ok (.iconst 1, 1) := by decide +kernel
theorem dX3_run_2 : decode cX3_run 2 = .ok (.if_icmp .lt 9, 3) := by decide +kernel
theorem dX3_run_5 : decode cX3_run 5 = .ok (.iload_n 1, 1) := by decide +kernel
theorem dX3_run_6 : decode cX3_run 6 = .ok (.bipush 50, 2) := by decide +kernel
theorem dX3_run_8 : decode cX3_run 8 = .ok (.if_icmp .le 11, 3) := by decide +kernel
theorem dX3_run_11 : decode cX3_run 11 = .ok (.new 44, 3) := by decide +kernel
theorem dX3_run_14 : decode cX3_run 14 = .ok (.dup, 1) := by decide +kernel
theorem dX3_run_15 : decode cX3_run 15 = .ok (.invokespecial 46, 3) := by decide +kernel
theorem dX3_run_18 : decode cX3_run 18 = .ok (.athrow, 1) := by decide +kernel
theorem dX3_run_19 : decode cX3_run 19 = .ok (.aload_n 0, 1) := by decide +kernel
theorem dX3_run_20 : decode cX3_run 20 = .ok (.getfield 12, 3) := by decide +kernel
theorem dX3_run_23 : decode cX3_run 23 = .ok (.getfield 62, 3) := by decide +kernel
theorem dX3_run_26 : decode cX3_run 26 = .ok (.iload_n 1, 1) := by decide +kernel
theorem dX3_run_27 : decode cX3_run 27 = .ok (.iadd, 1) := by decide +kernel
theorem dX3_run_28 : decode cX3_run 28 = .ok (.sipush 999, 3) := by decide +kernel
theorem dX3_run_31 : decode cX3_run 31 = .ok (.if_icmp .le 11, 3) := by decide +kernel
theorem dX3_run_34 : decode cX3_run 34 = .ok (.new 51, 3) := by decide +kernel
theorem dX3_run_37 : decode cX3_run 37 = .ok (.dup, 1) := by decide +kernel
theorem dX3_run_38 : decode cX3_run 38 = .ok (.invokespecial 53, 3) := by decide +kernel
theorem dX3_run_41 : decode cX3_run 41 = .ok (.athrow, 1) := by decide +kernel
theorem dX3_run_42 : decode cX3_run 42 = .ok (.aload_n 0, 1) := by decide +kernel
theorem dX3_run_43 : decode cX3_run 43 = .ok (.getfield 22, 3) := by decide +kernel
theorem dX3_run_46 : decode cX3_run 46 = .ok (.aload_n 0, 1) := by decide +kernel
theorem dX3_run_47 : decode cX3_run 47 = .ok (.getfield 12, 3) := by decide +kernel
theorem dX3_run_50 : decode cX3_run 50 = .ok (.invokevirtual 54, 3) := by decide +kernel
theorem dX3_run_53 : decode cX3_run 53 = .ok (.aload_n 0, 1) := by decide +kernel
theorem dX3_run_54 : decode cX3_run 54 = .ok (.getfield 12, 3) := by decide +kernel
theorem dX3_run_57 : decode cX3_run 57 = .ok (.getfield 65, 3) := by decide +kernel
theorem dX3_run_60 : decode cX3_run 60 = .ok (.istore_n 2, 1) := by decide +kernel
theorem dX3_run_61 : decode cX3_run 61 = .ok (.iconst 0, 1) := by decide +kernel
theorem dX3_run_62 : decode cX3_run 62 = .ok (.istore_n 3, 1) := by decide +kernel
theorem dX3_run_63 : decode cX3_run 63 = .ok (.iload_n 3, 1) := by decide +kernel
theorem dX3_run_64 : decode cX3_run 64 = .ok (.iload_n 1, 1) := by decide +kernel
theorem dX3_run_65 : decode cX3_run 65 = .ok (.if_icmp .ge 16, 3) := by decide +kernel
theorem dX3_run_68 : decode cX3_run 68 = .ok (.aload_n 0, 1) := by decide +kernel
theorem dX3_run_69 : decode cX3_run 69 = .ok (.getfield 12, 3) := by decide +kernel
theorem dX3_run_72 : decode cX3_run 72 = .ok (.invokevirtual 68, 3) := by decide +kernel
theorem dX3_run_75 : decode cX3_run 75 = .ok (.iinc 3 1, 3) := by decide +kernel
theorem dX3_run_78 : decode cX3_run 78 = .ok (.goto (-15), 3) := by decide +kernel
theorem dX3_run_81 : decode cX3_run 81 = .ok (.aload_n 0, 1) := by decide +kernel
theorem dX3_run_82 : decode cX3_run 82 = .ok (.getfield 12, 3) := by decide +kernel
theorem dX3_run_85 : decode cX3_run 85 = .ok (.getfield 65, 3) := by decide +kernel
theorem dX3_run_88 : decode cX3_run 88 = .ok (.iload_n 2, 1) := by decide +kernel
theorem dX3_run_89 : decode cX3_run 89 = .ok (.isub, 1) := by decide +kernel
theorem dX3_run_90 : decode cX3_run 90 = .ok (.ireturn, 1) := by decide +kernel
theorem dX3_reset_0 : decode cX3_reset 0 = .ok (.iload_n 1, 1) := by decide +kernel
theorem dX3_reset_1 : decode cX3_reset 1 = .ok (.invokestatic 37, 3) := by decide +kernel
theorem dX3_reset_4 : decode cX3_reset 4 = .ok (.ifCond .ne 11, 3) := by decide +kernel
theorem dX3_reset_7 : decode cX3_reset 7 = .ok (.new 44, 3) := by decide +kernel
theorem dX3_reset_10 : decode cX3_reset 10 = .ok (.dup, 1) := by decide +kernel
theorem dX3_reset_11 : decode cX3_reset 11 = .ok (.invokespecial 46, 3) := by decide +kernel
theorem dX3_reset_14 : decode cX3_reset 14 = .ok (.athrow, 1) := by decide +kernel
theorem dX3_reset_15 : decode cX3_reset 15 = .ok (.aload_n 0, 1) := by decide +kernel
theorem dX3_reset_16 : decode cX3_reset 16 = .ok (.getfield 22, 3) := by decide +kernel
theorem dX3_reset_19 : decode cX3_reset 19 = .ok (.aload_n 0, 1) := by decide +kernel
theorem dX3_reset_20 : decode cX3_reset 20 = .ok (.getfield 12, 3) := by decide +kernel
theorem dX3_reset_23 : decode cX3_reset 23 = .ok (.invokevirtual 54, 3) := by decide +kernel
theorem dX3_reset_26 : decode cX3_reset 26 = .ok (.aload_n 0, 1) := by decide +kernel
theorem dX3_reset_27 : decode cX3_reset 27 = .ok (.getfield 12, 3) := by decide +kernel
theorem dX3_reset_30 : decode cX3_reset 30 = .ok (.iload_n 1, 1) := by decide +kernel
theorem dX3_reset_31 : decode cX3_reset 31 = .ok (.invokevirtual 71, 3) := by decide +kernel
theorem dX3_reset_34 : decode cX3_reset 34 = .ok (.ireturn, 1) := by decide +kernel
theorem dX3_push_0 : decode cX3_push 0 = .ok (.aload_n 0, 1) := by decide +kernel
theorem dX3_push_1 : decode cX3_push 1 = .ok (.iload_n 1, 1) := by decide +kernel
theorem dX3_push_2 : decode cX3_push 2 = .ok (.invokevirtual 75, 3) := by decide +kernel
theorem dX3_push_5 : decode cX3_push 5 = .ok (.ifCond .ne 11, 3) := by decide +kernel
theorem dX3_push_8 : decode cX3_push 8 = .ok (.new 78, 3) := by decide +kernel
theorem dX3_push_11 : decode cX3_push 11 = .ok (.dup, 1) := by decide +kernel
theorem dX3_push_12 : decode cX3_push 12 = .ok (.invokespecial 80, 3) := by decide +kernel
theorem dX3_push_15 : decode cX3_push 15 = .ok (.athrow, 1) := by decide +kernel
theorem dX3_push_16 : decode cX3_push 16 = .ok (.aload_n 0, 1) := by decide +kernel
theorem dX3_push_17 : decode cX3_push 17 = .ok (.getfield 12, 3) := by decide +kernel
theorem dX3_push_20 : decode cX3_push 20 = .ok (.iload_n 1, 1) := by decide +kernel
theorem dX3_push_21 : decode cX3_push 21 = .ok (.iload_n 2, 1) := by decide +kernel
theorem dX3_push_22 : decode cX3_push 22 = .ok (.invokevirtual 81, 3) := by decide +kernel
theorem dX3_push_25 : decode cX3_push 25 = .ok (.ifCond .ne 11, 3) := by decide +kernel
theorem dX3_push_28 : decode cX3_push 28 = .ok (.new 51, 3) := by decide +kernel
theorem dX3_push_31 : decode cX3_push 31 = .ok (.dup, 1) := by decide +kernel
theorem dX3_push_32 : decode cX3_push 32 = .ok (.invokespecial 53, 3) := by decide +kernel
theorem dX3_push_35 : decode cX3_push 35 = .ok (.athrow, 1) := by decide +kernel
theorem dX3_push_36 : decode cX3_push 36 = .ok (.aload_n 0, 1) := by decide +kernel
theorem dX3_push_37 : decode cX3_push 37 = .ok (.getfield 22, 3) := by decide +kernel
theorem dX3_push_40 : decode cX3_push 40 = .ok (.aload_n 0, 1) := by decide +kernel
theorem dX3_push_41 : decode cX3_push 41 = .ok (.getfield 12, 3) := by decide +kernel
theorem dX3_push_44 : decode cX3_push 44 = .ok (.invokevirtual 54, 3) := by decide +kernel
theorem dX3_push_47 : decode cX3_push 47 = .ok (.aload_n 0, 1) := by decide +kernel
theorem dX3_push_48 : decode cX3_push 48 = .ok (.getfield 12, 3) := by decide +kernel
theorem dX3_push_51 : decode cX3_push 51 = .ok (.iload_n 1, 1) := by decide +kernel
theorem dX3_push_52 : decode cX3_push 52 = .ok (.iload_n 2, 1) := by decide +kernel
theorem dX3_push_53 : decode cX3_push 53 = .ok (.invokevirtual 85, 3) := by decide +kernel
theorem dX3_push_56 : decode cX3_push 56 = .ok (.aload_n 0, 1) := by decide +kernel
theorem dX3_push_57 : decode cX3_push 57 = .ok (.getfield 12, 3) := by decide +kernel
theorem dX3_push_60 : decode cX3_push 60 = .ok (.getfield 89, 3) := by decide +kernel
theorem dX3_push_63 : decode cX3_push 63 = .ok (.iload_n 1, 1) := by decide +kernel
theorem dX3_push_64 : decode cX3_push 64 = .ok (.iaload, 1) := by decide +kernel
theorem dX3_push_65 : decode cX3_push 65 = .ok (.ireturn, 1) := by decide +kernel
theorem dX3_set_0 : decode cX3_set 0 = .ok (.iload_n 1, 1) := by decide +kernel
theorem dX3_set_1 : decode cX3_set 1 = .ok (.iconst 1, 1) := by decide +kernel
theorem dX3_set_2 : decode cX3_set 2 = .ok (.if_icmp .lt 9, 3) := by decide +kernel
theorem dX3_set_5 : decode cX3_set 5 = .ok (.iload_n 1, 1) := by decide +kernel
theorem dX3_set_6 : decode cX3_set 6 = .ok (.bipush 9, 2) := by decide +kernel
theorem dX3_set_8 : decode cX3_set 8 = .ok (.if_icmp .le 11, 3) := by decide +kernel
theorem dX3_set_11 : decode cX3_set 11 = .ok (.new 44, 3) := by decide +kernel
theorem dX3_set_14 : decode cX3_set 14 = .ok (.dup, 1) := by decide +kernel
theorem dX3_set_15 : decode cX3_set 15 = .ok (.invokespecial 46, 3) := by decide +kernel
theorem dX3_set_18 : decode cX3_set 18 = .ok (.athrow, 1) := by decide +kernel
theorem dX3_set_19 : decode cX3_set 19 = .ok (.aload_n 0, 1) := by decide +kernel
theorem dX3_set_20 : decode cX3_set 20 = .ok (.getfield 22, 3) := by decide +kernel
theorem dX3_set_23 : decode cX3_set 23 = .ok (.aload_n 0, 1) := by decide +kernel
theorem dX3_set_24 : decode cX3_set 24 = .ok (.getfield 12, 3) := by decide +kernel
theorem dX3_set_27 : decode cX3_set 27 = .ok (.invokevirtual 54, 3) := by decide +kernel
theorem dX3_set_30 : decode cX3_set 30 = .ok (.aload_n 0, 1) := by decide +kernel
theorem dX3_set_31 : decode cX3_set 31 = .ok (.getfield 12, 3) := by decide +kernel
theorem dX3_set_34 : decode cX3_set 34 = .ok (.getfield 93, 3) := by decide +kernel
theorem dX3_set_37 : decode cX3_set 37 = .ok (.istore_n 2, 1) := by decide +kernel
theorem dX3_set_38 : decode cX3_set 38 = .ok (.aload_n 0, 1) := by decide +kernel
theorem dX3_set_39 : decode cX3_set 39 = .ok (.getfield 12, 3) := by decide +kernel
theorem dX3_set_42 : decode cX3_set 42 = .ok (.iload_n 1, 1) := by decide +kernel
theorem dX3_set_43 : decode cX3_set 43 = .ok (.putfield 93, 3) := by decide +kernel
theorem dX3_set_46 : decode cX3_set 46 = .ok (.iload_n 2, 1) := by decide +kernel
theorem dX3_set_47 : decode cX3_set 47 = .ok (.ireturn, 1) := by decide +kernel
theorem dX3_append_0 : decode cX3_append 0 = .ok (.iload_n 1, 1) := by decide +kernel
theorem dX3_append_1 : decode cX3_append 1 = .ok (.bipush 33, 2) := by decide +kernel
theorem dX3_append_3 : decode cX3_append 3 = .ok (.if_icmp .lt 9, 3) := by decide +kernel
theorem dX3_append_6 : decode cX3_append 6 = .ok (.iload_n 1, 1) := by decide +kernel
theorem dX3_append_7 : decode cX3_append 7 = .ok (.bipush 126, 2) := by decide +kernel
theorem dX3_append_9 : decode cX3_append 9 = .ok (.if_icmp .le 11, 3) := by decide +kernel
theorem dX3_append_12 : decode cX3_append 12 = .ok (.new 44, 3) := by decide +kernel
theorem dX3_append_15 : decode cX3_append 15 = .ok (.dup, 1) := by decide +kernel
theorem dX3_append_16 : decode cX3_append 16 = .ok (.invokespecial 46, 3) := by decide +kernel
theorem dX3_append_19 : decode cX3_append 19 = .ok (.athrow, 1) := by decide +kernel
theorem dX3_append_20 : decode cX3_append 20 = .ok (.aload_n 0, 1) := by decide +kernel
theorem dX3_append_21 : decode cX3_append 21 = .ok (.getfield 29, 3) := by decide +kernel
theorem dX3_append_24 : decode cX3_append 24 = .ok (.getfield 96, 3) := by decide +kernel
theorem dX3_append_27 : decode cX3_append 27 = .ok (.bipush 60, 2) := by decide +kernel
theorem dX3_append_29 : decode cX3_append 29 = .ok (.if_icmp .lt 11, 3) := by decide +kernel
theorem dX3_append_32 : decode cX3_append 32 = .ok (.new 51, 3) := by decide +kernel
theorem dX3_append_35 : decode cX3_append 35 = .ok (.dup, 1) := by decide +kernel
theorem dX3_append_36 : decode cX3_append 36 = .ok (.invokespecial 53, 3) := by decide +kernel
theorem dX3_append_39 : decode cX3_append 39 = .ok (.athrow, 1) := by decide +kernel
theorem dX3_append_40 : decode cX3_append 40 = .ok (.aload_n 0, 1) := by decide +kernel
theorem dX3_append_41 : decode cX3_append 41 = .ok (.getfield 29, 3) := by decide +kernel
theorem dX3_append_44 : decode cX3_append 44 = .ok (.iload_n 1, 1) := by decide +kernel
theorem dX3_append_45 : decode cX3_append 45 = .ok (.invokevirtual 99, 3) := by decide +kernel
theorem dX3_append_48 : decode cX3_append 48 = .ok (.aload_n 0, 1) := by decide +kernel
theorem dX3_append_49 : decode cX3_append 49 = .ok (.getfield 29, 3) := by decide +kernel
theorem dX3_append_52 : decode cX3_append 52 = .ok (.getfield 96, 3) := by decide +kernel
theorem dX3_append_55 : decode cX3_append 55 = .ok (.ireturn, 1) := by decide +kernel
theorem dX3_clearBuffer_0 : decode cX3_clearBuffer 0 = .ok (.aload_n 0, 1) := by decide +kernel
theorem dX3_clearBuffer_1 : decode cX3_clearBuffer 1 = .ok (.getfield 29, 3) := by decide +kernel
theorem dX3_clearBuffer_4 : decode cX3_clearBuffer 4 = .ok (.getfield 96, 3) := by decide +kernel
theorem dX3_clearBuffer_7 : decode cX3_clearBuffer 7 = .ok (.istore_n 1, 1) := by decide +kernel
theorem dX3_clearBuffer_8 : decode cX3_clearBuffer 8 = .ok (.aload_n 0, 1) := by decide +kernel
theorem dX3_clearBuffer_9 : decode cX3_clearBuffer 9 = .ok (.getfield 29, 3) := by decide +kernel
theorem dX3_clearBuffer_12 : decode cX3_clearBuffer 12 = .ok (.iconst 0, 1) := by decide +kernel
theorem dX3_clearBuffer_13 : decode cX3_clearBuffer 13 = .ok (.putfield 96, 3) := by decide +kernel
theorem dX3_clearBuffer_16 : decode cX3_clearBuffer 16 = .ok (.iload_n 1, 1) := by decide +kernel
theorem dX3_clearBuffer_17 : decode cX3_clearBuffer 17 = .ok (.ireturn, 1) := by decide +kernel
theorem dX3_firstError_0 : decode cX3_firstError 0 = .ok (.aload_n 0, 1) := by decide +kernel
theorem dX3_firstError_1 : decode cX3_firstError 1 = .ok (.getfield 29, 3) := by decide +kernel
theorem dX3_firstError_4 : decode cX3_firstError 4 = .ok (.invokevirtual 103, 3) := by decide +kernel
theorem dX3_firstError_7 : decode cX3_firstError 7 = .ok (.ireturn, 1) := by decide +kernel
theorem dX3_read_0 : decode cX3_read 0 = .ok (.aload_n 0, 1) := by decide +kernel
theorem dX3_read_1 : decode cX3_read 1 = .ok (.getfield 29, 3) := by decide +kernel
theorem dX3_read_4 : decode cX3_read 4 = .ok (.invokevirtual 107, 3) := by decide +kernel
theorem dX3_read_7 : decode cX3_read 7 = .ok (.ifCond .ne 11, 3) := by decide +kernel
theorem dX3_read_10 : decode cX3_read 10 = .ok (.new 44, 3) := by decide +kernel
theorem dX3_read_13 : decode cX3_read 13 = .ok (.dup, 1) := by decide +kernel
theorem dX3_read_14 : decode cX3_read 14 = .ok (.invokespecial 46, 3) := by decide +kernel
theorem dX3_read_17 : decode cX3_read 17 = .ok (.athrow, 1) := by decide +kernel
theorem dX3_read_18 : decode cX3_read 18 = .ok (.aload_n 0, 1) := by decide +kernel
theorem dX3_read_19 : decode cX3_read 19 = .ok (.getfield 22, 3) := by decide +kernel
theorem dX3_read_22 : decode cX3_read 22 = .ok (.aload_n 0, 1) := by decide +kernel
theorem dX3_read_23 : decode cX3_read 23 = .ok (.getfield 12, 3) := by decide +kernel
theorem dX3_read_26 : decode cX3_read 26 = .ok (.invokevirtual 54, 3) := by decide +kernel
theorem dX3_read_29 : decode cX3_read 29 = .ok (.iconst 0, 1) := by decide +kernel
theorem dX3_read_30 : decode cX3_read 30 = .ok (.istore_n 1, 1) := by decide +kernel
theorem dX3_read_31 : decode cX3_read 31 = .ok (.iconst 0, 1) := by decide +kernel
theorem dX3_read_32 : decode cX3_read 32 = .ok (.istore_n 2, 1) := by decide +kernel
theorem dX3_read_33 : decode cX3_read 33 = .ok (.iconst 0, 1) := by decide +kernel
theorem dX3_read_34 : decode cX3_read 34 = .ok (.istore_n 3, 1) := by decide +kernel
theorem dX3_read_35 : decode cX3_read 35 = .ok (.iload_n 3, 1) := by decide +kernel
theorem dX3_read_36 : decode cX3_read 36 = .ok (.bipush 60, 2) := by decide +kernel
theorem dX3_read_38 : decode cX3_read 38 = .ok (.if_icmp .ge 42, 3) := by decide +kernel
theorem dX3_read_41 : decode cX3_read 41 = .ok (.iload_n 2, 1) := by decide +kernel
theorem dX3_read_42 : decode cX3_read 42 = .ok (.aload_n 0, 1) := by decide +kernel
theorem dX3_read_43 : decode cX3_read 43 = .ok (.getfield 29, 3) := by decide +kernel
theorem dX3_read_46 : decode cX3_read 46 = .ok (.getfield 96, 3) := by decide +kernel
theorem dX3_read_49 : decode cX3_read 49 = .ok (.if_icmp .ge 31, 3) := by decide +kernel
theorem dX3_read_52 : decode cX3_read 52 = .ok (.aload_n 0, 1) := by decide +kernel
theorem dX3_read_53 : decode cX3_read 53 = .ok (.getfield 29, 3) := by decide +kernel
theorem dX3_read_56 : decode cX3_read 56 = .ok (.iload_n 2, 1) := by decide +kernel
theorem dX3_read_57 : decode cX3_read 57 = .ok (.invokevirtual 111, 3) := by decide +kernel
theorem dX3_read_60 : decode cX3_read 60 = .ok (.istore_n 2, 1) := by decide +kernel
theorem dX3_read_61 : decode cX3_read 61 = .ok (.aload_n 0, 1) := by decide +kernel
theorem dX3_read_62 : decode cX3_read 62 = .ok (.invokevirtual 114, 3) := by decide +kernel
theorem dX3_read_65 : decode cX3_read 65 = .ok (.ifCond .ne 6, 3) := by decide +kernel
theorem dX3_read_68 : decode cX3_read 68 = .ok (.goto 12, 3) := by decide +kernel
theorem dX3_read_71 : decode cX3_read 71 = .ok (.iinc 1 1, 3) := by decide +kernel
theorem dX3_read_74 : decode cX3_read 74 = .ok (.iinc 3 1, 3) := by decide +kernel
theorem dX3_read_77 : decode cX3_read 77 = .ok (.goto (-42), 3) := by decide +kernel
theorem dX3_read_80 : decode cX3_read 80 = .ok (.aload_n 0, 1) := by decide +kernel
theorem dX3_read_81 : decode cX3_read 81 = .ok (.getfield 29, 3) := by decide +kernel
theorem dX3_read_84 : decode cX3_read 84 = .ok (.iconst 0, 1) := by decide +kernel
theorem dX3_read_85 : decode cX3_read 85 = .ok (.putfield 96, 3) := by decide +kernel
theorem dX3_read_88 : decode cX3_read 88 = .ok (.iload_n 1, 1) := by decide +kernel
theorem dX3_read_89 : decode cX3_read 89 = .ok (.ireturn, 1) := by decide +kernel
theorem dX3_undo_0 : decode cX3_undo 0 = .ok (.aload_n 0, 1) := by decide +kernel
theorem dX3_undo_1 : decode cX3_undo 1 = .ok (.getfield 22, 3) := by decide +kernel
theorem dX3_undo_4 : decode cX3_undo 4 = .ok (.getfield 117, 3) := by decide +kernel
theorem dX3_undo_7 : decode cX3_undo 7 = .ok (.iconst 1, 1) := by decide +kernel
theorem dX3_undo_8 : decode cX3_undo 8 = .ok (.if_icmp .ge 11, 3) := by decide +kernel
theorem dX3_undo_11 : decode cX3_undo 11 = .ok (.new 51, 3) := by decide +kernel
theorem dX3_undo_14 : decode cX3_undo 14 = .ok (.dup, 1) := by decide +kernel
theorem dX3_undo_15 : decode cX3_undo 15 = .ok (.invokespecial 53, 3) := by decide +kernel
theorem dX3_undo_18 : decode cX3_undo 18 = .ok (.athrow, 1) := by decide +kernel
theorem dX3_undo_19 : decode cX3_undo 19 = .ok (.aload_n 0, 1) := by decide +kernel
theorem dX3_undo_20 : decode cX3_undo 20 = .ok (.getfield 22, 3) := by decide +kernel
theorem dX3_undo_23 : decode cX3_undo 23 = .ok (.aload_n 0, 1) := by decide +kernel
theorem dX3_undo_24 : decode cX3_undo 24 = .ok (.getfield 12, 3) := by decide +kernel
theorem dX3_undo_27 : decode cX3_undo 27 = .ok (.invokevirtual 120, 3) := by decide +kernel
theorem dX3_undo_30 : decode cX3_undo 30 = .ok (.aload_n 0, 1) := by decide +kernel
theorem dX3_undo_31 : decode cX3_undo 31 = .ok (.getfield 22, 3) := by decide +kernel
theorem dX3_undo_34 : decode cX3_undo 34 = .ok (.getfield 117, 3) := by decide +kernel
theorem dX3_undo_37 : decode cX3_undo 37 = .ok (.ireturn, 1) := by decide +kernel
theorem dX3_lineOf_0 : decode cX3_lineOf 0 = .ok (.aload_n 0, 1) := by decide +kernel
theorem dX3_lineOf_1 : decode cX3_lineOf 1 = .ok (.iload_n 1, 1) := by decide +kernel
theorem dX3_lineOf_2 : decode cX3_lineOf 2 = .ok (.invokevirtual 75, 3) := by decide +kernel
theorem dX3_lineOf_5 : decode cX3_lineOf 5 = .ok (.ifCond .ne 11, 3) := by decide +kernel
theorem dX3_lineOf_8 : decode cX3_lineOf 8 = .ok (.new 78, 3) := by decide +kernel
theorem dX3_lineOf_11 : decode cX3_lineOf 11 = .ok (.dup, 1) := by decide +kernel
theorem dX3_lineOf_12 : decode cX3_lineOf 12 = .ok (.invokespecial 80, 3) := by decide +kernel
theorem dX3_lineOf_15 : decode cX3_lineOf 15 = .ok (.athrow, 1) := by decide +kernel
theorem dX3_lineOf_16 : decode cX3_lineOf 16 = .ok (.iload_n 2, 1) := by decide +kernel
theorem dX3_lineOf_17 : decode cX3_lineOf 17 = .ok (.ifCond .lt 9, 3) := by decide +kernel
theorem dX3_lineOf_20 : decode cX3_lineOf 20 = .ok (.iload_n 2, 1) := by decide +kernel
theorem dX3_lineOf_21 : decode cX3_lineOf 21 = .ok (.bipush 11, 2) := by decide +kernel
theorem dX3_lineOf_23 : decode cX3_lineOf 23 = .ok (.if_icmp .le 11, 3) := by decide +kernel
theorem dX3_lineOf_26 : decode cX3_lineOf 26 = .ok (.new 44, 3) := by decide +kernel
theorem dX3_lineOf_29 : decode cX3_lineOf 29 = .ok (.dup, 1) := by decide +kernel
theorem dX3_lineOf_30 : decode cX3_lineOf 30 = .ok (.invokespecial 46, 3) := by decide +kernel
theorem dX3_lineOf_33 : decode cX3_lineOf 33 = .ok (.athrow, 1) := by decide +kernel
theorem dX3_lineOf_34 : decode cX3_lineOf 34 = .ok (.aload_n 0, 1) := by decide +kernel
theorem dX3_lineOf_35 : decode cX3_lineOf 35 = .ok (.getfield 12, 3) := by decide +kernel
theorem dX3_lineOf_38 : decode cX3_lineOf 38 = .ok (.iload_n 1, 1) := by decide +kernel
theorem dX3_lineOf_39 : decode cX3_lineOf 39 = .ok (.iload_n 2, 1) := by decide +kernel
theorem dX3_lineOf_40 : decode cX3_lineOf 40 = .ok (.invokevirtual 123, 3) := by decide +kernel
theorem dX3_lineOf_43 : decode cX3_lineOf 43 = .ok (.ireturn, 1) := by decide +kernel
theorem dX3_at_0 : decode cX3_at 0 = .ok (.iload_n 1, 1) := by decide +kernel
theorem dX3_at_1 : decode cX3_at 1 = .ok (.ifCond .lt 19, 3) := by decide +kernel
theorem dX3_at_4 : decode cX3_at 4 = .ok (.iload_n 1, 1) := by decide +kernel
theorem dX3_at_5 : decode cX3_at 5 = .ok (.bipush 16, 2) := by decide +kernel
theorem dX3_at_7 : decode cX3_at 7 = .ok (.if_icmp .ge 13, 3) := by decide +kernel
theorem dX3_at_10 : decode cX3_at 10 = .ok (.iload_n 2, 1) := by decide +kernel
theorem dX3_at_11 : decode cX3_at 11 = .ok (.ifCond .lt 9, 3) := by decide +kernel
theorem dX3_at_14 : decode cX3_at 14 = .ok (.iload_n 2, 1) := by decide +kernel
theorem dX3_at_15 : decode cX3_at 15 = .ok (.bipush 24, 2) := by decide +kernel
theorem dX3_at_17 : decode cX3_at 17 = .ok (.if_icmp .lt 11, 3) := by decide +kernel
theorem dX3_at_20 : decode cX3_at 20 = .ok (.new 44, 3) := by decide +kernel
theorem dX3_at_23 : decode cX3_at 23 = .ok (.dup, 1) := by decide +kernel
theorem dX3_at_24 : decode cX3_at 24 = .ok (.invokespecial 46, 3) := by decide +kernel
theorem dX3_at_27 : decode cX3_at 27 = .ok (.athrow, 1) := by decide +kernel
theorem dX3_at_28 : decode cX3_at 28 = .ok (.aload_n 0, 1) := by decide +kernel
theorem dX3_at_29 : decode cX3_at 29 = .ok (.getfield 12, 3) := by decide +kernel
theorem dX3_at_32 : decode cX3_at 32 = .ok (.iload_n 1, 1) := by decide +kernel
theorem dX3_at_33 : decode cX3_at 33 = .ok (.iload_n 2, 1) := by decide +kernel
theorem dX3_at_34 : decode cX3_at 34 = .ok (.invokevirtual 127, 3) := by decide +kernel
theorem dX3_at_37 : decode cX3_at 37 = .ok (.ireturn, 1) := by decide +kernel
theorem dX3_reads_0 : decode cX3_reads 0 = .ok (.iload_n 1, 1) := by decide +kernel
theorem dX3_reads_1 : decode cX3_reads 1 = .ok (.ifCond .ge 11, 3) := by decide +kernel
theorem dX3_reads_4 : decode cX3_reads 4 = .ok (.new 44, 3) := by decide +kernel
theorem dX3_reads_7 : decode cX3_reads 7 = .ok (.dup, 1) := by decide +kernel
theorem dX3_reads_8 : decode cX3_reads 8 = .ok (.invokespecial 46, 3) := by decide +kernel
theorem dX3_reads_11 : decode cX3_reads 11 = .ok (.athrow, 1) := by decide +kernel
theorem dX3_reads_12 : decode cX3_reads 12 = .ok (.aload_n 0, 1) := by decide +kernel
theorem dX3_reads_13 : decode cX3_reads 13 = .ok (.getfield 12, 3) := by decide +kernel
theorem dX3_reads_16 : decode cX3_reads 16 = .ok (.iload_n 1, 1) := by decide +kernel
theorem dX3_reads_17 : decode cX3_reads 17 = .ok (.invokevirtual 130, 3) := by decide +kernel
theorem dX3_reads_20 : decode cX3_reads 20 = .ok (.ireturn, 1) := by decide +kernel
theorem dX3_count_0 : decode cX3_count 0 = .ok (.iload_n 1, 1) := by decide +kernel
theorem dX3_count_1 : decode cX3_count 1 = .ok (.ifCond .lt 9, 3) := by decide +kernel
theorem dX3_count_4 : decode cX3_count 4 = .ok (.iload_n 1, 1) := by decide +kernel
theorem dX3_count_5 : decode cX3_count 5 = .ok (.bipush 11, 2) := by decide +kernel
theorem dX3_count_7 : decode cX3_count 7 = .ok (.if_icmp .le 11, 3) := by decide +kernel
theorem dX3_count_10 : decode cX3_count 10 = .ok (.new 44, 3) := by decide +kernel
theorem dX3_count_13 : decode cX3_count 13 = .ok (.dup, 1) := by decide +kernel
theorem dX3_count_14 : decode cX3_count 14 = .ok (.invokespecial 46, 3) := by decide +kernel
theorem dX3_count_17 : decode cX3_count 17 = .ok (.athrow, 1) := by decide +kernel
theorem dX3_count_18 : decode cX3_count 18 = .ok (.iload_n 1, 1) := by decide +kernel
theorem dX3_count_19 : decode cX3_count 19 = .ok (.bipush 11, 2) := by decide +kernel
theorem dX3_count_21 : decode cX3_count 21 = .ok (.if_icmp .ne 13, 3) := by decide +kernel
theorem dX3_count_24 : decode cX3_count 24 = .ok (.aload_n 0, 1) := by decide +kernel
theorem dX3_count_25 : decode cX3_count 25 = .ok (.getfield 22, 3) := by decide +kernel
theorem dX3_count_28 : decode cX3_count 28 = .ok (.getfield 117, 3) := by decide +kernel
theorem dX3_count_31 : decode cX3_count 31 = .ok (.goto 11, 3) := by decide +kernel
theorem dX3_count_34 : decode cX3_count 34 = .ok (.aload_n 0, 1) := by decide +kernel
theorem dX3_count_35 : decode cX3_count 35 = .ok (.getfield 12, 3) := by decide +kernel
theorem dX3_count_38 : decode cX3_count 38 = .ok (.iload_n 1, 1) := by decide +kernel
theorem dX3_count_39 : decode cX3_count 39 = .ok (.invokevirtual 133, 3) := by decide +kernel
theorem dX3_count_42 : decode cX3_count 42 = .ok (.ireturn, 1) := by decide +kernel
theorem dX3_untilRest_0 : decode cX3_untilRest 0 = .ok (.aload_n 0, 1) := by decide +kernel
theorem dX3_untilRest_1 : decode cX3_untilRest 1 = .ok (.getfield 16, 3) := by decide +kernel
theorem dX3_untilRest_4 : decode cX3_untilRest 4 = .ok (.aload_n 0, 1) := by decide +kernel
theorem dX3_untilRest_5 : decode cX3_untilRest 5 = .ok (.getfield 12, 3) := by decide +kernel
theorem dX3_untilRest_8 : decode cX3_untilRest 8 = .ok (.invokevirtual 136, 3) := by decide +kernel
theorem dX3_untilRest_11 : decode cX3_untilRest 11 = .ok (.aload_n 0, 1) := by decide +kernel
theorem dX3_untilRest_12 : decode cX3_untilRest 12 = .ok (.getfield 16, 3) := by decide +kernel
theorem dX3_untilRest_15 : decode cX3_untilRest 15 = .ok (.invokevirtual 139, 3) := by decide +kernel
theorem dX3_untilRest_18 : decode cX3_untilRest 18 = .ok (.ireturn, 1) := by decide +kernel
theorem dX3_ifDropped_0 : decode cX3_ifDropped 0 = .ok (.iload_n 1, 1) := by decide +kernel
theorem dX3_ifDropped_1 : decode cX3_ifDropped 1 = .ok (.iload_n 2, 1) := by decide +kernel
theorem dX3_ifDropped_2 : decode cX3_ifDropped 2 = .ok (.iload_n 3, 1) := by decide +kernel
theorem dX3_ifDropped_3 : decode cX3_ifDropped 3 = .ok (.invokestatic 33, 3) := by decide +kernel
theorem dX3_ifDropped_6 : decode cX3_ifDropped 6 = .ok (.ifCond .eq 14, 3) := by decide +kernel
theorem dX3_ifDropped_9 : decode cX3_ifDropped 9 = .ok (.iload 4, 2) := by decide +kernel
theorem dX3_ifDropped_11 : decode cX3_ifDropped 11 = .ok (.ifCond .lt 9, 3) := by decide +kernel
theorem dX3_ifDropped_14 : decode cX3_ifDropped 14 = .ok (.iload 4, 2) := by decide +kernel
theorem dX3_ifDropped_16 : decode cX3_ifDropped 16 = .ok (.iconst 2, 1) := by decide +kernel
theorem dX3_ifDropped_17 : decode cX3_ifDropped 17 = .ok (.if_icmp .le 11, 3) := by decide +kernel
theorem dX3_ifDropped_20 : decode cX3_ifDropped 20 = .ok (.new 44, 3) := by decide +kernel
theorem dX3_ifDropped_23 : decode cX3_ifDropped 23 = .ok (.dup, 1) := by decide +kernel
theorem dX3_ifDropped_24 : decode cX3_ifDropped 24 = .ok (.invokespecial 46, 3) := by decide +kernel
theorem dX3_ifDropped_27 : decode cX3_ifDropped 27 = .ok (.athrow, 1) := by decide +kernel
theorem dX3_ifDropped_28 : decode cX3_ifDropped 28 = .ok (.aload_n 0, 1) := by decide +kernel
theorem dX3_ifDropped_29 : decode cX3_ifDropped 29 = .ok (.iload_n 1, 1) := by decide +kernel
theorem dX3_ifDropped_30 : decode cX3_ifDropped 30 = .ok (.iload_n 2, 1) := by decide +kernel
theorem dX3_ifDropped_31 : decode cX3_ifDropped 31 = .ok (.iload_n 3, 1) := by decide +kernel
theorem dX3_ifDropped_32 : decode cX3_ifDropped 32 = .ok (.invokevirtual 142, 3) := by decide +kernel
theorem dX3_ifDropped_35 : decode cX3_ifDropped 35 = .ok (.istore 5, 2) := by decide +kernel
theorem dX3_ifDropped_37 : decode cX3_ifDropped 37 = .ok (.aload_n 0, 1) := by decide +kernel
theorem dX3_ifDropped_38 : decode cX3_ifDropped 38 = .ok (.getfield 16, 3) := by decide +kernel
theorem dX3_ifDropped_41 : decode cX3_ifDropped 41 = .ok (.invokevirtual 139, 3) := by decide +kernel
theorem dX3_ifDropped_44 : decode cX3_ifDropped 44 = .ok (.istore 6, 2) := by decide +kernel
theorem dX3_ifDropped_46 : decode cX3_ifDropped 46 = .ok (.iload 4, 2) := by decide +kernel
theorem dX3_ifDropped_48 : decode cX3_ifDropped 48 = .ok (.iconst 2, 1) := by decide +kernel
theorem dX3_ifDropped_49 : decode cX3_ifDropped 49 = .ok (.if_icmp .ne 19, 3) := by decide +kernel
theorem dX3_ifDropped_52 : decode cX3_ifDropped 52 = .ok (.aload_n 0, 1) := by decide +kernel
theorem dX3_ifDropped_53 : decode cX3_ifDropped 53 = .ok (.getfield 16, 3) := by decide +kernel
theorem dX3_ifDropped_56 : decode cX3_ifDropped 56 = .ok (.getfield 65, 3) := by decide +kernel
theorem dX3_ifDropped_59 : decode cX3_ifDropped 59 = .ok (.aload_n 0, 1) := by decide +kernel
theorem dX3_ifDropped_60 : decode cX3_ifDropped 60 = .ok (.getfield 12, 3) := by decide +kernel
theorem dX3_ifDropped_63 : decode cX3_ifDropped 63 = .ok (.getfield 65, 3) := by decide +kernel
theorem dX3_ifDropped_66 : decode cX3_ifDropped 66 = .ok (.isub, 1) := by decide +kernel
theorem dX3_ifDropped_67 : decode cX3_ifDropped 67 = .ok (.ireturn, 1) := by decide +kernel
theorem dX3_ifDropped_68 : decode cX3_ifDropped 68 = .ok (.iload 6, 2) := by decide +kernel
end
section
theorem dX3_ifDropped_70 : decode cX3_ifDropped 70 = .ok (.iconst (-1), 1) := by decide +kernel
theorem dX3_ifDropped_71 : decode cX3_ifDropped 71 = .ok (.if_icmp .eq 15, 3) := by decide +kernel
theorem dX3_ifDropped_74 : decode cX3_ifDropped 74 = .ok (.aload_n 0, 1) := by decide +kernel
theorem dX3_ifDropped_75 : decode cX3_ifDropped 75 = .ok (.getfield 16, 3) := by decide +kernel
theorem dX3_ifDropped_78 : decode cX3_ifDropped 78 = .ok (.iload 5, 2) := by decide +kernel
theorem dX3_ifDropped_80 : decode cX3_ifDropped 80 = .ok (.invokevirtual 146, 3) := by decide +kernel
theorem dX3_ifDropped_83 : decode cX3_ifDropped 83 = .ok (.ifCond .ne 5, 3) := by decide +kernel
theorem dX3_ifDropped_86 : decode cX3_ifDropped 86 = .ok (.iconst (-1), 1) := by decide +kernel
theorem dX3_ifDropped_87 : decode cX3_ifDropped 87 = .ok (.ireturn, 1) := by decide +kernel
theorem dX3_ifDropped_88 : decode cX3_ifDropped 88 = .ok (.iload 4, 2) := by decide +kernel
theorem dX3_ifDropped_90 : decode cX3_ifDropped 90 = .ok (.ifCond .ne 16, 3) := by decide +kernel
theorem dX3_ifDropped_93 : decode cX3_ifDropped 93 = .ok (.aload_n 0, 1) := by decide +kernel
theorem dX3_ifDropped_94 : decode cX3_ifDropped 94 = .ok (.getfield 16, 3) := by decide +kernel
theorem dX3_ifDropped_97 : decode cX3_ifDropped 97 = .ok (.getfield 149, 3) := by decide +kernel
theorem dX3_ifDropped_100 : decode cX3_ifDropped 100 = .ok (.iload 5, 2) := by decide +kernel
theorem dX3_ifDropped_102 : decode cX3_ifDropped 102 = .ok (.iaload, 1) := by decide +kernel
theorem dX3_ifDropped_103 : decode cX3_ifDropped 103 = .ok (.goto 13, 3) := by decide +kernel
theorem dX3_ifDropped_106 : decode cX3_ifDropped 106 = .ok (.aload_n 0, 1) := by decide +kernel
theorem dX3_ifDropped_107 : decode cX3_ifDropped 107 = .ok (.getfield 16, 3) := by decide +kernel
theorem dX3_ifDropped_110 : decode cX3_ifDropped 110 = .ok (.getfield 89, 3) := by decide +kernel
theorem dX3_ifDropped_113 : decode cX3_ifDropped 113 = .ok (.iload 5, 2) := by decide +kernel
theorem dX3_ifDropped_115 : decode cX3_ifDropped 115 = .ok (.iaload, 1) := by decide +kernel
theorem dX3_ifDropped_116 : decode cX3_ifDropped 116 = .ok (.ireturn, 1) := by decide +kernel
theorem dX3_bestColumn_0 : decode cX3_bestColumn 0 = .ok (.iload_n 1, 1) := by decide +kernel
theorem dX3_bestColumn_1 : decode cX3_bestColumn 1 = .ok (.invokestatic 152, 3) := by decide +kernel
theorem dX3_bestColumn_4 : decode cX3_bestColumn 4 = .ok (.ifCond .eq 10, 3) := by decide +kernel
theorem dX3_bestColumn_7 : decode cX3_bestColumn 7 = .ok (.iload_n 2, 1) := by decide +kernel
theorem dX3_bestColumn_8 : decode cX3_bestColumn 8 = .ok (.invokestatic 155, 3) := by decide +kernel
theorem dX3_bestColumn_11 : decode cX3_bestColumn 11 = .ok (.ifCond .ne 11, 3) := by decide +kernel
theorem dX3_bestColumn_14 : decode cX3_bestColumn 14 = .ok (.new 44, 3) := by decide +kernel
theorem dX3_bestColumn_17 : decode cX3_bestColumn 17 = .ok (.dup, 1) := by decide +kernel
theorem dX3_bestColumn_18 : decode cX3_bestColumn 18 = .ok (.invokespecial 46, 3) := by decide +kernel
theorem dX3_bestColumn_21 : decode cX3_bestColumn 21 = .ok (.athrow, 1) := by decide +kernel
theorem dX3_bestColumn_22 : decode cX3_bestColumn 22 = .ok (.iconst (-1), 1) := by decide +kernel
theorem dX3_bestColumn_23 : decode cX3_bestColumn 23 = .ok (.istore_n 3, 1) := by decide +kernel
theorem dX3_bestColumn_24 : decode cX3_bestColumn 24 = .ok (.iconst (-1), 1) := by decide +kernel
theorem dX3_bestColumn_25 : decode cX3_bestColumn 25 = .ok (.istore 4, 2) := by decide +kernel
theorem dX3_bestColumn_27 : decode cX3_bestColumn 27 = .ok (.iconst 0, 1) := by decide +kernel
theorem dX3_bestColumn_28 : decode cX3_bestColumn 28 = .ok (.istore 5, 2) := by decide +kernel
theorem dX3_bestColumn_30 : decode cX3_bestColumn 30 = .ok (.iconst 0, 1) := by decide +kernel
theorem dX3_bestColumn_31 : decode cX3_bestColumn 31 = .ok (.istore 6, 2) := by decide +kernel
theorem dX3_bestColumn_33 : decode cX3_bestColumn 33 = .ok (.iload 6, 2) := by decide +kernel
theorem dX3_bestColumn_35 : decode cX3_bestColumn 35 = .ok (.iload_n 1, 1) := by decide +kernel
theorem dX3_bestColumn_36 : decode cX3_bestColumn 36 = .ok (.iadd, 1) := by decide +kernel
theorem dX3_bestColumn_37 : decode cX3_bestColumn 37 = .ok (.bipush 24, 2) := by decide +kernel
theorem dX3_bestColumn_39 : decode cX3_bestColumn 39 = .ok (.if_icmp .gt 106, 3) := by decide +kernel
theorem dX3_bestColumn_42 : decode cX3_bestColumn 42 = .ok (.aload_n 0, 1) := by decide +kernel
theorem dX3_bestColumn_43 : decode cX3_bestColumn 43 = .ok (.iload_n 1, 1) := by decide +kernel
theorem dX3_bestColumn_44 : decode cX3_bestColumn 44 = .ok (.iload_n 2, 1) := by decide +kernel
theorem dX3_bestColumn_45 : decode cX3_bestColumn 45 = .ok (.iload 6, 2) := by decide +kernel
theorem dX3_bestColumn_47 : decode cX3_bestColumn 47 = .ok (.invokevirtual 142, 3) := by decide +kernel
theorem dX3_bestColumn_50 : decode cX3_bestColumn 50 = .ok (.istore 7, 2) := by decide +kernel
theorem dX3_bestColumn_52 : decode cX3_bestColumn 52 = .ok (.aload_n 0, 1) := by decide +kernel
theorem dX3_bestColumn_53 : decode cX3_bestColumn 53 = .ok (.getfield 16, 3) := by decide +kernel
theorem dX3_bestColumn_56 : decode cX3_bestColumn 56 = .ok (.invokevirtual 139, 3) := by decide +kernel
theorem dX3_bestColumn_59 : decode cX3_bestColumn 59 = .ok (.iconst (-1), 1) := by decide +kernel
theorem dX3_bestColumn_60 : decode cX3_bestColumn 60 = .ok (.if_icmp .eq 79, 3) := by decide +kernel
theorem dX3_bestColumn_63 : decode cX3_bestColumn 63 = .ok (.aload_n 0, 1) := by decide +kernel
theorem dX3_bestColumn_64 : decode cX3_bestColumn 64 = .ok (.getfield 16, 3) := by decide +kernel
theorem dX3_bestColumn_67 : decode cX3_bestColumn 67 = .ok (.iload 7, 2) := by decide +kernel
theorem dX3_bestColumn_69 : decode cX3_bestColumn 69 = .ok (.invokevirtual 146, 3) := by decide +kernel
theorem dX3_bestColumn_72 : decode cX3_bestColumn 72 = .ok (.ifCond .ne 6, 3) := by decide +kernel
theorem dX3_bestColumn_75 : decode cX3_bestColumn 75 = .ok (.goto 64, 3) := by decide +kernel
theorem dX3_bestColumn_78 : decode cX3_bestColumn 78 = .ok (.aload_n 0, 1) := by decide +kernel
theorem dX3_bestColumn_79 : decode cX3_bestColumn 79 = .ok (.getfield 16, 3) := by decide +kernel
theorem dX3_bestColumn_82 : decode cX3_bestColumn 82 = .ok (.getfield 149, 3) := by decide +kernel
theorem dX3_bestColumn_85 : decode cX3_bestColumn 85 = .ok (.iload 7, 2) := by decide +kernel
theorem dX3_bestColumn_87 : decode cX3_bestColumn 87 = .ok (.iaload, 1) := by decide +kernel
theorem dX3_bestColumn_88 : decode cX3_bestColumn 88 = .ok (.istore 8, 2) := by decide +kernel
theorem dX3_bestColumn_90 : decode cX3_bestColumn 90 = .ok (.aload_n 0, 1) := by decide +kernel
theorem dX3_bestColumn_91 : decode cX3_bestColumn 91 = .ok (.getfield 16, 3) := by decide +kernel
theorem dX3_bestColumn_94 : decode cX3_bestColumn 94 = .ok (.getfield 65, 3) := by decide +kernel
theorem dX3_bestColumn_97 : decode cX3_bestColumn 97 = .ok (.aload_n 0, 1) := by decide +kernel
theorem dX3_bestColumn_98 : decode cX3_bestColumn 98 = .ok (.getfield 12, 3) := by decide +kernel
theorem dX3_bestColumn_101 : decode cX3_bestColumn 101 = .ok (.getfield 65, 3) := by decide +kernel
theorem dX3_bestColumn_104 : decode cX3_bestColumn 104 = .ok (.isub, 1) := by decide +kernel
theorem dX3_bestColumn_105 : decode cX3_bestColumn 105 = .ok (.istore 9, 2) := by decide +kernel
theorem dX3_bestColumn_107 : decode cX3_bestColumn 107 = .ok (.iload 8, 2) := by decide +kernel
theorem dX3_bestColumn_109 : decode cX3_bestColumn 109 = .ok (.iload 4, 2) := by decide +kernel
theorem dX3_bestColumn_111 : decode cX3_bestColumn 111 = .ok (.if_icmp .gt 17, 3) := by decide +kernel
theorem dX3_bestColumn_114 : decode cX3_bestColumn 114 = .ok (.iload 8, 2) := by decide +kernel
theorem dX3_bestColumn_116 : decode cX3_bestColumn 116 = .ok (.iload 4, 2) := by decide +kernel
theorem dX3_bestColumn_118 : decode cX3_bestColumn 118 = .ok (.if_icmp .ne 21, 3) := by decide +kernel
theorem dX3_bestColumn_121 : decode cX3_bestColumn 121 = .ok (.iload 9, 2) := by decide +kernel
theorem dX3_bestColumn_123 : decode cX3_bestColumn 123 = .ok (.iload 5, 2) := by decide +kernel
theorem dX3_bestColumn_125 : decode cX3_bestColumn 125 = .ok (.if_icmp .ge 14, 3) := by decide +kernel
theorem dX3_bestColumn_128 : decode cX3_bestColumn 128 = .ok (.iload 6, 2) := by decide +kernel
theorem dX3_bestColumn_130 : decode cX3_bestColumn 130 = .ok (.istore_n 3, 1) := by decide +kernel
theorem dX3_bestColumn_131 : decode cX3_bestColumn 131 = .ok (.iload 8, 2) := by decide +kernel
theorem dX3_bestColumn_133 : decode cX3_bestColumn 133 = .ok (.istore 4, 2) := by decide +kernel
theorem dX3_bestColumn_135 : decode cX3_bestColumn 135 = .ok (.iload 9, 2) := by decide +kernel
theorem dX3_bestColumn_137 : decode cX3_bestColumn 137 = .ok (.istore 5, 2) := by decide +kernel
theorem dX3_bestColumn_139 : decode cX3_bestColumn 139 = .ok (.iinc 6 1, 3) := by decide +kernel
theorem dX3_bestColumn_142 : decode cX3_bestColumn 142 = .ok (.goto (-109), 3) := by decide +kernel
theorem dX3_bestColumn_145 : decode cX3_bestColumn 145 = .ok (.iload_n 3, 1) := by decide +kernel
theorem dX3_bestColumn_146 : decode cX3_bestColumn 146 = .ok (.ireturn, 1) := by decide +kernel
theorem dX3_ifReset_0 : decode cX3_ifReset 0 = .ok (.iload_n 1, 1) := by decide +kernel
theorem dX3_ifReset_1 : decode cX3_ifReset 1 = .ok (.invokestatic 37, 3) := by decide +kernel
theorem dX3_ifReset_4 : decode cX3_ifReset 4 = .ok (.ifCond .ne 11, 3) := by decide +kernel
theorem dX3_ifReset_7 : decode cX3_ifReset 7 = .ok (.new 44, 3) := by decide +kernel
theorem dX3_ifReset_10 : decode cX3_ifReset 10 = .ok (.dup, 1) := by decide +kernel
theorem dX3_ifReset_11 : decode cX3_ifReset 11 = .ok (.invokespecial 46, 3) := by decide +kernel
theorem dX3_ifReset_14 : decode cX3_ifReset 14 = .ok (.athrow, 1) := by decide +kernel
theorem dX3_ifReset_15 : decode cX3_ifReset 15 = .ok (.aload_n 0, 1) := by decide +kernel
theorem dX3_ifReset_16 : decode cX3_ifReset 16 = .ok (.getfield 16, 3) := by decide +kernel
theorem dX3_ifReset_19 : decode cX3_ifReset 19 = .ok (.aload_n 0, 1) := by decide +kernel
theorem dX3_ifReset_20 : decode cX3_ifReset 20 = .ok (.getfield 12, 3) := by decide +kernel
theorem dX3_ifReset_23 : decode cX3_ifReset 23 = .ok (.invokevirtual 136, 3) := by decide +kernel
theorem dX3_ifReset_26 : decode cX3_ifReset 26 = .ok (.aload_n 0, 1) := by decide +kernel
theorem dX3_ifReset_27 : decode cX3_ifReset 27 = .ok (.getfield 16, 3) := by decide +kernel
theorem dX3_ifReset_30 : decode cX3_ifReset 30 = .ok (.iload_n 1, 1) := by decide +kernel
theorem dX3_ifReset_31 : decode cX3_ifReset 31 = .ok (.invokevirtual 71, 3) := by decide +kernel
theorem dX3_ifReset_34 : decode cX3_ifReset 34 = .ok (.pop, 1) := by decide +kernel
theorem dX3_ifReset_35 : decode cX3_ifReset 35 = .ok (.aload_n 0, 1) := by decide +kernel
theorem dX3_ifReset_36 : decode cX3_ifReset 36 = .ok (.getfield 16, 3) := by decide +kernel
theorem dX3_ifReset_39 : decode cX3_ifReset 39 = .ok (.invokevirtual 139, 3) := by decide +kernel
theorem dX3_ifReset_42 : decode cX3_ifReset 42 = .ok (.iconst (-1), 1) := by decide +kernel
theorem dX3_ifReset_43 : decode cX3_ifReset 43 = .ok (.if_icmp .ne 5, 3) := by decide +kernel
theorem dX3_ifReset_46 : decode cX3_ifReset 46 = .ok (.iconst (-1), 1) := by decide +kernel
theorem dX3_ifReset_47 : decode cX3_ifReset 47 = .ok (.ireturn, 1) := by decide +kernel
theorem dX3_ifReset_48 : decode cX3_ifReset 48 = .ok (.iconst 0, 1) := by decide +kernel
theorem dX3_ifReset_49 : decode cX3_ifReset 49 = .ok (.istore_n 2, 1) := by decide +kernel
theorem dX3_ifReset_50 : decode cX3_ifReset 50 = .ok (.iconst 0, 1) := by decide +kernel
theorem dX3_ifReset_51 : decode cX3_ifReset 51 = .ok (.istore_n 3, 1) := by decide +kernel
theorem dX3_ifReset_52 : decode cX3_ifReset 52 = .ok (.iload_n 3, 1) := by decide +kernel
theorem dX3_ifReset_53 : decode cX3_ifReset 53 = .ok (.aload_n 0, 1) := by decide +kernel
theorem dX3_ifReset_54 : decode cX3_ifReset 54 = .ok (.getfield 12, 3) := by decide +kernel
theorem dX3_ifReset_57 : decode cX3_ifReset 57 = .ok (.getfield 47, 3) := by decide +kernel
theorem dX3_ifReset_60 : decode cX3_ifReset 60 = .ok (.if_icmp .ge 80, 3) := by decide +kernel
theorem dX3_ifReset_63 : decode cX3_ifReset 63 = .ok (.aload_n 0, 1) := by decide +kernel
theorem dX3_ifReset_64 : decode cX3_ifReset 64 = .ok (.getfield 12, 3) := by decide +kernel
theorem dX3_ifReset_67 : decode cX3_ifReset 67 = .ok (.iload_n 3, 1) := by decide +kernel
theorem dX3_ifReset_68 : decode cX3_ifReset 68 = .ok (.invokevirtual 146, 3) := by decide +kernel
theorem dX3_ifReset_71 : decode cX3_ifReset 71 = .ok (.ifCond .eq 20, 3) := by decide +kernel
theorem dX3_ifReset_74 : decode cX3_ifReset 74 = .ok (.aload_n 0, 1) := by decide +kernel
theorem dX3_ifReset_75 : decode cX3_ifReset 75 = .ok (.getfield 12, 3) := by decide +kernel
theorem dX3_ifReset_78 : decode cX3_ifReset 78 = .ok (.getfield 158, 3) := by decide +kernel
theorem dX3_ifReset_81 : decode cX3_ifReset 81 = .ok (.iload_n 3, 1) := by decide +kernel
theorem dX3_ifReset_82 : decode cX3_ifReset 82 = .ok (.iaload, 1) := by decide +kernel
theorem dX3_ifReset_83 : decode cX3_ifReset 83 = .ok (.iload_n 1, 1) := by decide +kernel
theorem dX3_ifReset_84 : decode cX3_ifReset 84 = .ok (.if_icmp .eq 7, 3) := by decide +kernel
theorem dX3_ifReset_87 : decode cX3_ifReset 87 = .ok (.iconst 1, 1) := by decide +kernel
theorem dX3_ifReset_88 : decode cX3_ifReset 88 = .ok (.goto 4, 3) := by decide +kernel
theorem dX3_ifReset_91 : decode cX3_ifReset 91 = .ok (.iconst 0, 1) := by decide +kernel
theorem dX3_ifReset_92 : decode cX3_ifReset 92 = .ok (.istore 4, 2) := by decide +kernel
theorem dX3_ifReset_94 : decode cX3_ifReset 94 = .ok (.iload 4, 2) := by decide +kernel
theorem dX3_ifReset_96 : decode cX3_ifReset 96 = .ok (.ifCond .eq 38, 3) := by decide +kernel
theorem dX3_ifReset_99 : decode cX3_ifReset 99 = .ok (.aload_n 0, 1) := by decide +kernel
theorem dX3_ifReset_100 : decode cX3_ifReset 100 = .ok (.getfield 16, 3) := by decide +kernel
theorem dX3_ifReset_103 : decode cX3_ifReset 103 = .ok (.iload_n 3, 1) := by decide +kernel
theorem dX3_ifReset_104 : decode cX3_ifReset 104 = .ok (.invokevirtual 146, 3) := by decide +kernel
theorem dX3_ifReset_107 : decode cX3_ifReset 107 = .ok (.ifCond .eq 24, 3) := by decide +kernel
theorem dX3_ifReset_110 : decode cX3_ifReset 110 = .ok (.aload_n 0, 1) := by decide +kernel
theorem dX3_ifReset_111 : decode cX3_ifReset 111 = .ok (.getfield 16, 3) := by decide +kernel
theorem dX3_ifReset_114 : decode cX3_ifReset 114 = .ok (.getfield 149, 3) := by decide +kernel
theorem dX3_ifReset_117 : decode cX3_ifReset 117 = .ok (.iload_n 3, 1) := by decide +kernel
theorem dX3_ifReset_118 : decode cX3_ifReset 118 = .ok (.iaload, 1) := by decide +kernel
theorem dX3_ifReset_119 : decode cX3_ifReset 119 = .ok (.aload_n 0, 1) := by decide +kernel
theorem dX3_ifReset_120 : decode cX3_ifReset 120 = .ok (.getfield 12, 3) := by decide +kernel
theorem dX3_ifReset_123 : decode cX3_ifReset 123 = .ok (.getfield 149, 3) := by decide +kernel
theorem dX3_ifReset_126 : decode cX3_ifReset 126 = .ok (.iload_n 3, 1) := by decide +kernel
theorem dX3_ifReset_127 : decode cX3_ifReset 127 = .ok (.iaload, 1) := by decide +kernel
theorem dX3_ifReset_128 : decode cX3_ifReset 128 = .ok (.if_icmp .le 6, 3) := by decide +kernel
theorem dX3_ifReset_131 : decode cX3_ifReset 131 = .ok (.iinc 2 1, 3) := by decide +kernel
theorem dX3_ifReset_134 : decode cX3_ifReset 134 = .ok (.iinc 3 1, 3) := by decide +kernel
theorem dX3_ifReset_137 : decode cX3_ifReset 137 = .ok (.goto (-85), 3) := by decide +kernel
theorem dX3_ifReset_140 : decode cX3_ifReset 140 = .ok (.iload_n 2, 1) := by decide +kernel
theorem dX3_ifReset_141 : decode cX3_ifReset 141 = .ok (.ireturn, 1) := by decide +kernel
theorem dX3_fullness_0 : decode cX3_fullness 0 = .ok (.aload_n 0, 1) := by decide +kernel
theorem dX3_fullness_1 : decode cX3_fullness 1 = .ok (.getfield 12, 3) := by decide +kernel
theorem dX3_fullness_4 : decode cX3_fullness 4 = .ok (.invokevirtual 161, 3) := by decide +kernel
theorem dX3_fullness_7 : decode cX3_fullness 7 = .ok (.i2d, 1) := by decide +kernel
theorem dX3_fullness_8 : decode cX3_fullness 8 = .ok (.ldc2_w 164, 3) := by decide +kernel
theorem dX3_fullness_11 : decode cX3_fullness 11 = .ok (.ddiv, 1) := by decide +kernel
theorem dX3_fullness_12 : decode cX3_fullness 12 = .ok (.dreturn, 1) := by decide +kernel
theorem dX3_digest_0 : decode cX3_digest 0 = .ok (.aload_n 0, 1) := by decide +kernel
theorem dX3_digest_1 : decode cX3_digest 1 = .ok (.ldc2_w 166, 3) := by decide +kernel
theorem dX3_digest_4 : decode cX3_digest 4 = .ok (.invokevirtual 168, 3) := by decide +kernel
theorem dX3_digest_7 : decode cX3_digest 7 = .ok (.lstore_n 1, 1) := by decide +kernel
theorem dX3_digest_8 : decode cX3_digest 8 = .ok (.ldc2_w 172, 3) := by decide +kernel
theorem dX3_digest_11 : decode cX3_digest 11 = .ok (.lload_n 1, 1) := by decide +kernel
theorem dX3_digest_12 : decode cX3_digest 12 = .ok (.lmul, 1) := by decide +kernel
theorem dX3_digest_13 : decode cX3_digest 13 = .ok (.aload_n 0, 1) := by decide +kernel
theorem dX3_digest_14 : decode cX3_digest 14 = .ok (.invokevirtual 174, 3) := by decide +kernel
theorem dX3_digest_17 : decode cX3_digest 17 = .ok (.i2l, 1) := by decide +kernel
theorem dX3_digest_18 : decode cX3_digest 18 = .ok (.ladd, 1) := by decide +kernel
theorem dX3_digest_19 : decode cX3_digest 19 = .ok (.lstore_n 1, 1) := by decide +kernel
theorem dX3_digest_20 : decode cX3_digest 20 = .ok (.iconst 0, 1) := by decide +kernel
theorem dX3_digest_21 : decode cX3_digest 21 = .ok (.istore_n 3, 1) := by decide +kernel
theorem dX3_digest_22 : decode cX3_digest 22 = .ok (.iload_n 3, 1) := by decide +kernel
theorem dX3_digest_23 : decode cX3_digest 23 = .ok (.iconst 2, 1) := by decide +kernel
theorem dX3_digest_24 : decode cX3_digest 24 = .ok (.if_icmp .gt 25, 3) := by decide +kernel
theorem dX3_digest_27 : decode cX3_digest 27 = .ok (.ldc2_w 172, 3) := by decide +kernel
theorem dX3_digest_30 : decode cX3_digest 30 = .ok (.lload_n 1, 1) := by decide +kernel
theorem dX3_digest_31 : decode cX3_digest 31 = .ok (.lmul, 1) := by decide +kernel
theorem dX3_digest_32 : decode cX3_digest 32 = .ok (.aload_n 0, 1) := by decide +kernel
theorem dX3_digest_33 : decode cX3_digest 33 = .ok (.iconst 5, 1) := by decide +kernel
theorem dX3_digest_34 : decode cX3_digest 34 = .ok (.iconst 3, 1) := by decide +kernel
theorem dX3_digest_35 : decode cX3_digest 35 = .ok (.iconst 4, 1) := by decide +kernel
theorem dX3_digest_36 : decode cX3_digest 36 = .ok (.iload_n 3, 1) := by decide +kernel
theorem dX3_digest_37 : decode cX3_digest 37 = .ok (.invokevirtual 177, 3) := by decide +kernel
theorem dX3_digest_40 : decode cX3_digest 40 = .ok (.i2l, 1) := by decide +kernel
theorem dX3_digest_41 : decode cX3_digest 41 = .ok (.ladd, 1) := by decide +kernel
theorem dX3_digest_42 : decode cX3_digest 42 = .ok (.lstore_n 1, 1) := by decide +kernel
theorem dX3_digest_43 : decode cX3_digest 43 = .ok (.iinc 3 1, 3) := by decide +kernel
theorem dX3_digest_46 : decode cX3_digest 46 = .ok (.goto (-24), 3) := by decide +kernel
theorem dX3_digest_49 : decode cX3_digest 49 = .ok (.ldc2_w 172, 3) := by decide +kernel
theorem dX3_digest_52 : decode cX3_digest 52 = .ok (.lload_n 1, 1) := by decide +kernel
theorem dX3_digest_53 : decode cX3_digest 53 = .ok (.lmul, 1) := by decide +kernel
theorem dX3_digest_54 : decode cX3_digest 54 = .ok (.aload_n 0, 1) := by decide +kernel
theorem dX3_digest_55 : decode cX3_digest 55 = .ok (.bipush 6, 2) := by decide +kernel
theorem dX3_digest_57 : decode cX3_digest 57 = .ok (.iconst 2, 1) := by decide +kernel
theorem dX3_digest_58 : decode cX3_digest 58 = .ok (.invokevirtual 181, 3) := by decide +kernel
theorem dX3_digest_61 : decode cX3_digest 61 = .ok (.i2l, 1) := by decide +kernel
theorem dX3_digest_62 : decode cX3_digest 62 = .ok (.ladd, 1) := by decide +kernel
theorem dX3_digest_63 : decode cX3_digest 63 = .ok (.lstore_n 1, 1) := by decide +kernel
theorem dX3_digest_64 : decode cX3_digest 64 = .ok (.iconst 0, 1) := by decide +kernel
theorem dX3_digest_65 : decode cX3_digest 65 = .ok (.istore_n 3, 1) := by decide +kernel
theorem dX3_digest_66 : decode cX3_digest 66 = .ok (.iload_n 3, 1) := by decide +kernel
theorem dX3_digest_67 : decode cX3_digest 67 = .ok (.iconst 3, 1) := by decide +kernel
theorem dX3_digest_68 : decode cX3_digest 68 = .ok (.if_icmp .gt 22, 3) := by decide +kernel
theorem dX3_digest_71 : decode cX3_digest 71 = .ok (.ldc2_w 172, 3) := by decide +kernel
theorem dX3_digest_74 : decode cX3_digest 74 = .ok (.lload_n 1, 1) := by decide +kernel
theorem dX3_digest_75 : decode cX3_digest 75 = .ok (.lmul, 1) := by decide +kernel
theorem dX3_digest_76 : decode cX3_digest 76 = .ok (.aload_n 0, 1) := by decide +kernel
theorem dX3_digest_77 : decode cX3_digest 77 = .ok (.iload_n 3, 1) := by decide +kernel
theorem dX3_digest_78 : decode cX3_digest 78 = .ok (.invokevirtual 184, 3) := by decide +kernel
theorem dX3_digest_81 : decode cX3_digest 81 = .ok (.i2l, 1) := by decide +kernel
theorem dX3_digest_82 : decode cX3_digest 82 = .ok (.ladd, 1) := by decide +kernel
theorem dX3_digest_83 : decode cX3_digest 83 = .ok (.lstore_n 1, 1) := by decide +kernel
theorem dX3_digest_84 : decode cX3_digest 84 = .ok (.iinc 3 1, 3) := by decide +kernel
theorem dX3_digest_87 : decode cX3_digest 87 = .ok (.goto (-21), 3) := by decide +kernel
theorem dX3_digest_90 : decode cX3_digest 90 = .ok (.ldc2_w 172, 3) := by decide +kernel
theorem dX3_digest_93 : decode cX3_digest 93 = .ok (.lload_n 1, 1) := by decide +kernel
theorem dX3_digest_94 : decode cX3_digest 94 = .ok (.lmul, 1) := by decide +kernel
theorem dX3_digest_95 : decode cX3_digest 95 = .ok (.aload_n 0, 1) := by decide +kernel
theorem dX3_digest_96 : decode cX3_digest 96 = .ok (.invokevirtual 187, 3) := by decide +kernel
theorem dX3_digest_99 : decode cX3_digest 99 = .ok (.invokestatic 191, 3) := by decide +kernel
theorem dX3_digest_102 : decode cX3_digest 102 = .ok (.ladd, 1) := by decide +kernel
theorem dX3_digest_103 : decode cX3_digest 103 = .ok (.lstore_n 1, 1) := by decide +kernel
theorem dX3_digest_104 : decode cX3_digest 104 = .ok (.ldc2_w 172, 3) := by decide +kernel
theorem dX3_digest_107 : decode cX3_digest 107 = .ok (.lload_n 1, 1) := by decide +kernel
theorem dX3_digest_108 : decode cX3_digest 108 = .ok (.lmul, 1) := by decide +kernel
theorem dX3_digest_109 : decode cX3_digest 109 = .ok (.aload_n 0, 1) := by decide +kernel
theorem dX3_digest_110 : decode cX3_digest 110 = .ok (.getfield 29, 3) := by decide +kernel
theorem dX3_digest_113 : decode cX3_digest 113 = .ok (.getfield 96, 3) := by decide +kernel
theorem dX3_digest_116 : decode cX3_digest 116 = .ok (.i2l, 1) := by decide +kernel
theorem dX3_digest_117 : decode cX3_digest 117 = .ok (.ladd, 1) := by decide +kernel
theorem dX3_digest_118 : decode cX3_digest 118 = .ok (.lstore_n 1, 1) := by decide +kernel
theorem dX3_digest_119 : decode cX3_digest 119 = .ok (.iconst 0, 1) := by decide +kernel
theorem dX3_digest_120 : decode cX3_digest 120 = .ok (.istore_n 3, 1) := by decide +kernel
theorem dX3_digest_121 : decode cX3_digest 121 = .ok (.iload_n 3, 1) := by decide +kernel
theorem dX3_digest_122 : decode cX3_digest 122 = .ok (.aload_n 0, 1) := by decide +kernel
theorem dX3_digest_123 : decode cX3_digest 123 = .ok (.getfield 29, 3) := by decide +kernel
theorem dX3_digest_126 : decode cX3_digest 126 = .ok (.getfield 96, 3) := by decide +kernel
theorem dX3_digest_129 : decode cX3_digest 129 = .ok (.if_icmp .ge 26, 3) := by decide +kernel
theorem dX3_digest_132 : decode cX3_digest 132 = .ok (.ldc2_w 172, 3) := by decide +kernel
theorem dX3_digest_135 : decode cX3_digest 135 = .ok (.lload_n 1, 1) := by decide +kernel
theorem dX3_digest_136 : decode cX3_digest 136 = .ok (.lmul, 1) := by decide +kernel
theorem dX3_digest_137 : decode cX3_digest 137 = .ok (.aload_n 0, 1) := by decide +kernel
theorem dX3_digest_138 : decode cX3_digest 138 = .ok (.getfield 29, 3) := by decide +kernel
theorem dX3_digest_141 : decode cX3_digest 141 = .ok (.getfield 195, 3) := by decide +kernel
theorem dX3_digest_144 : decode cX3_digest 144 = .ok (.iload_n 3, 1) := by decide +kernel
theorem dX3_digest_145 : decode cX3_digest 145 = .ok (.iaload, 1) := by decide +kernel
theorem dX3_digest_146 : decode cX3_digest 146 = .ok (.i2l, 1) := by decide +kernel
theorem dX3_digest_147 : decode cX3_digest 147 = .ok (.ladd, 1) := by decide +kernel
theorem dX3_digest_148 : decode cX3_digest 148 = .ok (.lstore_n 1, 1) := by decide +kernel
theorem dX3_digest_149 : decode cX3_digest 149 = .ok (.iinc 3 1, 3) := by decide +kernel
theorem dX3_digest_152 : decode cX3_digest 152 = .ok (.goto (-31), 3) := by decide +kernel
theorem dX3_digest_155 : decode cX3_digest 155 = .ok (.lload_n 1, 1) := by decide +kernel
theorem dX3_digest_156 : decode cX3_digest 156 = .ok (.lreturn, 1) := by decide +kernel
theorem dX3_hashOfLooks_0 : decode cX3_hashOfLooks 0 = .ok (.lload_n 1, 1) := by decide +kernel
theorem dX3_hashOfLooks_1 : decode cX3_hashOfLooks 1 = .ok (.lstore_n 3, 1) := by decide +kernel
theorem dX3_hashOfLooks_2 : decode cX3_hashOfLooks 2 = .ok (.iconst 0, 1) := by decide +kernel
theorem dX3_hashOfLooks_3 : decode cX3_hashOfLooks 3 = .ok (.istore 5, 2) := by decide +kernel
theorem dX3_hashOfLooks_5 : decode cX3_hashOfLooks 5 = .ok (.iload 5, 2) := by decide +kernel
theorem dX3_hashOfLooks_7 : decode cX3_hashOfLooks 7 = .ok (.bipush 11, 2) := by decide +kernel
theorem dX3_hashOfLooks_9 : decode cX3_hashOfLooks 9 = .ok (.if_icmp .ge 26, 3) := by decide +kernel
theorem dX3_hashOfLooks_12 : decode cX3_hashOfLooks 12 = .ok (.ldc2_w 172, 3) := by decide +kernel
theorem dX3_hashOfLooks_15 : decode cX3_hashOfLooks 15 = .ok (.lload_n 3, 1) := by decide +kernel
theorem dX3_hashOfLooks_16 : decode cX3_hashOfLooks 16 = .ok (.lmul, 1) := by decide +kernel
theorem dX3_hashOfLooks_17 : decode cX3_hashOfLooks 17 = .ok (.aload_n 0, 1) := by decide +kernel
theorem dX3_hashOfLooks_18 : decode cX3_hashOfLooks 18 = .ok (.getfield 12, 3) := by decide +kernel
theorem dX3_hashOfLooks_21 : decode cX3_hashOfLooks 21 = .ok (.iload 5, 2) := by decide +kernel
theorem dX3_hashOfLooks_23 : decode cX3_hashOfLooks 23 = .ok (.invokevirtual 133, 3) := by decide +kernel
theorem dX3_hashOfLooks_26 : decode cX3_hashOfLooks 26 = .ok (.i2l, 1) := by decide +kernel
theorem dX3_hashOfLooks_27 : decode cX3_hashOfLooks 27 = .ok (.ladd, 1) := by decide +kernel
theorem dX3_hashOfLooks_28 : decode cX3_hashOfLooks 28 = .ok (.lstore_n 3, 1) := by decide +kernel
theorem dX3_hashOfLooks_29 : decode cX3_hashOfLooks 29 = .ok (.iinc 5 1, 3) := by decide +kernel
theorem dX3_hashOfLooks_32 : decode cX3_hashOfLooks 32 = .ok (.goto (-27), 3) := by decide +kernel
theorem dX3_hashOfLooks_35 : decode cX3_hashOfLooks 35 = .ok (.ldc2_w 172, 3) := by decide +kernel
theorem dX3_hashOfLooks_38 : decode cX3_hashOfLooks 38 = .ok (.lload_n 3, 1) := by decide +kernel
theorem dX3_hashOfLooks_39 : decode cX3_hashOfLooks 39 = .ok (.lmul, 1) := by decide +kernel
theorem dX3_hashOfLooks_40 : decode cX3_hashOfLooks 40 = .ok (.aload_n 0, 1) := by decide +kernel
theorem dX3_hashOfLooks_41 : decode cX3_hashOfLooks 41 = .ok (.getfield 22, 3) := by decide +kernel
theorem dX3_hashOfLooks_44 : decode cX3_hashOfLooks 44 = .ok (.getfield 117, 3) := by decide +kernel
theorem dX3_hashOfLooks_47 : decode cX3_hashOfLooks 47 = .ok (.i2l, 1) := by decide +kernel
theorem dX3_hashOfLooks_48 : decode cX3_hashOfLooks 48 = .ok (.ladd, 1) := by decide +kernel
theorem dX3_hashOfLooks_49 : decode cX3_hashOfLooks 49 = .ok (.lstore_n 3, 1) := by decide +kernel
theorem dX3_hashOfLooks_50 : decode cX3_hashOfLooks 50 = .ok (.ldc2_w 172, 3) := by decide +kernel
theorem dX3_hashOfLooks_53 : decode cX3_hashOfLooks 53 = .ok (.lload_n 3, 1) := by decide +kernel
theorem dX3_hashOfLooks_54 : decode cX3_hashOfLooks 54 = .ok (.lmul, 1) := by decide +kernel
theorem dX3_hashOfLooks_55 : decode cX3_hashOfLooks 55 = .ok (.aload_n 0, 1) := by decide +kernel
theorem dX3_hashOfLooks_56 : decode cX3_hashOfLooks 56 = .ok (.getfield 12, 3) := by decide +kernel
theorem dX3_hashOfLooks_59 : decode cX3_hashOfLooks 59 = .ok (.getfield 93, 3) := by decide +kernel
theorem dX3_hashOfLooks_62 : decode cX3_hashOfLooks 62 = .ok (.i2l, 1) := by decide +kernel
theorem dX3_hashOfLooks_63 : decode cX3_hashOfLooks 63 = .ok (.ladd, 1) := by decide +kernel
theorem dX3_hashOfLooks_64 : decode cX3_hashOfLooks 64 = .ok (.lstore_n 3, 1) := by decide +kernel
theorem dX3_hashOfLooks_65 : decode cX3_hashOfLooks 65 = .ok (.iconst 0, 1) := by decide +kernel
theorem dX3_hashOfLooks_66 : decode cX3_hashOfLooks 66 = .ok (.istore 5, 2) := by decide +kernel
theorem dX3_hashOfLooks_68 : decode cX3_hashOfLooks 68 = .ok (.iload 5, 2) := by decide +kernel
theorem dX3_hashOfLooks_70 : decode cX3_hashOfLooks 70 = .ok (.aload_n 0, 1) := by decide +kernel
theorem dX3_hashOfLooks_71 : decode cX3_hashOfLooks 71 = .ok (.getfield 12, 3) := by decide +kernel
theorem dX3_hashOfLooks_74 : decode cX3_hashOfLooks 74 = .ok (.getfield 47, 3) := by decide +kernel
theorem dX3_hashOfLooks_77 : decode cX3_hashOfLooks 77 = .ok (.if_icmp .ge 44, 3) := by decide +kernel
theorem dX3_hashOfLooks_80 : decode cX3_hashOfLooks 80 = .ok (.iconst 0, 1) := by decide +kernel
theorem dX3_hashOfLooks_81 : decode cX3_hashOfLooks 81 = .ok (.istore 6, 2) := by decide +kernel
theorem dX3_hashOfLooks_83 : decode cX3_hashOfLooks 83 = .ok (.iload 6, 2) := by decide +kernel
theorem dX3_hashOfLooks_85 : decode cX3_hashOfLooks 85 = .ok (.bipush 11, 2) := by decide +kernel
theorem dX3_hashOfLooks_87 : decode cX3_hashOfLooks 87 = .ok (.if_icmp .gt 28, 3) := by decide +kernel
theorem dX3_hashOfLooks_90 : decode cX3_hashOfLooks 90 = .ok (.ldc2_w 172, 3) := by decide +kernel
theorem dX3_hashOfLooks_93 : decode cX3_hashOfLooks 93 = .ok (.lload_n 3, 1) := by decide +kernel
theorem dX3_hashOfLooks_94 : decode cX3_hashOfLooks 94 = .ok (.lmul, 1) := by decide +kernel
theorem dX3_hashOfLooks_95 : decode cX3_hashOfLooks 95 = .ok (.aload_n 0, 1) := by decide +kernel
theorem dX3_hashOfLooks_96 : decode cX3_hashOfLooks 96 = .ok (.getfield 12, 3) := by decide +kernel
theorem dX3_hashOfLooks_99 : decode cX3_hashOfLooks 99 = .ok (.iload 5, 2) := by decide +kernel
theorem dX3_hashOfLooks_101 : decode cX3_hashOfLooks 101 = .ok (.iload 6, 2) := by decide +kernel
theorem dX3_hashOfLooks_103 : decode cX3_hashOfLooks 103 = .ok (.invokevirtual 123, 3) := by decide +kernel
theorem dX3_hashOfLooks_106 : decode cX3_hashOfLooks 106 = .ok (.i2l, 1) := by decide +kernel
theorem dX3_hashOfLooks_107 : decode cX3_hashOfLooks 107 = .ok (.ladd, 1) := by decide +kernel
theorem dX3_hashOfLooks_108 : decode cX3_hashOfLooks 108 = .ok (.lstore_n 3, 1) := by decide +kernel
theorem dX3_hashOfLooks_109 : decode cX3_hashOfLooks 109 = .ok (.iinc 6 1, 3) := by decide +kernel
theorem dX3_hashOfLooks_112 : decode cX3_hashOfLooks 112 = .ok (.goto (-29), 3) := by decide +kernel
theorem dX3_hashOfLooks_115 : decode cX3_hashOfLooks 115 = .ok (.iinc 5 1, 3) := by decide +kernel
theorem dX3_hashOfLooks_118 : decode cX3_hashOfLooks 118 = .ok (.goto (-50), 3) := by decide +kernel
theorem dX3_hashOfLooks_121 : decode cX3_hashOfLooks 121 = .ok (.iconst 0, 1) := by decide +kernel
theorem dX3_hashOfLooks_122 : decode cX3_hashOfLooks 122 = .ok (.istore 5, 2) := by decide +kernel
theorem dX3_hashOfLooks_124 : decode cX3_hashOfLooks 124 = .ok (.iload 5, 2) := by decide +kernel
theorem dX3_hashOfLooks_126 : decode cX3_hashOfLooks 126 = .ok (.bipush 16, 2) := by decide +kernel
theorem dX3_hashOfLooks_128 : decode cX3_hashOfLooks 128 = .ok (.if_icmp .ge 44, 3) := by decide +kernel
theorem dX3_hashOfLooks_131 : decode cX3_hashOfLooks 131 = .ok (.iconst 0, 1) := by decide +kernel
theorem dX3_hashOfLooks_132 : decode cX3_hashOfLooks 132 = .ok (.istore 6, 2) := by decide +kernel
theorem dX3_hashOfLooks_134 : decode cX3_hashOfLooks 134 = .ok (.iload 6, 2) := by decide +kernel
theorem dX3_hashOfLooks_136 : decode cX3_hashOfLooks 136 = .ok (.bipush 24, 2) := by decide +kernel
theorem dX3_hashOfLooks_138 : decode cX3_hashOfLooks 138 = .ok (.if_icmp .ge 28, 3) := by decide +kernel
theorem dX3_hashOfLooks_141 : decode cX3_hashOfLooks 141 = .ok (.ldc2_w 172, 3) := by decide +kernel
theorem dX3_hashOfLooks_144 : decode cX3_hashOfLooks 144 = .ok (.lload_n 3, 1) := by decide +kernel
theorem dX3_hashOfLooks_145 : decode cX3_hashOfLooks 145 = .ok (.lmul, 1) := by decide +kernel
theorem dX3_hashOfLooks_146 : decode cX3_hashOfLooks 146 = .ok (.aload_n 0, 1) := by decide +kernel
theorem dX3_hashOfLooks_147 : decode cX3_hashOfLooks 147 = .ok (.getfield 12, 3) := by decide +kernel
theorem dX3_hashOfLooks_150 : decode cX3_hashOfLooks 150 = .ok (.iload 5, 2) := by decide +kernel
theorem dX3_hashOfLooks_152 : decode cX3_hashOfLooks 152 = .ok (.iload 6, 2) := by decide +kernel
theorem dX3_hashOfLooks_154 : decode cX3_hashOfLooks 154 = .ok (.invokevirtual 127, 3) := by decide +kernel
theorem dX3_hashOfLooks_157 : decode cX3_hashOfLooks 157 = .ok (.i2l, 1) := by decide +kernel
theorem dX3_hashOfLooks_158 : decode cX3_hashOfLooks 158 = .ok (.ladd, 1) := by decide +kernel
theorem dX3_hashOfLooks_159 : decode cX3_hashOfLooks 159 = .ok (.lstore_n 3, 1) := by decide +kernel
theorem dX3_hashOfLooks_160 : decode cX3_hashOfLooks 160 = .ok (.iinc 6 1, 3) := by decide +kernel
theorem dX3_hashOfLooks_163 : decode cX3_hashOfLooks 163 = .ok (.goto (-29), 3) := by decide +kernel
theorem dX3_hashOfLooks_166 : decode cX3_hashOfLooks 166 = .ok (.iinc 5 1, 3) := by decide +kernel
theorem dX3_hashOfLooks_169 : decode cX3_hashOfLooks 169 = .ok (.goto (-45), 3) := by decide +kernel
theorem dX3_hashOfLooks_172 : decode cX3_hashOfLooks 172 = .ok (.iconst 0, 1) := by decide +kernel
theorem dX3_hashOfLooks_173 : decode cX3_hashOfLooks 173 = .ok (.istore 5, 2) := by decide +kernel
theorem dX3_hashOfLooks_175 : decode cX3_hashOfLooks 175 = .ok (.iload 5, 2) := by decide +kernel
theorem dX3_hashOfLooks_177 : decode cX3_hashOfLooks 177 = .ok (.bipush 10, 2) := by decide +kernel
theorem dX3_hashOfLooks_179 : decode cX3_hashOfLooks 179 = .ok (.if_icmp .ge 26, 3) := by decide +kernel
theorem dX3_hashOfLooks_182 : decode cX3_hashOfLooks 182 = .ok (.ldc2_w 172, 3) := by decide +kernel
theorem dX3_hashOfLooks_185 : decode cX3_hashOfLooks 185 = .ok (.lload_n 3, 1) := by decide +kernel
theorem dX3_hashOfLooks_186 : decode cX3_hashOfLooks 186 = .ok (.lmul, 1) := by decide +kernel
theorem dX3_hashOfLooks_187 : decode cX3_hashOfLooks 187 = .ok (.aload_n 0, 1) := by decide +kernel
theorem dX3_hashOfLooks_188 : decode cX3_hashOfLooks 188 = .ok (.getfield 12, 3) := by decide +kernel
theorem dX3_hashOfLooks_191 : decode cX3_hashOfLooks 191 = .ok (.iload 5, 2) := by decide +kernel
theorem dX3_hashOfLooks_193 : decode cX3_hashOfLooks 193 = .ok (.invokevirtual 130, 3) := by decide +kernel
theorem dX3_hashOfLooks_196 : decode cX3_hashOfLooks 196 = .ok (.i2l, 1) := by decide +kernel
theorem dX3_hashOfLooks_197 : decode cX3_hashOfLooks 197 = .ok (.ladd, 1) := by decide +kernel
theorem dX3_hashOfLooks_198 : decode cX3_hashOfLooks 198 = .ok (.lstore_n 3, 1) := by decide +kernel
theorem dX3_hashOfLooks_199 : decode cX3_hashOfLooks 199 = .ok (.iinc 5 1, 3) := by decide +kernel
theorem dX3_hashOfLooks_202 : decode cX3_hashOfLooks 202 = .ok (.goto (-27), 3) := by decide +kernel
theorem dX3_hashOfLooks_205 : decode cX3_hashOfLooks 205 = .ok (.lload_n 3, 1) := by decide +kernel
theorem dX3_hashOfLooks_206 : decode cX3_hashOfLooks 206 = .ok (.lreturn, 1) := by decide +kernel
theorem dX3_bitsOf_0 : decode cX3_bitsOf 0 = .ok (.dload_n 0, 1) := by decide +kernel
theorem dX3_bitsOf_1 : decode cX3_bitsOf 1 = .ok (.dconst 0, 1) := by decide +kernel
theorem dX3_bitsOf_2 : decode cX3_bitsOf 2 = .ok (.dcmp .l, 1) := by decide +kernel
theorem dX3_bitsOf_3 : decode cX3_bitsOf 3 = .ok (.ifCond .gt 5, 3) := by decide +kernel
theorem dX3_bitsOf_6 : decode cX3_bitsOf 6 = .ok (.lconst 0, 1) := by decide +kernel
theorem dX3_bitsOf_7 : decode cX3_bitsOf 7 = .ok (.lreturn, 1) := by decide +kernel
theorem dX3_bitsOf_8 : decode cX3_bitsOf 8 = .ok (.dload_n 0, 1) := by decide +kernel
theorem dX3_bitsOf_9 : decode cX3_bitsOf 9 = .ok (.dstore_n 2, 1) := by decide +kernel
theorem dX3_bitsOf_10 : decode cX3_bitsOf 10 = .ok (.ldc2_w 198, 3) := by decide +kernel
theorem dX3_bitsOf_13 : decode cX3_bitsOf 13 = .ok (.lstore 4, 2) := by decide +kernel
theorem dX3_bitsOf_15 : decode cX3_bitsOf 15 = .ok (.iconst 0, 1) := by decide +kernel
theorem dX3_bitsOf_16 : decode cX3_bitsOf 16 = .ok (.istore 6, 2) := by decide +kernel
theorem dX3_bitsOf_18 : decode cX3_bitsOf 18 = .ok (.iload 6, 2) := by decide +kernel
theorem dX3_bitsOf_20 : decode cX3_bitsOf 20 = .ok (.bipush 64, 2) := by decide +kernel
theorem dX3_bitsOf_22 : decode cX3_bitsOf 22 = .ok (.if_icmp .ge 27, 3) := by decide +kernel
theorem dX3_bitsOf_25 : decode cX3_bitsOf 25 = .ok (.dload_n 2, 1) := by decide +kernel
theorem dX3_bitsOf_26 : decode cX3_bitsOf 26 = .ok (.dconst 1, 1) := by decide +kernel
theorem dX3_bitsOf_27 : decode cX3_bitsOf 27 = .ok (.dcmp .g, 1) := by decide +kernel
theorem dX3_bitsOf_28 : decode cX3_bitsOf 28 = .ok (.ifCond .ge 21, 3) := by decide +kernel
theorem dX3_bitsOf_31 : decode cX3_bitsOf 31 = .ok (.dload_n 2, 1) := by decide +kernel
theorem dX3_bitsOf_32 : decode cX3_bitsOf 32 = .ok (.ldc2_w 200, 3) := by decide +kernel
theorem dX3_bitsOf_35 : decode cX3_bitsOf 35 = .ok (.dmul, 1) := by decide +kernel
theorem dX3_bitsOf_36 : decode cX3_bitsOf 36 = .ok (.dstore_n 2, 1) := by decide +kernel
theorem dX3_bitsOf_37 : decode cX3_bitsOf 37 = .ok (.lload 4, 2) := by decide +kernel
theorem dX3_bitsOf_39 : decode cX3_bitsOf 39 = .ok (.lconst 1, 1) := by decide +kernel
theorem dX3_bitsOf_40 : decode cX3_bitsOf 40 = .ok (.lsub, 1) := by decide +kernel
theorem dX3_bitsOf_41 : decode cX3_bitsOf 41 = .ok (.lstore 4, 2) := by decide +kernel
theorem dX3_bitsOf_43 : decode cX3_bitsOf 43 = .ok (.iinc 6 1, 3) := by decide +kernel
theorem dX3_bitsOf_46 : decode cX3_bitsOf 46 = .ok (.goto (-28), 3) := by decide +kernel
theorem dX3_bitsOf_49 : decode cX3_bitsOf 49 = .ok (.lload 4, 2) := by decide +kernel
theorem dX3_bitsOf_51 : decode cX3_bitsOf 51 = .ok (.bipush 52, 2) := by decide +kernel
theorem dX3_bitsOf_53 : decode cX3_bitsOf 53 = .ok (.lshl, 1) := by decide +kernel
theorem dX3_bitsOf_54 : decode cX3_bitsOf 54 = .ok (.dload_n 2, 1) := by decide +kernel
theorem dX3_bitsOf_55 : decode cX3_bitsOf 55 = .ok (.dconst 1, 1) := by decide +kernel
theorem dX3_bitsOf_56 : decode cX3_bitsOf 56 = .ok (.dsub, 1) := by decide +kernel
theorem dX3_bitsOf_57 : decode cX3_bitsOf 57 = .ok (.ldc2_w 202, 3) := by decide +kernel
theorem dX3_bitsOf_60 : decode cX3_bitsOf 60 = .ok (.dmul, 1) := by decide +kernel
theorem dX3_bitsOf_61 : decode cX3_bitsOf 61 = .ok (.d2l, 1) := by decide +kernel
theorem dX3_bitsOf_62 : decode cX3_bitsOf 62 = .ok (.ladd, 1) := by decide +kernel
theorem dX3_bitsOf_63 : decode cX3_bitsOf 63 = .ok (.lreturn, 1) := by decide +kernel
theorem dX3_joinTrial_0 : decode cX3_joinTrial 0 = .ok (.aload_n 0, 1) := by decide +kernel
theorem dX3_joinTrial_1 : decode cX3_joinTrial 1 = .ok (.getfield 16, 3) := by decide +kernel
theorem dX3_joinTrial_4 : decode cX3_joinTrial 4 = .ok (.aload_n 0, 1) := by decide +kernel
theorem dX3_joinTrial_5 : decode cX3_joinTrial 5 = .ok (.getfield 12, 3) := by decide +kernel
theorem dX3_joinTrial_8 : decode cX3_joinTrial 8 = .ok (.invokevirtual 136, 3) := by decide +kernel
theorem dX3_joinTrial_11 : decode cX3_joinTrial 11 = .ok (.aload_n 0, 1) := by decide +kernel
theorem dX3_joinTrial_12 : decode cX3_joinTrial 12 = .ok (.getfield 16, 3) := by decide +kernel
theorem dX3_joinTrial_15 : decode cX3_joinTrial 15 = .ok (.iload_n 1, 1) := by decide +kernel
theorem dX3_joinTrial_16 : decode cX3_joinTrial 16 = .ok (.iload_n 2, 1) := by decide +kernel
theorem dX3_joinTrial_17 : decode cX3_joinTrial 17 = .ok (.iload_n 3, 1) := by decide +kernel
theorem dX3_joinTrial_18 : decode cX3_joinTrial 18 = .ok (.iconst 0, 1) := by decide +kernel
theorem dX3_joinTrial_19 : decode cX3_joinTrial 19 = .ok (.aload_n 0, 1) := by decide +kernel
theorem dX3_joinTrial_20 : decode cX3_joinTrial 20 = .ok (.getfield 12, 3) := by decide +kernel
theorem dX3_joinTrial_23 : decode cX3_joinTrial 23 = .ok (.getfield 62, 3) := by decide +kernel
theorem dX3_joinTrial_26 : decode cX3_joinTrial 26 = .ok (.invokevirtual 58, 3) := by decide +kernel
theorem dX3_joinTrial_29 : decode cX3_joinTrial 29 = .ok (.ireturn, 1) := by decide +kernel
theorem dX3_addToldLine_0 : decode cX3_addToldLine 0 = .ok (.aload_n 0, 1) := by decide +kernel
theorem dX3_addToldLine_1 : decode cX3_addToldLine 1 = .ok (.getfield 29, 3) := by decide +kernel
theorem dX3_addToldLine_4 : decode cX3_addToldLine 4 = .ok (.getfield 204, 3) := by decide +kernel
theorem dX3_addToldLine_7 : decode cX3_addToldLine 7 = .ok (.iconst 0, 1) := by decide +kernel
theorem dX3_addToldLine_8 : decode cX3_addToldLine 8 = .ok (.iaload, 1) := by decide +kernel
theorem dX3_addToldLine_9 : decode cX3_addToldLine 9 = .ok (.istore_n 1, 1) := by decide +kernel
theorem dX3_addToldLine_10 : decode cX3_addToldLine 10 = .ok (.aload_n 0, 1) := by decide +kernel
theorem dX3_addToldLine_11 : decode cX3_addToldLine 11 = .ok (.getfield 29, 3) := by decide +kernel
theorem dX3_addToldLine_14 : decode cX3_addToldLine 14 = .ok (.getfield 204, 3) := by decide +kernel
theorem dX3_addToldLine_17 : decode cX3_addToldLine 17 = .ok (.iconst 1, 1) := by decide +kernel
theorem dX3_addToldLine_18 : decode cX3_addToldLine 18 = .ok (.iaload, 1) := by decide +kernel
theorem dX3_addToldLine_19 : decode cX3_addToldLine 19 = .ok (.istore_n 2, 1) := by decide +kernel
theorem dX3_addToldLine_20 : decode cX3_addToldLine 20 = .ok (.aload_n 0, 1) := by decide +kernel
theorem dX3_addToldLine_21 : decode cX3_addToldLine 21 = .ok (.getfield 29, 3) := by decide +kernel
theorem dX3_addToldLine_24 : decode cX3_addToldLine 24 = .ok (.getfield 204, 3) := by decide +kernel
theorem dX3_addToldLine_27 : decode cX3_addToldLine 27 = .ok (.iconst 2, 1) := by decide +kernel
theorem dX3_addToldLine_28 : decode cX3_addToldLine 28 = .ok (.iaload, 1) := by decide +kernel
theorem dX3_addToldLine_29 : decode cX3_addToldLine 29 = .ok (.istore_n 3, 1) := by decide +kernel
theorem dX3_addToldLine_30 : decode cX3_addToldLine 30 = .ok (.aload_n 0, 1) := by decide +kernel
theorem dX3_addToldLine_31 : decode cX3_addToldLine 31 = .ok (.getfield 12, 3) := by decide +kernel
theorem dX3_addToldLine_34 : decode cX3_addToldLine 34 = .ok (.getfield 62, 3) := by decide +kernel
theorem dX3_addToldLine_37 : decode cX3_addToldLine 37 = .ok (.aload_n 0, 1) := by decide +kernel
theorem dX3_addToldLine_38 : decode cX3_addToldLine 38 = .ok (.getfield 29, 3) := by decide +kernel
theorem dX3_addToldLine_41 : decode cX3_addToldLine 41 = .ok (.getfield 204, 3) := by decide +kernel
theorem dX3_addToldLine_44 : decode cX3_addToldLine 44 = .ok (.iconst 3, 1) := by decide +kernel
theorem dX3_addToldLine_45 : decode cX3_addToldLine 45 = .ok (.iaload, 1) := by decide +kernel
theorem dX3_addToldLine_46 : decode cX3_addToldLine 46 = .ok (.iadd, 1) := by decide +kernel
theorem dX3_addToldLine_47 : decode cX3_addToldLine 47 = .ok (.istore 4, 2) := by decide +kernel
theorem dX3_addToldLine_49 : decode cX3_addToldLine 49 = .ok (.iload_n 1, 1) := by decide +kernel
theorem dX3_addToldLine_50 : decode cX3_addToldLine 50 = .ok (.iload_n 2, 1) := by decide +kernel
theorem dX3_addToldLine_51 : decode cX3_addToldLine 51 = .ok (.iload_n 3, 1) := by decide +kernel
theorem dX3_addToldLine_52 : decode cX3_addToldLine 52 = .ok (.invokestatic 33, 3) := by decide +kernel
theorem dX3_addToldLine_55 : decode cX3_addToldLine 55 = .ok (.ifCond .eq 23, 3) := by decide +kernel
theorem dX3_addToldLine_58 : decode cX3_addToldLine 58 = .ok (.iload 4, 2) := by decide +kernel
theorem dX3_addToldLine_60 : decode cX3_addToldLine 60 = .ok (.invokestatic 41, 3) := by decide +kernel
theorem dX3_addToldLine_63 : decode cX3_addToldLine 63 = .ok (.ifCond .eq 15, 3) := by decide +kernel
theorem dX3_addToldLine_66 : decode cX3_addToldLine 66 = .ok (.aload_n 0, 1) := by decide +kernel
theorem dX3_addToldLine_67 : decode cX3_addToldLine 67 = .ok (.getfield 12, 3) := by decide +kernel
theorem dX3_addToldLine_70 : decode cX3_addToldLine 70 = .ok (.getfield 47, 3) := by decide +kernel
theorem dX3_addToldLine_73 : decode cX3_addToldLine 73 = .ok (.bipush 10, 2) := by decide +kernel
theorem dX3_addToldLine_75 : decode cX3_addToldLine 75 = .ok (.if_icmp .lt 5, 3) := by decide +kernel
theorem dX3_addToldLine_78 : decode cX3_addToldLine 78 = .ok (.iconst 0, 1) := by decide +kernel
theorem dX3_addToldLine_79 : decode cX3_addToldLine 79 = .ok (.ireturn, 1) := by decide +kernel
theorem dX3_addToldLine_80 : decode cX3_addToldLine 80 = .ok (.aload_n 0, 1) := by decide +kernel
theorem dX3_addToldLine_81 : decode cX3_addToldLine 81 = .ok (.getfield 12, 3) := by decide +kernel
theorem dX3_addToldLine_84 : decode cX3_addToldLine 84 = .ok (.iload_n 1, 1) := by decide +kernel
theorem dX3_addToldLine_85 : decode cX3_addToldLine 85 = .ok (.iload_n 2, 1) := by decide +kernel
theorem dX3_addToldLine_86 : decode cX3_addToldLine 86 = .ok (.iload_n 3, 1) := by decide +kernel
theorem dX3_addToldLine_87 : decode cX3_addToldLine 87 = .ok (.iconst 0, 1) := by decide +kernel
theorem dX3_addToldLine_88 : decode cX3_addToldLine 88 = .ok (.iload 4, 2) := by decide +kernel
theorem dX3_addToldLine_90 : decode cX3_addToldLine 90 = .ok (.invokevirtual 58, 3) := by decide +kernel
theorem dX3_addToldLine_93 : decode cX3_addToldLine 93 = .ok (.pop, 1) := by decide +kernel
theorem dX3_addToldLine_94 : decode cX3_addToldLine 94 = .ok (.iconst 1, 1) := by decide +kernel
theorem dX3_addToldLine_95 : decode cX3_addToldLine 95 = .ok (.ireturn, 1) := by decide +kernel
theorem dX3_isNumber_0 : decode cX3_isNumber 0 = .ok (.iload_n 1, 1) := by decide +kernel
theorem dX3_isNumber_1 : decode cX3_isNumber 1 = .ok (.ifCond .lt 18, 3) := by decide +kernel
theorem dX3_isNumber_4 : decode cX3_isNumber 4 = .ok (.iload_n 1, 1) := by decide +kernel
theorem dX3_isNumber_5 : decode cX3_isNumber 5 = .ok (.aload_n 0, 1) := by decide +kernel
theorem dX3_isNumber_6 : decode cX3_isNumber 6 = .ok (.getfield 12, 3) := by decide +kernel
theorem dX3_isNumber_9 : decode cX3_isNumber 9 = .ok (.getfield 47, 3) := by decide +kernel
theorem dX3_isNumber_12 : decode cX3_isNumber 12 = .ok (.if_icmp .ge 7, 3) := by decide +kernel
theorem dX3_isNumber_15 : decode cX3_isNumber 15 = .ok (.iconst 1, 1) := by decide +kernel
theorem dX3_isNumber_16 : decode cX3_isNumber 16 = .ok (.goto 4, 3) := by decide +kernel
theorem dX3_isNumber_19 : decode cX3_isNumber 19 = .ok (.iconst 0, 1) := by decide +kernel
theorem dX3_isNumber_20 : decode cX3_isNumber 20 = .ok (.ireturn, 1) := by decide +kernel
theorem dX3_isShape_0 : decode cX3_isShape 0 = .ok (.iload_n 0, 1) := by decide +kernel
theorem dX3_isShape_1 : decode cX3_isShape 1 = .ok (.invokestatic 152, 3) := by decide +kernel
theorem dX3_isShape_4 : decode cX3_isShape 4 = .ok (.ifCond .eq 32, 3) := by decide +kernel
theorem dX3_isShape_7 : decode cX3_isShape 7 = .ok (.iload_n 1, 1) := by decide +kernel
theorem dX3_isShape_8 : decode cX3_isShape 8 = .ok (.invokestatic 155, 3) := by decide +kernel
theorem dX3_isShape_11 : decode cX3_isShape 11 = .ok (.ifCond .eq 25, 3) := by decide +kernel
theorem dX3_isShape_14 : decode cX3_isShape 14 = .ok (.iload_n 2, 1) := by decide +kernel
theorem dX3_isShape_15 : decode cX3_isShape 15 = .ok (.ifCond .lt 21, 3) := by decide +kernel
theorem dX3_isShape_18 : decode cX3_isShape 18 = .ok (.iload_n 2, 1) := by decide +kernel
theorem dX3_isShape_19 : decode cX3_isShape 19 = .ok (.bipush 24, 2) := by decide +kernel
theorem dX3_isShape_21 : decode cX3_isShape 21 = .ok (.if_icmp .ge 15, 3) := by decide +kernel
theorem dX3_isShape_24 : decode cX3_isShape 24 = .ok (.iload_n 2, 1) := by decide +kernel
theorem dX3_isShape_25 : decode cX3_isShape 25 = .ok (.iload_n 0, 1) := by decide +kernel
theorem dX3_isShape_26 : decode cX3_isShape 26 = .ok (.iadd, 1) := by decide +kernel
theorem dX3_isShape_27 : decode cX3_isShape 27 = .ok (.bipush 24, 2) := by decide +kernel
theorem dX3_isShape_29 : decode cX3_isShape 29 = .ok (.if_icmp .gt 7, 3) := by decide +kernel
theorem dX3_isShape_32 : decode cX3_isShape 32 = .ok (.iconst 1, 1) := by decide +kernel
theorem dX3_isShape_33 : decode cX3_isShape 33 = .ok (.goto 4, 3) := by decide +kernel
theorem dX3_isShape_36 : decode cX3_isShape 36 = .ok (.iconst 0, 1) := by decide +kernel
theorem dX3_isShape_37 : decode cX3_isShape 37 = .ok (.ireturn, 1) := by decide +kernel
theorem dX3_isWidth_0 : decode cX3_isWidth 0 = .ok (.iload_n 0, 1) := by decide +kernel
theorem dX3_isWidth_1 : decode cX3_isWidth 1 = .ok (.iconst 1, 1) := by decide +kernel
theorem dX3_isWidth_2 : decode cX3_isWidth 2 = .ok (.if_icmp .lt 13, 3) := by decide +kernel
theorem dX3_isWidth_5 : decode cX3_isWidth 5 = .ok (.iload_n 0, 1) := by decide +kernel
theorem dX3_isWidth_6 : decode cX3_isWidth 6 = .ok (.bipush 12, 2) := by decide +kernel
theorem dX3_isWidth_8 : decode cX3_isWidth 8 = .ok (.if_icmp .gt 7, 3) := by decide +kernel
theorem dX3_isWidth_11 : decode cX3_isWidth 11 = .ok (.iconst 1, 1) := by decide +kernel
theorem dX3_isWidth_12 : decode cX3_isWidth 12 = .ok (.goto 4, 3) := by decide +kernel
theorem dX3_isWidth_15 : decode cX3_isWidth 15 = .ok (.iconst 0, 1) := by decide +kernel
theorem dX3_isWidth_16 : decode cX3_isWidth 16 = .ok (.ireturn, 1) := by decide +kernel
theorem dX3_isWeight_0 : decode cX3_isWeight 0 = .ok (.iload_n 0, 1) := by decide +kernel
theorem dX3_isWeight_1 : decode cX3_isWeight 1 = .ok (.iconst 1, 1) := by decide +kernel
theorem dX3_isWeight_2 : decode cX3_isWeight 2 = .ok (.if_icmp .lt 13, 3) := by decide +kernel
theorem dX3_isWeight_5 : decode cX3_isWeight 5 = .ok (.iload_n 0, 1) := by decide +kernel
theorem dX3_isWeight_6 : decode cX3_isWeight 6 = .ok (.bipush 9, 2) := by decide +kernel
theorem dX3_isWeight_8 : decode cX3_isWeight 8 = .ok (.if_icmp .gt 7, 3) := by decide +kernel
theorem dX3_isWeight_11 : decode cX3_isWeight 11 = .ok (.iconst 1, 1) := by decide +kernel
theorem dX3_isWeight_12 : decode cX3_isWeight 12 = .ok (.goto 4, 3) := by decide +kernel
theorem dX3_isWeight_15 : decode cX3_isWeight 15 = .ok (.iconst 0, 1) := by decide +kernel
theorem dX3_isWeight_16 : decode cX3_isWeight 16 = .ok (.ireturn, 1) := by decide +kernel
theorem dX3_isVerse_0 : decode cX3_isVerse 0 = .ok (.iload_n 0, 1) := by decide +kernel
theorem dX3_isVerse_1 : decode cX3_isVerse 1 = .ok (.ifCond .lt 12, 3) := by decide +kernel
theorem dX3_isVerse_4 : decode cX3_isVerse 4 = .ok (.iload_n 0, 1) := by decide +kernel
theorem dX3_isVerse_5 : decode cX3_isVerse 5 = .ok (.iconst 3, 1) := by decide +kernel
theorem dX3_isVerse_6 : decode cX3_isVerse 6 = .ok (.if_icmp .gt 7, 3) := by decide +kernel
theorem dX3_isVerse_9 : decode cX3_isVerse 9 = .ok (.iconst 1, 1) := by decide +kernel
theorem dX3_isVerse_10 : decode cX3_isVerse 10 = .ok (.goto 4, 3) := by decide +kernel
theorem dX3_isVerse_13 : decode cX3_isVerse 13 = .ok (.iconst 0, 1) := by decide +kernel
theorem dX3_isVerse_14 : decode cX3_isVerse 14 = .ok (.ireturn, 1) := by decide +kernel
theorem dX3_isLineBeat_0 : decode cX3_isLineBeat 0 = .ok (.iload_n 0, 1) := by decide +kernel
theorem dX3_isLineBeat_1 : decode cX3_isLineBeat 1 = .ok (.ifCond .lt 13, 3) := by decide +kernel
theorem dX3_isLineBeat_4 : decode cX3_isLineBeat 4 = .ok (.iload_n 0, 1) := by decide +kernel
theorem dX3_isLineBeat_5 : decode cX3_isLineBeat 5 = .ok (.bipush 99, 2) := by decide +kernel
theorem dX3_isLineBeat_7 : decode cX3_isLineBeat 7 = .ok (.if_icmp .gt 7, 3) := by decide +kernel
theorem dX3_isLineBeat_10 : decode cX3_isLineBeat 10 = .ok (.iconst 1, 1) := by decide +kernel
theorem dX3_isLineBeat_11 : decode cX3_isLineBeat 11 = .ok (.goto 4, 3) := by decide +kernel
theorem dX3_isLineBeat_14 : decode cX3_isLineBeat 14 = .ok (.iconst 0, 1) := by decide +kernel
theorem dX3_isLineBeat_15 : decode cX3_isLineBeat 15 = .ok (.ireturn, 1) := by decide +kernel
theorem dX4_init_0 : decode cX4_init 0 = .ok (.aload_n 0, 1) := by decide +kernel
theorem dX4_init_1 : decode cX4_init 1 = .ok (.invokespecial 1, 3) := by decide +kernel
theorem dX4_init_4 : decode cX4_init 4 = .ok (.aload_n 0, 1) := by decide +kernel
theorem dX4_init_5 : decode cX4_init 5 = .ok (.bipush 81, 2) := by decide +kernel
theorem dX4_init_7 : decode cX4_init 7 = .ok (.newarray .int, 2) := by decide +kernel
theorem dX4_init_9 : decode cX4_init 9 = .ok (.putfield 7, 3) := by decide +kernel
theorem dX4_init_12 : decode cX4_init 12 = .ok (.aload_n 0, 1) := by decide +kernel
theorem dX4_init_13 : decode cX4_init 13 = .ok (.bipush 81, 2) := by decide +kernel
theorem dX4_init_15 : decode cX4_init 15 = .ok (.newarray .int, 2) := by decide +kernel
theorem dX4_init_17 : decode cX4_init 17 = .ok (.putfield 13, 3) := by decide +kernel
theorem dX4_init_20 : decode cX4_init 20 = .ok (.aload_n 0, 1) := by decide +kernel
theorem dX4_init_21 : decode cX4_init 21 = .ok (.sipush 486, 3) := by decide +kernel
theorem dX4_init_24 : decode cX4_init 24 = .ok (.newarray .int, 2) := by decide +kernel
theorem dX4_init_26 : decode cX4_init 26 = .ok (.putfield 16, 3) := by decide +kernel
theorem dX4_init_29 : decode cX4_init 29 = .ok (.aload_n 0, 1) := by decide +kernel
theorem dX4_init_30 : decode cX4_init 30 = .ok (.bipush 60, 2) := by decide +kernel
theorem dX4_init_32 : decode cX4_init 32 = .ok (.newarray .int, 2) := by decide +kernel
theorem dX4_init_34 : decode cX4_init 34 = .ok (.putfield 19, 3) := by decide +kernel
theorem dX4_init_37 : decode cX4_init 37 = .ok (.aload_n 0, 1) := by decide +kernel
theorem dX4_init_38 : decode cX4_init 38 = .ok (.bipush 11, 2) := by decide +kernel
theorem dX4_init_40 : decode cX4_init 40 = .ok (.newarray .int, 2) := by decide +kernel
theorem dX4_init_42 : decode cX4_init 42 = .ok (.putfield 22, 3) := by decide +kernel
theorem dX4_init_45 : decode cX4_init 45 = .ok (.aload_n 0, 1) := by decide +kernel
theorem dX4_init_46 : decode cX4_init 46 = .ok (.bipush 48, 2) := by decide +kernel
theorem dX4_init_48 : decode cX4_init 48 = .ok (.newarray .int, 2) := by decide +kernel
theorem dX4_init_50 : decode cX4_init 50 = .ok (.putfield 25, 3) := by decide +kernel
theorem dX4_init_53 : decode cX4_init 53 = .ok (.aload_n 0, 1) := by decide +kernel
theorem dX4_init_54 : decode cX4_init 54 = .ok (.getfield 7, 3) := by decide +kernel
theorem dX4_init_57 : decode cX4_init 57 = .ok (.iconst 2, 1) := by decide +kernel
theorem dX4_init_58 : decode cX4_init 58 = .ok (.iconst 2, 1) := by decide +kernel
theorem dX4_init_59 : decode cX4_init 59 = .ok (.iastore, 1) := by decide +kernel
theorem dX4_init_60 : decode cX4_init 60 = .ok (.return_, 1) := by decide +kernel
theorem dX4_thrown_0 : decode cX4_thrown 0 = .ok (.aload_n 0, 1) := by decide +kernel
theorem dX4_thrown_1 : decode cX4_thrown 1 = .ok (.getfield 28, 3) := by decide +kernel
theorem dX4_thrown_4 : decode cX4_thrown 4 = .ok (.ireturn, 1) := by decide +kernel
theorem dX4_in_0 : decode cX4_in 0 = .ok (.iload_n 0, 1) := by decide +kernel
theorem dX4_in_1 : decode cX4_in 1 = .ok (.iload_n 1, 1) := by decide +kernel
theorem dX4_in_2 : decode cX4_in 2 = .ok (.if_icmp .lt 12, 3) := by decide +kernel
theorem dX4_in_5 : decode cX4_in 5 = .ok (.iload_n 0, 1) := by decide +kernel
theorem dX4_in_6 : decode cX4_in 6 = .ok (.iload_n 2, 1) := by decide +kernel
theorem dX4_in_7 : decode cX4_in 7 = .ok (.if_icmp .gt 7, 3) := by decide +kernel
theorem dX4_in_10 : decode cX4_in 10 = .ok (.iconst 1, 1) := by decide +kernel
theorem dX4_in_11 : decode cX4_in 11 = .ok (.goto 4, 3) := by decide +kernel
theorem dX4_in_14 : decode cX4_in 14 = .ok (.iconst 0, 1) := by decide +kernel
theorem dX4_in_15 : decode cX4_in 15 = .ok (.ireturn, 1) := by decide +kernel
theorem dX4_refuses_0 : decode cX4_refuses 0 = .ok (.aload_n 0, 1) := by decide +kernel
theorem dX4_refuses_1 : decode cX4_refuses 1 = .ok (.iload_n 1, 1) := by decide +kernel
theorem dX4_refuses_2 : decode cX4_refuses 2 = .ok (.putfield 28, 3) := by decide +kernel
theorem dX4_refuses_5 : decode cX4_refuses 5 = .ok (.iload_n 1, 1) := by decide +kernel
theorem dX4_refuses_6 : decode cX4_refuses 6 = .ok (.ifCond .le 7, 3) := by decide +kernel
theorem dX4_refuses_9 : decode cX4_refuses 9 = .ok (.iconst 1, 1) := by decide +kernel
theorem dX4_refuses_10 : decode cX4_refuses 10 = .ok (.goto 4, 3) := by decide +kernel
theorem dX4_refuses_13 : decode cX4_refuses 13 = .ok (.iconst 0, 1) := by decide +kernel
theorem dX4_refuses_14 : decode cX4_refuses 14 = .ok (.ireturn, 1) := by decide +kernel
theorem dX4_lays_0 : decode cX4_lays 0 = .ok (.iconst 0, 1) := by decide +kernel
theorem dX4_lays_1 : decode cX4_lays 1 = .ok (.istore 4, 2) := by decide +kernel
theorem dX4_lays_3 : decode cX4_lays 3 = .ok (.iload 4, 2) := by decide +kernel
theorem dX4_lays_5 : decode cX4_lays 5 = .ok (.bipush 81, 2) := by decide +kernel
theorem dX4_lays_7 : decode cX4_lays 7 = .ok (.if_icmp .ge 21, 3) := by decide +kernel
theorem dX4_lays_10 : decode cX4_lays 10 = .ok (.aload_n 2, 1) := by decide +kernel
theorem dX4_lays_11 : decode cX4_lays 11 = .ok (.iload_n 3, 1) := by decide +kernel
theorem dX4_lays_12 : decode cX4_lays 12 = .ok (.iload 4, 2) := by decide +kernel
theorem dX4_lays_14 : decode cX4_lays 14 = .ok (.iadd, 1) := by decide +kernel
theorem dX4_lays_15 : decode cX4_lays 15 = .ok (.aload_n 0, 1) := by decide +kernel
theorem dX4_lays_16 : decode cX4_lays 16 = .ok (.iload_n 1, 1) := by decide +kernel
theorem dX4_lays_17 : decode cX4_lays 17 = .ok (.iload 4, 2) := by decide +kernel
theorem dX4_lays_19 : decode cX4_lays 19 = .ok (.iadd, 1) := by decide +kernel
theorem dX4_lays_20 : decode cX4_lays 20 = .ok (.iaload, 1) := by decide +kernel
theorem dX4_lays_21 : decode cX4_lays 21 = .ok (.iastore, 1) := by decide +kernel
theorem dX4_lays_22 : decode cX4_lays 22 = .ok (.iinc 4 1, 3) := by decide +kernel
theorem dX4_lays_25 : decode cX4_lays 25 = .ok (.goto (-22), 3) := by decide +kernel
theorem dX4_lays_28 : decode cX4_lays 28 = .ok (.return_, 1) := by decide +kernel
theorem dX4_saves_0 : decode cX4_saves 0 = .ok (.aload_n 0, 1) := by decide +kernel
theorem dX4_saves_1 : decode cX4_saves 1 = .ok (.getfield 32, 3) := by decide +kernel
theorem dX4_saves_4 : decode cX4_saves 4 = .ok (.bipush 6, 2) := by decide +kernel
theorem dX4_saves_6 : decode cX4_saves 6 = .ok (.if_icmp .ne 43, 3) := by decide +kernel
theorem dX4_saves_9 : decode cX4_saves 9 = .ok (.iconst 0, 1) := by decide +kernel
theorem dX4_saves_10 : decode cX4_saves 10 = .ok (.istore_n 1, 1) := by decide +kernel
theorem dX4_saves_11 : decode cX4_saves 11 = .ok (.iload_n 1, 1) := by decide +kernel
theorem dX4_saves_12 : decode cX4_saves 12 = .ok (.sipush 405, 3) := by decide +kernel
theorem dX4_saves_15 : decode cX4_saves 15 = .ok (.if_icmp .ge 24, 3) := by decide +kernel
theorem dX4_saves_18 : decode cX4_saves 18 = .ok (.aload_n 0, 1) := by decide +kernel
theorem dX4_saves_19 : decode cX4_saves 19 = .ok (.getfield 16, 3) := by decide +kernel
theorem dX4_saves_22 : decode cX4_saves 22 = .ok (.iload_n 1, 1) := by decide +kernel
theorem dX4_saves_23 : decode cX4_saves 23 = .ok (.aload_n 0, 1) := by decide +kernel
theorem dX4_saves_24 : decode cX4_saves 24 = .ok (.getfield 16, 3) := by decide +kernel
theorem dX4_saves_27 : decode cX4_saves 27 = .ok (.iload_n 1, 1) := by decide +kernel
theorem dX4_saves_28 : decode cX4_saves 28 = .ok (.bipush 81, 2) := by decide +kernel
theorem dX4_saves_30 : decode cX4_saves 30 = .ok (.iadd, 1) := by decide +kernel
theorem dX4_saves_31 : decode cX4_saves 31 = .ok (.iaload, 1) := by decide +kernel
theorem dX4_saves_32 : decode cX4_saves 32 = .ok (.iastore, 1) := by decide +kernel
theorem dX4_saves_33 : decode cX4_saves 33 = .ok (.iinc 1 1, 3) := by decide +kernel
theorem dX4_saves_36 : decode cX4_saves 36 = .ok (.goto (-25), 3) := by decide +kernel
theorem dX4_saves_39 : decode cX4_saves 39 = .ok (.aload_n 0, 1) := by decide +kernel
theorem dX4_saves_40 : decode cX4_saves 40 = .ok (.dup, 1) := by decide +kernel
theorem dX4_saves_41 : decode cX4_saves 41 = .ok (.getfield 32, 3) := by decide +kernel
theorem dX4_saves_44 : decode cX4_saves 44 = .ok (.iconst 1, 1) := by decide +kernel
theorem dX4_saves_45 : decode cX4_saves 45 = .ok (.isub, 1) := by decide +kernel
theorem dX4_saves_46 : decode cX4_saves 46 = .ok (.putfield 32, 3) := by decide +kernel
theorem dX4_saves_49 : decode cX4_saves 49 = .ok (.aload_n 0, 1) := by decide +kernel
theorem dX4_saves_50 : decode cX4_saves 50 = .ok (.getfield 7, 3) := by decide +kernel
theorem dX4_saves_53 : decode cX4_saves 53 = .ok (.iconst 0, 1) := by decide +kernel
theorem dX4_saves_54 : decode cX4_saves 54 = .ok (.aload_n 0, 1) := by decide +kernel
theorem dX4_saves_55 : decode cX4_saves 55 = .ok (.getfield 16, 3) := by decide +kernel
theorem dX4_saves_58 : decode cX4_saves 58 = .ok (.bipush 81, 2) := by decide +kernel
theorem dX4_saves_60 : decode cX4_saves 60 = .ok (.aload_n 0, 1) := by decide +kernel
theorem dX4_saves_61 : decode cX4_saves 61 = .ok (.getfield 32, 3) := by decide +kernel
theorem dX4_saves_64 : decode cX4_saves 64 = .ok (.imul, 1) := by decide +kernel
theorem dX4_saves_65 : decode cX4_saves 65 = .ok (.invokestatic 35, 3) := by decide +kernel
theorem dX4_saves_68 : decode cX4_saves 68 = .ok (.aload_n 0, 1) := by decide +kernel
theorem dX4_saves_69 : decode cX4_saves 69 = .ok (.dup, 1) := by decide +kernel
theorem dX4_saves_70 : decode cX4_saves 70 = .ok (.getfield 32, 3) := by decide +kernel
theorem dX4_saves_73 : decode cX4_saves 73 = .ok (.iconst 1, 1) := by decide +kernel
theorem dX4_saves_74 : decode cX4_saves 74 = .ok (.iadd, 1) := by decide +kernel
theorem dX4_saves_75 : decode cX4_saves 75 = .ok (.putfield 32, 3) := by decide +kernel
theorem dX4_saves_78 : decode cX4_saves 78 = .ok (.return_, 1) := by decide +kernel
theorem dX4_undo_0 : decode cX4_undo 0 = .ok (.aload_n 0, 1) := by decide +kernel
theorem dX4_undo_1 : decode cX4_undo 1 = .ok (.aload_n 0, 1) := by decide +kernel
theorem dX4_undo_2 : decode cX4_undo 2 = .ok (.getfield 32, 3) := by decide +kernel
theorem dX4_undo_5 : decode cX4_undo 5 = .ok (.ifCond .ne 7, 3) := by decide +kernel
theorem dX4_undo_8 : decode cX4_undo 8 = .ok (.iconst 1, 1) := by decide +kernel
theorem dX4_undo_9 : decode cX4_undo 9 = .ok (.goto 4, 3) := by decide +kernel
theorem dX4_undo_12 : decode cX4_undo 12 = .ok (.iconst 0, 1) := by decide +kernel
theorem dX4_undo_13 : decode cX4_undo 13 = .ok (.invokevirtual 39, 3) := by decide +kernel
theorem dX4_undo_16 : decode cX4_undo 16 = .ok (.ifCond .eq 5, 3) := by decide +kernel
theorem dX4_undo_19 : decode cX4_undo 19 = .ok (.iconst 0, 1) := by decide +kernel
theorem dX4_undo_20 : decode cX4_undo 20 = .ok (.ireturn, 1) := by decide +kernel
theorem dX4_undo_21 : decode cX4_undo 21 = .ok (.aload_n 0, 1) := by decide +kernel
theorem dX4_undo_22 : decode cX4_undo 22 = .ok (.dup, 1) := by decide +kernel
theorem dX4_undo_23 : decode cX4_undo 23 = .ok (.getfield 32, 3) := by decide +kernel
theorem dX4_undo_26 : decode cX4_undo 26 = .ok (.iconst 1, 1) := by decide +kernel
theorem dX4_undo_27 : decode cX4_undo 27 = .ok (.isub, 1) := by decide +kernel
theorem dX4_undo_28 : decode cX4_undo 28 = .ok (.putfield 32, 3) := by decide +kernel
theorem dX4_undo_31 : decode cX4_undo 31 = .ok (.aload_n 0, 1) := by decide +kernel
theorem dX4_undo_32 : decode cX4_undo 32 = .ok (.getfield 16, 3) := by decide +kernel
theorem dX4_undo_35 : decode cX4_undo 35 = .ok (.bipush 81, 2) := by decide +kernel
theorem dX4_undo_37 : decode cX4_undo 37 = .ok (.aload_n 0, 1) := by decide +kernel
theorem dX4_undo_38 : decode cX4_undo 38 = .ok (.getfield 32, 3) := by decide +kernel
theorem dX4_undo_41 : decode cX4_undo 41 = .ok (.imul, 1) := by decide +kernel
theorem dX4_undo_42 : decode cX4_undo 42 = .ok (.aload_n 0, 1) := by decide +kernel
theorem dX4_undo_43 : decode cX4_undo 43 = .ok (.getfield 7, 3) := by decide +kernel
theorem dX4_undo_46 : decode cX4_undo 46 = .ok (.iconst 0, 1) := by decide +kernel
theorem dX4_undo_47 : decode cX4_undo 47 = .ok (.invokestatic 35, 3) := by decide +kernel
theorem dX4_undo_50 : decode cX4_undo 50 = .ok (.aload_n 0, 1) := by decide +kernel
theorem dX4_undo_51 : decode cX4_undo 51 = .ok (.getfield 32, 3) := by decide +kernel
theorem dX4_undo_54 : decode cX4_undo 54 = .ok (.ireturn, 1) := by decide +kernel
theorem dX4_of_0 : decode cX4_of 0 = .ok (.aload_n 0, 1) := by decide +kernel
theorem dX4_of_1 : decode cX4_of 1 = .ok (.iconst 4, 1) := by decide +kernel
theorem dX4_of_2 : decode cX4_of 2 = .ok (.bipush 7, 2) := by decide +kernel
theorem dX4_of_4 : decode cX4_of 4 = .ok (.iload_n 1, 1) := by decide +kernel
theorem dX4_of_5 : decode cX4_of 5 = .ok (.imul, 1) := by decide +kernel
theorem dX4_of_6 : decode cX4_of 6 = .ok (.iadd, 1) := by decide +kernel
theorem dX4_of_7 : decode cX4_of 7 = .ok (.iload_n 2, 1) := by decide +kernel
theorem dX4_of_8 : decode cX4_of 8 = .ok (.iadd, 1) := by decide +kernel
theorem dX4_of_9 : decode cX4_of 9 = .ok (.iaload, 1) := by decide +kernel
theorem dX4_of_10 : decode cX4_of 10 = .ok (.ireturn, 1) := by decide +kernel
theorem dX4_puts_0 : decode cX4_puts 0 = .ok (.aload_n 0, 1) := by decide +kernel
theorem dX4_puts_1 : decode cX4_puts 1 = .ok (.iconst 4, 1) := by decide +kernel
theorem dX4_puts_2 : decode cX4_puts 2 = .ok (.bipush 7, 2) := by decide +kernel
theorem dX4_puts_4 : decode cX4_puts 4 = .ok (.iload_n 1, 1) := by decide +kernel
theorem dX4_puts_5 : decode cX4_puts 5 = .ok (.imul, 1) := by decide +kernel
theorem dX4_puts_6 : decode cX4_puts 6 = .ok (.iadd, 1) := by decide +kernel
theorem dX4_puts_7 : decode cX4_puts 7 = .ok (.iload_n 2, 1) := by decide +kernel
theorem dX4_puts_8 : decode cX4_puts 8 = .ok (.iadd, 1) := by decide +kernel
theorem dX4_puts_9 : decode cX4_puts 9 = .ok (.iload_n 3, 1) := by decide +kernel
theorem dX4_puts_10 : decode cX4_puts 10 = .ok (.iastore, 1) := by decide +kernel
theorem dX4_puts_11 : decode cX4_puts 11 = .ok (.return_, 1) := by decide +kernel
theorem dX4_isOn_0 : decode cX4_isOn 0 = .ok (.aload_n 0, 1) := by decide +kernel
theorem dX4_isOn_1 : decode cX4_isOn 1 = .ok (.iload_n 1, 1) := by decide +kernel
theorem dX4_isOn_2 : decode cX4_isOn 2 = .ok (.iconst 5, 1) := by decide +kernel
theorem dX4_isOn_3 : decode cX4_isOn 3 = .ok (.invokestatic 43, 3) := by decide +kernel
theorem dX4_isOn_6 : decode cX4_isOn 6 = .ok (.iconst 1, 1) := by decide +kernel
theorem dX4_isOn_7 : decode cX4_isOn 7 = .ok (.if_icmp .ne 7, 3) := by decide +kernel
theorem dX4_isOn_10 : decode cX4_isOn 10 = .ok (.iconst 1, 1) := by decide +kernel
theorem dX4_isOn_11 : decode cX4_isOn 11 = .ok (.goto 4, 3) := by decide +kernel
theorem dX4_isOn_14 : decode cX4_isOn 14 = .ok (.iconst 0, 1) := by decide +kernel
theorem dX4_isOn_15 : decode cX4_isOn 15 = .ok (.ireturn, 1) := by decide +kernel
theorem dX4_span_0 : decode cX4_span 0 = .ok (.iconst 1, 1) := by decide +kernel
theorem dX4_span_1 : decode cX4_span 1 = .ok (.aload_n 0, 1) := by decide +kernel
theorem dX4_span_2 : decode cX4_span 2 = .ok (.iload_n 1, 1) := by decide +kernel
theorem dX4_span_3 : decode cX4_span 3 = .ok (.iconst 0, 1) := by decide +kernel
theorem dX4_span_4 : decode cX4_span 4 = .ok (.invokestatic 43, 3) := by decide +kernel
theorem dX4_span_7 : decode cX4_span 7 = .ok (.ishl, 1) := by decide +kernel
theorem dX4_span_8 : decode cX4_span 8 = .ok (.iconst 1, 1) := by decide +kernel
theorem dX4_span_9 : decode cX4_span 9 = .ok (.isub, 1) := by decide +kernel
theorem dX4_span_10 : decode cX4_span 10 = .ok (.aload_n 0, 1) := by decide +kernel
theorem dX4_span_11 : decode cX4_span 11 = .ok (.iload_n 1, 1) := by decide +kernel
theorem dX4_span_12 : decode cX4_span 12 = .ok (.iconst 3, 1) := by decide +kernel
theorem dX4_span_13 : decode cX4_span 13 = .ok (.invokestatic 43, 3) := by decide +kernel
theorem dX4_span_16 : decode cX4_span 16 = .ok (.ishl, 1) := by decide +kernel
theorem dX4_span_17 : decode cX4_span 17 = .ok (.ireturn, 1) := by decide +kernel
theorem dX4_full_0 : decode cX4_full 0 = .ok (.iconst 0, 1) := by decide +kernel
theorem dX4_full_1 : decode cX4_full 1 = .ok (.istore_n 2, 1) := by decide +kernel
theorem dX4_full_2 : decode cX4_full 2 = .ok (.iconst 0, 1) := by decide +kernel
theorem dX4_full_3 : decode cX4_full 3 = .ok (.istore_n 3, 1) := by decide +kernel
theorem dX4_full_4 : decode cX4_full 4 = .ok (.iload_n 3, 1) := by decide +kernel
theorem dX4_full_5 : decode cX4_full 5 = .ok (.aload_n 0, 1) := by decide +kernel
theorem dX4_full_6 : decode cX4_full 6 = .ok (.iconst 0, 1) := by decide +kernel
theorem dX4_full_7 : decode cX4_full 7 = .ok (.iaload, 1) := by decide +kernel
theorem dX4_full_8 : decode cX4_full 8 = .ok (.if_icmp .ge 40, 3) := by decide +kernel
theorem dX4_full_11 : decode cX4_full 11 = .ok (.iload_n 2, 1) := by decide +kernel
theorem dX4_full_12 : decode cX4_full 12 = .ok (.aload_n 0, 1) := by decide +kernel
theorem dX4_full_13 : decode cX4_full 13 = .ok (.iload_n 3, 1) := by decide +kernel
theorem dX4_full_14 : decode cX4_full 14 = .ok (.invokestatic 47, 3) := by decide +kernel
theorem dX4_full_17 : decode cX4_full 17 = .ok (.ifCond .eq 22, 3) := by decide +kernel
theorem dX4_full_20 : decode cX4_full 20 = .ok (.aload_n 0, 1) := by decide +kernel
theorem dX4_full_21 : decode cX4_full 21 = .ok (.iload_n 3, 1) := by decide +kernel
theorem dX4_full_22 : decode cX4_full 22 = .ok (.bipush 6, 2) := by decide +kernel
theorem dX4_full_24 : decode cX4_full 24 = .ok (.invokestatic 43, 3) := by decide +kernel
theorem dX4_full_27 : decode cX4_full 27 = .ok (.iload_n 1, 1) := by decide +kernel
theorem dX4_full_28 : decode cX4_full 28 = .ok (.if_icmp .ne 11, 3) := by decide +kernel
theorem dX4_full_31 : decode cX4_full 31 = .ok (.aload_n 0, 1) := by decide +kernel
theorem dX4_full_32 : decode cX4_full 32 = .ok (.iload_n 3, 1) := by decide +kernel
theorem dX4_full_33 : decode cX4_full 33 = .ok (.invokestatic 51, 3) := by decide +kernel
theorem dX4_full_36 : decode cX4_full 36 = .ok (.goto 4, 3) := by decide +kernel
theorem dX4_full_39 : decode cX4_full 39 = .ok (.iconst 0, 1) := by decide +kernel
theorem dX4_full_40 : decode cX4_full 40 = .ok (.ior, 1) := by decide +kernel
theorem dX4_full_41 : decode cX4_full 41 = .ok (.istore_n 2, 1) := by decide +kernel
theorem dX4_full_42 : decode cX4_full 42 = .ok (.iinc 3 1, 3) := by decide +kernel
theorem dX4_full_45 : decode cX4_full 45 = .ok (.goto (-41), 3) := by decide +kernel
theorem dX4_full_48 : decode cX4_full 48 = .ok (.iload_n 2, 1) := by decide +kernel
theorem dX4_full_49 : decode cX4_full 49 = .ok (.ireturn, 1) := by decide +kernel
theorem dX4_isFree_0 : decode cX4_isFree 0 = .ok (.iload_n 2, 1) := by decide +kernel
theorem dX4_isFree_1 : decode cX4_isFree 1 = .ok (.iconst 0, 1) := by decide +kernel
theorem dX4_isFree_2 : decode cX4_isFree 2 = .ok (.bipush 23, 2) := by decide +kernel
theorem dX4_isFree_4 : decode cX4_isFree 4 = .ok (.invokestatic 55, 3) := by decide +kernel
theorem dX4_isFree_7 : decode cX4_isFree 7 = .ok (.ifCond .eq 19, 3) := by decide +kernel
theorem dX4_isFree_10 : decode cX4_isFree 10 = .ok (.aload_n 0, 1) := by decide +kernel
theorem dX4_isFree_11 : decode cX4_isFree 11 = .ok (.iload_n 1, 1) := by decide +kernel
theorem dX4_isFree_12 : decode cX4_isFree 12 = .ok (.invokestatic 59, 3) := by decide +kernel
theorem dX4_isFree_15 : decode cX4_isFree 15 = .ok (.iload_n 2, 1) := by decide +kernel
theorem dX4_isFree_16 : decode cX4_isFree 16 = .ok (.ishr, 1) := by decide +kernel
theorem dX4_isFree_17 : decode cX4_isFree 17 = .ok (.iconst 1, 1) := by decide +kernel
theorem dX4_isFree_18 : decode cX4_isFree 18 = .ok (.iand, 1) := by decide +kernel
theorem dX4_isFree_19 : decode cX4_isFree 19 = .ok (.ifCond .ne 7, 3) := by decide +kernel
theorem dX4_isFree_22 : decode cX4_isFree 22 = .ok (.iconst 1, 1) := by decide +kernel
theorem dX4_isFree_23 : decode cX4_isFree 23 = .ok (.goto 4, 3) := by decide +kernel
theorem dX4_isFree_26 : decode cX4_isFree 26 = .ok (.iconst 0, 1) := by decide +kernel
theorem dX4_isFree_27 : decode cX4_isFree 27 = .ok (.ireturn, 1) := by decide +kernel
theorem dX4_least_0 : decode cX4_least 0 = .ok (.iconst 0, 1) := by decide +kernel
theorem dX4_least_1 : decode cX4_least 1 = .ok (.istore_n 1, 1) := by decide +kernel
theorem dX4_least_2 : decode cX4_least 2 = .ok (.iload_n 0, 1) := by decide +kernel
theorem dX4_least_3 : decode cX4_least 3 = .ok (.iload_n 1, 1) := by decide +kernel
theorem dX4_least_4 : decode cX4_least 4 = .ok (.ishr, 1) := by decide +kernel
theorem dX4_least_5 : decode cX4_least 5 = .ok (.iconst 1, 1) := by decide +kernel
theorem dX4_least_6 : decode cX4_least 6 = .ok (.iand, 1) := by decide +kernel
theorem dX4_least_7 : decode cX4_least 7 = .ok (.ifCond .ne 9, 3) := by decide +kernel
theorem dX4_least_10 : decode cX4_least 10 = .ok (.iinc 1 1, 3) := by decide +kernel
theorem dX4_least_13 : decode cX4_least 13 = .ok (.goto (-11), 3) := by decide +kernel
theorem dX4_least_16 : decode cX4_least 16 = .ok (.iload_n 1, 1) := by decide +kernel
theorem dX4_least_17 : decode cX4_least 17 = .ok (.ireturn, 1) := by decide +kernel
theorem dX4_greatest_0 : decode cX4_greatest 0 = .ok (.bipush 23, 2) := by decide +kernel
theorem dX4_greatest_2 : decode cX4_greatest 2 = .ok (.istore_n 1, 1) := by decide +kernel
theorem dX4_greatest_3 : decode cX4_greatest 3 = .ok (.iload_n 0, 1) := by decide +kernel
theorem dX4_greatest_4 : decode cX4_greatest 4 = .ok (.iload_n 1, 1) := by decide +kernel
theorem dX4_greatest_5 : decode cX4_greatest 5 = .ok (.ishr, 1) := by decide +kernel
theorem dX4_greatest_6 : decode cX4_greatest 6 = .ok (.iconst 1, 1) := by decide +kernel
theorem dX4_greatest_7 : decode cX4_greatest 7 = .ok (.iand, 1) := by decide +kernel
theorem dX4_greatest_8 : decode cX4_greatest 8 = .ok (.ifCond .ne 9, 3) := by decide +kernel
theorem dX4_greatest_11 : decode cX4_greatest 11 = .ok (.iinc 1 (-1), 3) := by decide +kernel
theorem dX4_greatest_14 : decode cX4_greatest 14 = .ok (.goto (-11), 3) := by decide +kernel
theorem dX4_greatest_17 : decode cX4_greatest 17 = .ok (.iload_n 1, 1) := by decide +kernel
theorem dX4_greatest_18 : decode cX4_greatest 18 = .ok (.ireturn, 1) := by decide +kernel
theorem dX4_stepOf_0 : decode cX4_stepOf 0 = .ok (.aload_n 0, 1) := by decide +kernel
theorem dX4_stepOf_1 : decode cX4_stepOf 1 = .ok (.iload_n 1, 1) := by decide +kernel
theorem dX4_stepOf_2 : decode cX4_stepOf 2 = .ok (.bipush 6, 2) := by decide +kernel
theorem dX4_stepOf_4 : decode cX4_stepOf 4 = .ok (.invokestatic 43, 3) := by decide +kernel
theorem dX4_stepOf_7 : decode cX4_stepOf 7 = .ok (.istore_n 2, 1) := by decide +kernel
theorem dX4_stepOf_8 : decode cX4_stepOf 8 = .ok (.iload_n 2, 1) := by decide +kernel
theorem dX4_stepOf_9 : decode cX4_stepOf 9 = .ok (.bipush 15, 2) := by decide +kernel
theorem dX4_stepOf_11 : decode cX4_stepOf 11 = .ok (.if_icmp .ne 5, 3) := by decide +kernel
theorem dX4_stepOf_14 : decode cX4_stepOf 14 = .ok (.iconst 0, 1) := by decide +kernel
theorem dX4_stepOf_15 : decode cX4_stepOf 15 = .ok (.ireturn, 1) := by decide +kernel
theorem dX4_stepOf_16 : decode cX4_stepOf 16 = .ok (.aload_n 0, 1) := by decide +kernel
theorem dX4_stepOf_17 : decode cX4_stepOf 17 = .ok (.iload_n 2, 1) := by decide +kernel
theorem dX4_stepOf_18 : decode cX4_stepOf 18 = .ok (.iconst 1, 1) := by decide +kernel
theorem dX4_stepOf_19 : decode cX4_stepOf 19 = .ok (.iadd, 1) := by decide +kernel
theorem dX4_stepOf_20 : decode cX4_stepOf 20 = .ok (.invokestatic 59, 3) := by decide +kernel
theorem dX4_stepOf_23 : decode cX4_stepOf 23 = .ok (.aload_n 0, 1) := by decide +kernel
theorem dX4_stepOf_24 : decode cX4_stepOf 24 = .ok (.iload_n 1, 1) := by decide +kernel
theorem dX4_stepOf_25 : decode cX4_stepOf 25 = .ok (.invokestatic 51, 3) := by decide +kernel
theorem dX4_stepOf_28 : decode cX4_stepOf 28 = .ok (.iand, 1) := by decide +kernel
theorem dX4_stepOf_29 : decode cX4_stepOf 29 = .ok (.istore_n 3, 1) := by decide +kernel
theorem dX4_stepOf_30 : decode cX4_stepOf 30 = .ok (.iload_n 3, 1) := by decide +kernel
theorem dX4_stepOf_31 : decode cX4_stepOf 31 = .ok (.ifCond .ne 5, 3) := by decide +kernel
theorem dX4_stepOf_34 : decode cX4_stepOf 34 = .ok (.iconst 1, 1) := by decide +kernel
theorem dX4_stepOf_35 : decode cX4_stepOf 35 = .ok (.ireturn, 1) := by decide +kernel
theorem dX4_stepOf_36 : decode cX4_stepOf 36 = .ok (.aload_n 0, 1) := by decide +kernel
theorem dX4_stepOf_37 : decode cX4_stepOf 37 = .ok (.iload_n 1, 1) := by decide +kernel
theorem dX4_stepOf_38 : decode cX4_stepOf 38 = .ok (.iconst 3, 1) := by decide +kernel
theorem dX4_stepOf_39 : decode cX4_stepOf 39 = .ok (.invokestatic 43, 3) := by decide +kernel
theorem dX4_stepOf_42 : decode cX4_stepOf 42 = .ok (.istore 4, 2) := by decide +kernel
theorem dX4_stepOf_44 : decode cX4_stepOf 44 = .ok (.iload 4, 2) := by decide +kernel
theorem dX4_stepOf_46 : decode cX4_stepOf 46 = .ok (.aload_n 0, 1) := by decide +kernel
theorem dX4_stepOf_47 : decode cX4_stepOf 47 = .ok (.iload_n 1, 1) := by decide +kernel
theorem dX4_stepOf_48 : decode cX4_stepOf 48 = .ok (.iconst 0, 1) := by decide +kernel
theorem dX4_stepOf_49 : decode cX4_stepOf 49 = .ok (.invokestatic 43, 3) := by decide +kernel
theorem dX4_stepOf_52 : decode cX4_stepOf 52 = .ok (.iadd, 1) := by decide +kernel
theorem dX4_stepOf_53 : decode cX4_stepOf 53 = .ok (.iconst 1, 1) := by decide +kernel
theorem dX4_stepOf_54 : decode cX4_stepOf 54 = .ok (.isub, 1) := by decide +kernel
theorem dX4_stepOf_55 : decode cX4_stepOf 55 = .ok (.istore 5, 2) := by decide +kernel
theorem dX4_stepOf_57 : decode cX4_stepOf 57 = .ok (.iload 4, 2) := by decide +kernel
theorem dX4_stepOf_59 : decode cX4_stepOf 59 = .ok (.iload 5, 2) := by decide +kernel
theorem dX4_stepOf_61 : decode cX4_stepOf 61 = .ok (.iadd, 1) := by decide +kernel
theorem dX4_stepOf_62 : decode cX4_stepOf 62 = .ok (.iconst 2, 1) := by decide +kernel
theorem dX4_stepOf_63 : decode cX4_stepOf 63 = .ok (.iload_n 3, 1) := by decide +kernel
theorem dX4_stepOf_64 : decode cX4_stepOf 64 = .ok (.invokestatic 62, 3) := by decide +kernel
theorem dX4_stepOf_67 : decode cX4_stepOf 67 = .ok (.imul, 1) := by decide +kernel
theorem dX4_stepOf_68 : decode cX4_stepOf 68 = .ok (.if_icmp .ge 21, 3) := by decide +kernel
theorem dX4_stepOf_71 : decode cX4_stepOf 71 = .ok (.aload_n 0, 1) := by decide +kernel
theorem dX4_stepOf_72 : decode cX4_stepOf 72 = .ok (.iload_n 2, 1) := by decide +kernel
theorem dX4_stepOf_73 : decode cX4_stepOf 73 = .ok (.iload 4, 2) := by decide +kernel
theorem dX4_stepOf_75 : decode cX4_stepOf 75 = .ok (.iconst 1, 1) := by decide +kernel
theorem dX4_stepOf_76 : decode cX4_stepOf 76 = .ok (.isub, 1) := by decide +kernel
theorem dX4_stepOf_77 : decode cX4_stepOf 77 = .ok (.invokestatic 66, 3) := by decide +kernel
theorem dX4_stepOf_80 : decode cX4_stepOf 80 = .ok (.ifCond .eq 7, 3) := by decide +kernel
theorem dX4_stepOf_83 : decode cX4_stepOf 83 = .ok (.iconst 2, 1) := by decide +kernel
theorem dX4_stepOf_84 : decode cX4_stepOf 84 = .ok (.goto 4, 3) := by decide +kernel
theorem dX4_stepOf_87 : decode cX4_stepOf 87 = .ok (.iconst 0, 1) := by decide +kernel
theorem dX4_stepOf_88 : decode cX4_stepOf 88 = .ok (.ireturn, 1) := by decide +kernel
theorem dX4_stepOf_89 : decode cX4_stepOf 89 = .ok (.iload 4, 2) := by decide +kernel
theorem dX4_stepOf_91 : decode cX4_stepOf 91 = .ok (.iload 5, 2) := by decide +kernel
theorem dX4_stepOf_93 : decode cX4_stepOf 93 = .ok (.iadd, 1) := by decide +kernel
theorem dX4_stepOf_94 : decode cX4_stepOf 94 = .ok (.iconst 2, 1) := by decide +kernel
theorem dX4_stepOf_95 : decode cX4_stepOf 95 = .ok (.iload_n 3, 1) := by decide +kernel
theorem dX4_stepOf_96 : decode cX4_stepOf 96 = .ok (.invokestatic 70, 3) := by decide +kernel
theorem dX4_stepOf_99 : decode cX4_stepOf 99 = .ok (.imul, 1) := by decide +kernel
theorem dX4_stepOf_100 : decode cX4_stepOf 100 = .ok (.if_icmp .le 19, 3) := by decide +kernel
theorem dX4_stepOf_103 : decode cX4_stepOf 103 = .ok (.aload_n 0, 1) := by decide +kernel
theorem dX4_stepOf_104 : decode cX4_stepOf 104 = .ok (.iload_n 2, 1) := by decide +kernel
theorem dX4_stepOf_105 : decode cX4_stepOf 105 = .ok (.iload 5, 2) := by decide +kernel
theorem dX4_stepOf_107 : decode cX4_stepOf 107 = .ok (.iconst 1, 1) := by decide +kernel
theorem dX4_stepOf_108 : decode cX4_stepOf 108 = .ok (.iadd, 1) := by decide +kernel
theorem dX4_stepOf_109 : decode cX4_stepOf 109 = .ok (.invokestatic 66, 3) := by decide +kernel
theorem dX4_stepOf_112 : decode cX4_stepOf 112 = .ok (.ifCond .eq 7, 3) := by decide +kernel
theorem dX4_stepOf_115 : decode cX4_stepOf 115 = .ok (.iconst 3, 1) := by decide +kernel
theorem dX4_stepOf_116 : decode cX4_stepOf 116 = .ok (.goto 4, 3) := by decide +kernel
theorem dX4_stepOf_119 : decode cX4_stepOf 119 = .ok (.iconst 0, 1) := by decide +kernel
theorem dX4_stepOf_120 : decode cX4_stepOf 120 = .ok (.ireturn, 1) := by decide +kernel
theorem dX4_isAtRest_0 : decode cX4_isAtRest 0 = .ok (.aload_n 0, 1) := by decide +kernel
theorem dX4_isAtRest_1 : decode cX4_isAtRest 1 = .ok (.iload_n 1, 1) := by decide +kernel
theorem dX4_isAtRest_2 : decode cX4_isAtRest 2 = .ok (.invokestatic 47, 3) := by decide +kernel
theorem dX4_isAtRest_5 : decode cX4_isAtRest 5 = .ok (.ifCond .eq 15, 3) := by decide +kernel
theorem dX4_isAtRest_8 : decode cX4_isAtRest 8 = .ok (.aload_n 0, 1) := by decide +kernel
theorem dX4_isAtRest_9 : decode cX4_isAtRest 9 = .ok (.iload_n 1, 1) := by decide +kernel
theorem dX4_isAtRest_10 : decode cX4_isAtRest 10 = .ok (.invokestatic 73, 3) := by decide +kernel
theorem dX4_isAtRest_13 : decode cX4_isAtRest 13 = .ok (.ifCond .ne 7, 3) := by decide +kernel
theorem dX4_isAtRest_16 : decode cX4_isAtRest 16 = .ok (.iconst 1, 1) := by decide +kernel
theorem dX4_isAtRest_17 : decode cX4_isAtRest 17 = .ok (.goto 4, 3) := by decide +kernel
theorem dX4_isAtRest_20 : decode cX4_isAtRest 20 = .ok (.iconst 0, 1) := by decide +kernel
theorem dX4_isAtRest_21 : decode cX4_isAtRest 21 = .ok (.ireturn, 1) := by decide +kernel
theorem dX4_isAbove_0 : decode cX4_isAbove 0 = .ok (.aload_n 0, 1) := by decide +kernel
theorem dX4_isAbove_1 : decode cX4_isAbove 1 = .ok (.iload_n 1, 1) := by decide +kernel
theorem dX4_isAbove_2 : decode cX4_isAbove 2 = .ok (.invokestatic 47, 3) := by decide +kernel
theorem dX4_isAbove_5 : decode cX4_isAbove 5 = .ok (.ifCond .eq 48, 3) := by decide +kernel
theorem dX4_isAbove_8 : decode cX4_isAbove 8 = .ok (.aload_n 0, 1) := by decide +kernel
theorem dX4_isAbove_9 : decode cX4_isAbove 9 = .ok (.iload_n 2, 1) := by decide +kernel
theorem dX4_isAbove_10 : decode cX4_isAbove 10 = .ok (.invokestatic 47, 3) := by decide +kernel
theorem dX4_isAbove_13 : decode cX4_isAbove 13 = .ok (.ifCond .eq 40, 3) := by decide +kernel
theorem dX4_isAbove_16 : decode cX4_isAbove 16 = .ok (.aload_n 0, 1) := by decide +kernel
theorem dX4_isAbove_17 : decode cX4_isAbove 17 = .ok (.iload_n 2, 1) := by decide +kernel
theorem dX4_isAbove_18 : decode cX4_isAbove 18 = .ok (.bipush 6, 2) := by decide +kernel
theorem dX4_isAbove_20 : decode cX4_isAbove 20 = .ok (.invokestatic 43, 3) := by decide +kernel
theorem dX4_isAbove_23 : decode cX4_isAbove 23 = .ok (.aload_n 0, 1) := by decide +kernel
theorem dX4_isAbove_24 : decode cX4_isAbove 24 = .ok (.iload_n 1, 1) := by decide +kernel
theorem dX4_isAbove_25 : decode cX4_isAbove 25 = .ok (.bipush 6, 2) := by decide +kernel
theorem dX4_isAbove_27 : decode cX4_isAbove 27 = .ok (.invokestatic 43, 3) := by decide +kernel
theorem dX4_isAbove_30 : decode cX4_isAbove 30 = .ok (.iconst 1, 1) := by decide +kernel
theorem dX4_isAbove_31 : decode cX4_isAbove 31 = .ok (.isub, 1) := by decide +kernel
theorem dX4_isAbove_32 : decode cX4_isAbove 32 = .ok (.if_icmp .ne 21, 3) := by decide +kernel
theorem dX4_isAbove_35 : decode cX4_isAbove 35 = .ok (.aload_n 0, 1) := by decide +kernel
theorem dX4_isAbove_36 : decode cX4_isAbove 36 = .ok (.iload_n 2, 1) := by decide +kernel
theorem dX4_isAbove_37 : decode cX4_isAbove 37 = .ok (.invokestatic 51, 3) := by decide +kernel
theorem dX4_isAbove_40 : decode cX4_isAbove 40 = .ok (.aload_n 0, 1) := by decide +kernel
theorem dX4_isAbove_41 : decode cX4_isAbove 41 = .ok (.iload_n 1, 1) := by decide +kernel
theorem dX4_isAbove_42 : decode cX4_isAbove 42 = .ok (.invokestatic 51, 3) := by decide +kernel
theorem dX4_isAbove_45 : decode cX4_isAbove 45 = .ok (.iand, 1) := by decide +kernel
theorem dX4_isAbove_46 : decode cX4_isAbove 46 = .ok (.ifCond .eq 7, 3) := by decide +kernel
theorem dX4_isAbove_49 : decode cX4_isAbove 49 = .ok (.iconst 1, 1) := by decide +kernel
theorem dX4_isAbove_50 : decode cX4_isAbove 50 = .ok (.goto 4, 3) := by decide +kernel
theorem dX4_isAbove_53 : decode cX4_isAbove 53 = .ok (.iconst 0, 1) := by decide +kernel
theorem dX4_isAbove_54 : decode cX4_isAbove 54 = .ok (.ireturn, 1) := by decide +kernel
theorem dX4_load_0 : decode cX4_load 0 = .ok (.iconst 0, 1) := by decide +kernel
theorem dX4_load_1 : decode cX4_load 1 = .ok (.istore_n 2, 1) := by decide +kernel
theorem dX4_load_2 : decode cX4_load 2 = .ok (.iconst 0, 1) := by decide +kernel
theorem dX4_load_3 : decode cX4_load 3 = .ok (.istore_n 3, 1) := by decide +kernel
theorem dX4_load_4 : decode cX4_load 4 = .ok (.iload_n 3, 1) := by decide +kernel
theorem dX4_load_5 : decode cX4_load 5 = .ok (.aload_n 0, 1) := by decide +kernel
theorem dX4_load_6 : decode cX4_load 6 = .ok (.iconst 0, 1) := by decide +kernel
theorem dX4_load_7 : decode cX4_load 7 = .ok (.iaload, 1) := by decide +kernel
theorem dX4_load_8 : decode cX4_load 8 = .ok (.if_icmp .ge 31, 3) := by decide +kernel
theorem dX4_load_11 : decode cX4_load 11 = .ok (.iload_n 2, 1) := by decide +kernel
theorem dX4_load_12 : decode cX4_load 12 = .ok (.aload_n 0, 1) := by decide +kernel
theorem dX4_load_13 : decode cX4_load 13 = .ok (.iload_n 1, 1) := by decide +kernel
theorem dX4_load_14 : decode cX4_load 14 = .ok (.iload_n 3, 1) := by decide +kernel
theorem dX4_load_15 : decode cX4_load 15 = .ok (.invokestatic 76, 3) := by decide +kernel
theorem dX4_load_18 : decode cX4_load 18 = .ok (.ifCond .eq 12, 3) := by decide +kernel
theorem dX4_load_21 : decode cX4_load 21 = .ok (.aload_n 0, 1) := by decide +kernel
theorem dX4_load_22 : decode cX4_load 22 = .ok (.iload_n 3, 1) := by decide +kernel
theorem dX4_load_23 : decode cX4_load 23 = .ok (.iconst 1, 1) := by decide +kernel
theorem dX4_load_24 : decode cX4_load 24 = .ok (.invokestatic 43, 3) := by decide +kernel
theorem dX4_load_27 : decode cX4_load 27 = .ok (.goto 4, 3) := by decide +kernel
theorem dX4_load_30 : decode cX4_load 30 = .ok (.iconst 0, 1) := by decide +kernel
theorem dX4_load_31 : decode cX4_load 31 = .ok (.iadd, 1) := by decide +kernel
theorem dX4_load_32 : decode cX4_load 32 = .ok (.istore_n 2, 1) := by decide +kernel
theorem dX4_load_33 : decode cX4_load 33 = .ok (.iinc 3 1, 3) := by decide +kernel
theorem dX4_load_36 : decode cX4_load 36 = .ok (.goto (-32), 3) := by decide +kernel
theorem dX4_load_39 : decode cX4_load 39 = .ok (.iload_n 2, 1) := by decide +kernel
theorem dX4_load_40 : decode cX4_load 40 = .ok (.ireturn, 1) := by decide +kernel
theorem dX4_strength_0 : decode cX4_strength 0 = .ok (.aload_n 0, 1) := by decide +kernel
theorem dX4_strength_1 : decode cX4_strength 1 = .ok (.iconst 2, 1) := by decide +kernel
theorem dX4_strength_2 : decode cX4_strength 2 = .ok (.iaload, 1) := by decide +kernel
theorem dX4_strength_3 : decode cX4_strength 3 = .ok (.aload_n 0, 1) := by decide +kernel
theorem dX4_strength_4 : decode cX4_strength 4 = .ok (.iload_n 1, 1) := by decide +kernel
theorem dX4_strength_5 : decode cX4_strength 5 = .ok (.iconst 0, 1) := by decide +kernel
theorem dX4_strength_6 : decode cX4_strength 6 = .ok (.invokestatic 43, 3) := by decide +kernel
theorem dX4_strength_9 : decode cX4_strength 9 = .ok (.imul, 1) := by decide +kernel
theorem dX4_strength_10 : decode cX4_strength 10 = .ok (.ireturn, 1) := by decide +kernel
theorem dX4_isAllAtRest_0 : decode cX4_isAllAtRest 0 = .ok (.iconst 1, 1) := by decide +kernel
theorem dX4_isAllAtRest_1 : decode cX4_isAllAtRest 1 = .ok (.istore_n 1, 1) := by decide +kernel
theorem dX4_isAllAtRest_2 : decode cX4_isAllAtRest 2 = .ok (.iconst 0, 1) := by decide +kernel
theorem dX4_isAllAtRest_3 : decode cX4_isAllAtRest 3 = .ok (.istore_n 2, 1) := by decide +kernel
theorem dX4_isAllAtRest_4 : decode cX4_isAllAtRest 4 = .ok (.iload_n 2, 1) := by decide +kernel
theorem dX4_isAllAtRest_5 : decode cX4_isAllAtRest 5 = .ok (.aload_n 0, 1) := by decide +kernel
theorem dX4_isAllAtRest_6 : decode cX4_isAllAtRest 6 = .ok (.iconst 0, 1) := by decide +kernel
theorem dX4_isAllAtRest_7 : decode cX4_isAllAtRest 7 = .ok (.iaload, 1) := by decide +kernel
theorem dX4_isAllAtRest_8 : decode cX4_isAllAtRest 8 = .ok (.if_icmp .ge 80, 3) := by decide +kernel
theorem dX4_isAllAtRest_11 : decode cX4_isAllAtRest 11 = .ok (.aload_n 0, 1) := by decide +kernel
theorem dX4_isAllAtRest_12 : decode cX4_isAllAtRest 12 = .ok (.iload_n 2, 1) := by decide +kernel
theorem dX4_isAllAtRest_13 : decode cX4_isAllAtRest 13 = .ok (.iconst 5, 1) := by decide +kernel
theorem dX4_isAllAtRest_14 : decode cX4_isAllAtRest 14 = .ok (.invokestatic 43, 3) := by decide +kernel
theorem dX4_isAllAtRest_17 : decode cX4_isAllAtRest 17 = .ok (.istore_n 3, 1) := by decide +kernel
theorem dX4_isAllAtRest_18 : decode cX4_isAllAtRest 18 = .ok (.iload_n 3, 1) := by decide +kernel
theorem dX4_isAllAtRest_19 : decode cX4_isAllAtRest 19 = .ok (.iconst 3, 1) := by decide +kernel
theorem dX4_isAllAtRest_20 : decode cX4_isAllAtRest 20 = .ok (.if_icmp .eq 40, 3) := by decide +kernel
theorem dX4_isAllAtRest_23 : decode cX4_isAllAtRest 23 = .ok (.iload_n 3, 1) := by decide +kernel
theorem dX4_isAllAtRest_24 : decode cX4_isAllAtRest 24 = .ok (.ifCond .ne 15, 3) := by decide +kernel
theorem dX4_isAllAtRest_27 : decode cX4_isAllAtRest 27 = .ok (.aload_n 0, 1) := by decide +kernel
theorem dX4_isAllAtRest_28 : decode cX4_isAllAtRest 28 = .ok (.iload_n 2, 1) := by decide +kernel
theorem dX4_isAllAtRest_29 : decode cX4_isAllAtRest 29 = .ok (.iconst 4, 1) := by decide +kernel
theorem dX4_isAllAtRest_30 : decode cX4_isAllAtRest 30 = .ok (.invokestatic 43, 3) := by decide +kernel
theorem dX4_isAllAtRest_33 : decode cX4_isAllAtRest 33 = .ok (.aload_n 0, 1) := by decide +kernel
theorem dX4_isAllAtRest_34 : decode cX4_isAllAtRest 34 = .ok (.iconst 1, 1) := by decide +kernel
theorem dX4_isAllAtRest_35 : decode cX4_isAllAtRest 35 = .ok (.iaload, 1) := by decide +kernel
theorem dX4_isAllAtRest_36 : decode cX4_isAllAtRest 36 = .ok (.if_icmp .gt 24, 3) := by decide +kernel
theorem dX4_isAllAtRest_39 : decode cX4_isAllAtRest 39 = .ok (.aload_n 0, 1) := by decide +kernel
theorem dX4_isAllAtRest_40 : decode cX4_isAllAtRest 40 = .ok (.iload_n 2, 1) := by decide +kernel
theorem dX4_isAllAtRest_41 : decode cX4_isAllAtRest 41 = .ok (.invokestatic 79, 3) := by decide +kernel
theorem dX4_isAllAtRest_44 : decode cX4_isAllAtRest 44 = .ok (.ifCond .eq 20, 3) := by decide +kernel
theorem dX4_isAllAtRest_47 : decode cX4_isAllAtRest 47 = .ok (.aload_n 0, 1) := by decide +kernel
theorem dX4_isAllAtRest_48 : decode cX4_isAllAtRest 48 = .ok (.iload_n 2, 1) := by decide +kernel
theorem dX4_isAllAtRest_49 : decode cX4_isAllAtRest 49 = .ok (.invokestatic 82, 3) := by decide +kernel
theorem dX4_isAllAtRest_52 : decode cX4_isAllAtRest 52 = .ok (.aload_n 0, 1) := by decide +kernel
theorem dX4_isAllAtRest_53 : decode cX4_isAllAtRest 53 = .ok (.iload_n 2, 1) := by decide +kernel
theorem dX4_isAllAtRest_54 : decode cX4_isAllAtRest 54 = .ok (.invokestatic 85, 3) := by decide +kernel
theorem dX4_isAllAtRest_57 : decode cX4_isAllAtRest 57 = .ok (.if_icmp .gt 7, 3) := by decide +kernel
theorem dX4_isAllAtRest_60 : decode cX4_isAllAtRest 60 = .ok (.iconst 1, 1) := by decide +kernel
theorem dX4_isAllAtRest_61 : decode cX4_isAllAtRest 61 = .ok (.goto 4, 3) := by decide +kernel
theorem dX4_isAllAtRest_64 : decode cX4_isAllAtRest 64 = .ok (.iconst 0, 1) := by decide +kernel
theorem dX4_isAllAtRest_65 : decode cX4_isAllAtRest 65 = .ok (.istore 4, 2) := by decide +kernel
theorem dX4_isAllAtRest_67 : decode cX4_isAllAtRest 67 = .ok (.iload_n 1, 1) := by decide +kernel
theorem dX4_isAllAtRest_68 : decode cX4_isAllAtRest 68 = .ok (.ifCond .eq 12, 3) := by decide +kernel
theorem dX4_isAllAtRest_71 : decode cX4_isAllAtRest 71 = .ok (.iload 4, 2) := by decide +kernel
theorem dX4_isAllAtRest_73 : decode cX4_isAllAtRest 73 = .ok (.ifCond .eq 7, 3) := by decide +kernel
theorem dX4_isAllAtRest_76 : decode cX4_isAllAtRest 76 = .ok (.iconst 1, 1) := by decide +kernel
theorem dX4_isAllAtRest_77 : decode cX4_isAllAtRest 77 = .ok (.goto 4, 3) := by decide +kernel
theorem dX4_isAllAtRest_80 : decode cX4_isAllAtRest 80 = .ok (.iconst 0, 1) := by decide +kernel
theorem dX4_isAllAtRest_81 : decode cX4_isAllAtRest 81 = .ok (.istore_n 1, 1) := by decide +kernel
theorem dX4_isAllAtRest_82 : decode cX4_isAllAtRest 82 = .ok (.iinc 2 1, 3) := by decide +kernel
theorem dX4_isAllAtRest_85 : decode cX4_isAllAtRest 85 = .ok (.goto (-81), 3) := by decide +kernel
theorem dX4_isAllAtRest_88 : decode cX4_isAllAtRest 88 = .ok (.iload_n 1, 1) := by decide +kernel
theorem dX4_isAllAtRest_89 : decode cX4_isAllAtRest 89 = .ok (.ireturn, 1) := by decide +kernel
theorem dX4_next_0 : decode cX4_next 0 = .ok (.iconst (-1), 1) := by decide +kernel
theorem dX4_next_1 : decode cX4_next 1 = .ok (.istore_n 2, 1) := by decide +kernel
theorem dX4_next_2 : decode cX4_next 2 = .ok (.iconst 0, 1) := by decide +kernel
theorem dX4_next_3 : decode cX4_next 3 = .ok (.istore_n 3, 1) := by decide +kernel
theorem dX4_next_4 : decode cX4_next 4 = .ok (.iload_n 3, 1) := by decide +kernel
theorem dX4_next_5 : decode cX4_next 5 = .ok (.aload_n 1, 1) := by decide +kernel
theorem dX4_next_6 : decode cX4_next 6 = .ok (.iconst 0, 1) := by decide +kernel
theorem dX4_next_7 : decode cX4_next 7 = .ok (.iaload, 1) := by decide +kernel
theorem dX4_next_8 : decode cX4_next 8 = .ok (.if_icmp .ge 44, 3) := by decide +kernel
theorem dX4_next_11 : decode cX4_next 11 = .ok (.aload_n 0, 1) := by decide +kernel
theorem dX4_next_12 : decode cX4_next 12 = .ok (.getfield 22, 3) := by decide +kernel
theorem dX4_next_15 : decode cX4_next 15 = .ok (.iload_n 3, 1) := by decide +kernel
theorem dX4_next_16 : decode cX4_next 16 = .ok (.iaload, 1) := by decide +kernel
theorem dX4_next_17 : decode cX4_next 17 = .ok (.ifCond .lt 27, 3) := by decide +kernel
theorem dX4_next_20 : decode cX4_next 20 = .ok (.iload_n 2, 1) := by decide +kernel
theorem dX4_next_21 : decode cX4_next 21 = .ok (.iconst (-1), 1) := by decide +kernel
theorem dX4_next_22 : decode cX4_next 22 = .ok (.if_icmp .eq 18, 3) := by decide +kernel
theorem dX4_next_25 : decode cX4_next 25 = .ok (.aload_n 0, 1) := by decide +kernel
theorem dX4_next_26 : decode cX4_next 26 = .ok (.getfield 22, 3) := by decide +kernel
theorem dX4_next_29 : decode cX4_next 29 = .ok (.iload_n 3, 1) := by decide +kernel
theorem dX4_next_30 : decode cX4_next 30 = .ok (.iaload, 1) := by decide +kernel
theorem dX4_next_31 : decode cX4_next 31 = .ok (.aload_n 0, 1) := by decide +kernel
theorem dX4_next_32 : decode cX4_next 32 = .ok (.getfield 22, 3) := by decide +kernel
theorem dX4_next_35 : decode cX4_next 35 = .ok (.iload_n 2, 1) := by decide +kernel
theorem dX4_next_36 : decode cX4_next 36 = .ok (.iaload, 1) := by decide +kernel
theorem dX4_next_37 : decode cX4_next 37 = .ok (.if_icmp .le 7, 3) := by decide +kernel
theorem dX4_next_40 : decode cX4_next 40 = .ok (.iload_n 3, 1) := by decide +kernel
theorem dX4_next_41 : decode cX4_next 41 = .ok (.goto 4, 3) := by decide +kernel
theorem dX4_next_44 : decode cX4_next 44 = .ok (.iload_n 2, 1) := by decide +kernel
theorem dX4_next_45 : decode cX4_next 45 = .ok (.istore_n 2, 1) := by decide +kernel
theorem dX4_next_46 : decode cX4_next 46 = .ok (.iinc 3 1, 3) := by decide +kernel
theorem dX4_next_49 : decode cX4_next 49 = .ok (.goto (-45), 3) := by decide +kernel
theorem dX4_next_52 : decode cX4_next 52 = .ok (.iload_n 2, 1) := by decide +kernel
theorem dX4_next_53 : decode cX4_next 53 = .ok (.iconst (-1), 1) := by decide +kernel
theorem dX4_next_54 : decode cX4_next 54 = .ok (.if_icmp .eq 10, 3) := by decide +kernel
theorem dX4_next_57 : decode cX4_next 57 = .ok (.aload_n 0, 1) := by decide +kernel
theorem dX4_next_58 : decode cX4_next 58 = .ok (.getfield 22, 3) := by decide +kernel
theorem dX4_next_61 : decode cX4_next 61 = .ok (.iload_n 2, 1) := by decide +kernel
theorem dX4_next_62 : decode cX4_next 62 = .ok (.iconst (-1), 1) := by decide +kernel
theorem dX4_next_63 : decode cX4_next 63 = .ok (.iastore, 1) := by decide +kernel
theorem dX4_next_64 : decode cX4_next 64 = .ok (.iload_n 2, 1) := by decide +kernel
theorem dX4_next_65 : decode cX4_next 65 = .ok (.ireturn, 1) := by decide +kernel
theorem dX4_keyOf_0 : decode cX4_keyOf 0 = .ok (.sipush 10000, 3) := by decide +kernel
theorem dX4_keyOf_3 : decode cX4_keyOf 3 = .ok (.iload_n 2, 1) := by decide +kernel
theorem dX4_keyOf_4 : decode cX4_keyOf 4 = .ok (.imul, 1) := by decide +kernel
theorem dX4_keyOf_5 : decode cX4_keyOf 5 = .ok (.bipush 100, 2) := by decide +kernel
theorem dX4_keyOf_7 : decode cX4_keyOf 7 = .ok (.aload_n 0, 1) := by decide +kernel
theorem dX4_keyOf_8 : decode cX4_keyOf 8 = .ok (.iload_n 1, 1) := by decide +kernel
theorem dX4_keyOf_9 : decode cX4_keyOf 9 = .ok (.iconst 1, 1) := by decide +kernel
theorem dX4_keyOf_10 : decode cX4_keyOf 10 = .ok (.invokestatic 43, 3) := by decide +kernel
theorem dX4_keyOf_13 : decode cX4_keyOf 13 = .ok (.imul, 1) := by decide +kernel
theorem dX4_keyOf_14 : decode cX4_keyOf 14 = .ok (.iadd, 1) := by decide +kernel
theorem dX4_keyOf_15 : decode cX4_keyOf 15 = .ok (.bipush 99, 2) := by decide +kernel
theorem dX4_keyOf_17 : decode cX4_keyOf 17 = .ok (.iadd, 1) := by decide +kernel
theorem dX4_keyOf_18 : decode cX4_keyOf 18 = .ok (.iload_n 1, 1) := by decide +kernel
theorem dX4_keyOf_19 : decode cX4_keyOf 19 = .ok (.isub, 1) := by decide +kernel
theorem dX4_keyOf_20 : decode cX4_keyOf 20 = .ok (.ireturn, 1) := by decide +kernel
theorem dX4_come_0 : decode cX4_come 0 = .ok (.iconst 0, 1) := by decide +kernel
theorem dX4_come_1 : decode cX4_come 1 = .ok (.istore_n 2, 1) := by decide +kernel
theorem dX4_come_2 : decode cX4_come 2 = .ok (.iload_n 2, 1) := by decide +kernel
theorem dX4_come_3 : decode cX4_come 3 = .ok (.aload_n 1, 1) := by decide +kernel
theorem dX4_come_4 : decode cX4_come 4 = .ok (.iconst 0, 1) := by decide +kernel
theorem dX4_come_5 : decode cX4_come 5 = .ok (.iaload, 1) := by decide +kernel
theorem dX4_come_6 : decode cX4_come 6 = .ok (.if_icmp .ge 46, 3) := by decide +kernel
theorem dX4_come_9 : decode cX4_come 9 = .ok (.aload_n 0, 1) := by decide +kernel
theorem dX4_come_10 : decode cX4_come 10 = .ok (.getfield 22, 3) := by decide +kernel
theorem dX4_come_13 : decode cX4_come 13 = .ok (.iload_n 2, 1) := by decide +kernel
theorem dX4_come_14 : decode cX4_come 14 = .ok (.aload_n 1, 1) := by decide +kernel
theorem dX4_come_15 : decode cX4_come 15 = .ok (.iload_n 2, 1) := by decide +kernel
theorem dX4_come_16 : decode cX4_come 16 = .ok (.iconst 5, 1) := by decide +kernel
theorem dX4_come_17 : decode cX4_come 17 = .ok (.invokestatic 43, 3) := by decide +kernel
theorem dX4_come_20 : decode cX4_come 20 = .ok (.ifCond .ne 24, 3) := by decide +kernel
theorem dX4_come_23 : decode cX4_come 23 = .ok (.aload_n 1, 1) := by decide +kernel
theorem dX4_come_24 : decode cX4_come 24 = .ok (.iload_n 2, 1) := by decide +kernel
theorem dX4_come_25 : decode cX4_come 25 = .ok (.iconst 4, 1) := by decide +kernel
theorem dX4_come_26 : decode cX4_come 26 = .ok (.invokestatic 43, 3) := by decide +kernel
theorem dX4_come_29 : decode cX4_come 29 = .ok (.aload_n 1, 1) := by decide +kernel
theorem dX4_come_30 : decode cX4_come 30 = .ok (.iconst 1, 1) := by decide +kernel
theorem dX4_come_31 : decode cX4_come 31 = .ok (.iaload, 1) := by decide +kernel
theorem dX4_come_32 : decode cX4_come 32 = .ok (.if_icmp .gt 12, 3) := by decide +kernel
theorem dX4_come_35 : decode cX4_come 35 = .ok (.aload_n 1, 1) := by decide +kernel
theorem dX4_come_36 : decode cX4_come 36 = .ok (.iload_n 2, 1) := by decide +kernel
theorem dX4_come_37 : decode cX4_come 37 = .ok (.iconst 0, 1) := by decide +kernel
theorem dX4_come_38 : decode cX4_come 38 = .ok (.invokestatic 88, 3) := by decide +kernel
theorem dX4_come_41 : decode cX4_come 41 = .ok (.goto 4, 3) := by decide +kernel
theorem dX4_come_44 : decode cX4_come 44 = .ok (.iconst (-1), 1) := by decide +kernel
theorem dX4_come_45 : decode cX4_come 45 = .ok (.iastore, 1) := by decide +kernel
theorem dX4_come_46 : decode cX4_come 46 = .ok (.iinc 2 1, 3) := by decide +kernel
theorem dX4_come_49 : decode cX4_come 49 = .ok (.goto (-47), 3) := by decide +kernel
theorem dX4_come_52 : decode cX4_come 52 = .ok (.aload_n 0, 1) := by decide +kernel
theorem dX4_come_53 : decode cX4_come 53 = .ok (.aload_n 1, 1) := by decide +kernel
theorem dX4_come_54 : decode cX4_come 54 = .ok (.invokevirtual 91, 3) := by decide +kernel
theorem dX4_come_57 : decode cX4_come 57 = .ok (.istore_n 2, 1) := by decide +kernel
theorem dX4_come_58 : decode cX4_come 58 = .ok (.iload_n 2, 1) := by decide +kernel
theorem dX4_come_59 : decode cX4_come 59 = .ok (.iconst (-1), 1) := by decide +kernel
theorem dX4_come_60 : decode cX4_come 60 = .ok (.if_icmp .eq 41, 3) := by decide +kernel
theorem dX4_come_63 : decode cX4_come 63 = .ok (.aload_n 1, 1) := by decide +kernel
theorem dX4_come_64 : decode cX4_come 64 = .ok (.iconst 0, 1) := by decide +kernel
theorem dX4_come_65 : decode cX4_come 65 = .ok (.invokestatic 59, 3) := by decide +kernel
theorem dX4_come_68 : decode cX4_come 68 = .ok (.aload_n 1, 1) := by decide +kernel
theorem dX4_come_69 : decode cX4_come 69 = .ok (.iload_n 2, 1) := by decide +kernel
theorem dX4_come_70 : decode cX4_come 70 = .ok (.invokestatic 51, 3) := by decide +kernel
theorem dX4_come_73 : decode cX4_come 73 = .ok (.iand, 1) := by decide +kernel
theorem dX4_come_74 : decode cX4_come 74 = .ok (.ifCond .ne 18, 3) := by decide +kernel
theorem dX4_come_77 : decode cX4_come 77 = .ok (.aload_n 1, 1) := by decide +kernel
theorem dX4_come_78 : decode cX4_come 78 = .ok (.iload_n 2, 1) := by decide +kernel
theorem dX4_come_79 : decode cX4_come 79 = .ok (.iconst 5, 1) := by decide +kernel
theorem dX4_come_80 : decode cX4_come 80 = .ok (.iconst 1, 1) := by decide +kernel
theorem dX4_come_81 : decode cX4_come 81 = .ok (.invokestatic 95, 3) := by decide +kernel
theorem dX4_come_84 : decode cX4_come 84 = .ok (.aload_n 1, 1) := by decide +kernel
theorem dX4_come_85 : decode cX4_come 85 = .ok (.iload_n 2, 1) := by decide +kernel
theorem dX4_come_86 : decode cX4_come 86 = .ok (.bipush 6, 2) := by decide +kernel
theorem dX4_come_88 : decode cX4_come 88 = .ok (.iconst 0, 1) := by decide +kernel
theorem dX4_come_89 : decode cX4_come 89 = .ok (.invokestatic 95, 3) := by decide +kernel
theorem dX4_come_92 : decode cX4_come 92 = .ok (.aload_n 0, 1) := by decide +kernel
theorem dX4_come_93 : decode cX4_come 93 = .ok (.aload_n 1, 1) := by decide +kernel
theorem dX4_come_94 : decode cX4_come 94 = .ok (.invokevirtual 91, 3) := by decide +kernel
theorem dX4_come_97 : decode cX4_come 97 = .ok (.istore_n 2, 1) := by decide +kernel
theorem dX4_come_98 : decode cX4_come 98 = .ok (.goto (-40), 3) := by decide +kernel
theorem dX4_come_101 : decode cX4_come 101 = .ok (.return_, 1) := by decide +kernel
theorem dX4_moves_0 : decode cX4_moves 0 = .ok (.iconst 1, 1) := by decide +kernel
theorem dX4_moves_1 : decode cX4_moves 1 = .ok (.aload_n 0, 1) := by decide +kernel
theorem dX4_moves_2 : decode cX4_moves 2 = .ok (.iload_n 1, 1) := by decide +kernel
theorem dX4_moves_3 : decode cX4_moves 3 = .ok (.iconst 1, 1) := by decide +kernel
theorem dX4_moves_4 : decode cX4_moves 4 = .ok (.invokestatic 43, 3) := by decide +kernel
theorem dX4_moves_7 : decode cX4_moves 7 = .ok (.iconst 4, 1) := by decide +kernel
theorem dX4_moves_8 : decode cX4_moves 8 = .ok (.idiv, 1) := by decide +kernel
theorem dX4_moves_9 : decode cX4_moves 9 = .ok (.iadd, 1) := by decide +kernel
theorem dX4_moves_10 : decode cX4_moves 10 = .ok (.istore_n 2, 1) := by decide +kernel
theorem dX4_moves_11 : decode cX4_moves 11 = .ok (.aload_n 0, 1) := by decide +kernel
theorem dX4_moves_12 : decode cX4_moves 12 = .ok (.iload_n 1, 1) := by decide +kernel
theorem dX4_moves_13 : decode cX4_moves 13 = .ok (.invokestatic 73, 3) := by decide +kernel
theorem dX4_moves_16 : decode cX4_moves 16 = .ok (.istore_n 3, 1) := by decide +kernel
theorem dX4_moves_17 : decode cX4_moves 17 = .ok (.iload_n 2, 1) := by decide +kernel
theorem dX4_moves_18 : decode cX4_moves 18 = .ok (.ifCond .le 76, 3) := by decide +kernel
theorem dX4_moves_21 : decode cX4_moves 21 = .ok (.iload_n 3, 1) := by decide +kernel
theorem dX4_moves_22 : decode cX4_moves 22 = .ok (.ifCond .eq 72, 3) := by decide +kernel
theorem dX4_moves_25 : decode cX4_moves 25 = .ok (.aload_n 0, 1) := by decide +kernel
theorem dX4_moves_26 : decode cX4_moves 26 = .ok (.iload_n 1, 1) := by decide +kernel
theorem dX4_moves_27 : decode cX4_moves 27 = .ok (.bipush 6, 2) := by decide +kernel
theorem dX4_moves_29 : decode cX4_moves 29 = .ok (.aload_n 0, 1) := by decide +kernel
theorem dX4_moves_30 : decode cX4_moves 30 = .ok (.iload_n 1, 1) := by decide +kernel
theorem dX4_moves_31 : decode cX4_moves 31 = .ok (.bipush 6, 2) := by decide +kernel
theorem dX4_moves_33 : decode cX4_moves 33 = .ok (.invokestatic 43, 3) := by decide +kernel
theorem dX4_moves_36 : decode cX4_moves 36 = .ok (.iload_n 3, 1) := by decide +kernel
theorem dX4_moves_37 : decode cX4_moves 37 = .ok (.iconst 1, 1) := by decide +kernel
theorem dX4_moves_38 : decode cX4_moves 38 = .ok (.if_icmp .ne 7, 3) := by decide +kernel
theorem dX4_moves_41 : decode cX4_moves 41 = .ok (.iconst 1, 1) := by decide +kernel
theorem dX4_moves_42 : decode cX4_moves 42 = .ok (.goto 4, 3) := by decide +kernel
theorem dX4_moves_45 : decode cX4_moves 45 = .ok (.iconst 0, 1) := by decide +kernel
theorem dX4_moves_46 : decode cX4_moves 46 = .ok (.iadd, 1) := by decide +kernel
theorem dX4_moves_47 : decode cX4_moves 47 = .ok (.invokestatic 95, 3) := by decide +kernel
theorem dX4_moves_50 : decode cX4_moves 50 = .ok (.aload_n 0, 1) := by decide +kernel
theorem dX4_moves_51 : decode cX4_moves 51 = .ok (.iload_n 1, 1) := by decide +kernel
theorem dX4_moves_52 : decode cX4_moves 52 = .ok (.iconst 3, 1) := by decide +kernel
theorem dX4_moves_53 : decode cX4_moves 53 = .ok (.aload_n 0, 1) := by decide +kernel
theorem dX4_moves_54 : decode cX4_moves 54 = .ok (.iload_n 1, 1) := by decide +kernel
theorem dX4_moves_55 : decode cX4_moves 55 = .ok (.iconst 3, 1) := by decide +kernel
theorem dX4_moves_56 : decode cX4_moves 56 = .ok (.invokestatic 43, 3) := by decide +kernel
theorem dX4_moves_59 : decode cX4_moves 59 = .ok (.iload_n 3, 1) := by decide +kernel
theorem dX4_moves_60 : decode cX4_moves 60 = .ok (.iconst 2, 1) := by decide +kernel
theorem dX4_moves_61 : decode cX4_moves 61 = .ok (.if_icmp .ne 7, 3) := by decide +kernel
theorem dX4_moves_64 : decode cX4_moves 64 = .ok (.iconst (-1), 1) := by decide +kernel
theorem dX4_moves_65 : decode cX4_moves 65 = .ok (.goto 13, 3) := by decide +kernel
theorem dX4_moves_68 : decode cX4_moves 68 = .ok (.iload_n 3, 1) := by decide +kernel
theorem dX4_moves_69 : decode cX4_moves 69 = .ok (.iconst 3, 1) := by decide +kernel
theorem dX4_moves_70 : decode cX4_moves 70 = .ok (.if_icmp .ne 7, 3) := by decide +kernel
theorem dX4_moves_73 : decode cX4_moves 73 = .ok (.iconst 1, 1) := by decide +kernel
theorem dX4_moves_74 : decode cX4_moves 74 = .ok (.goto 4, 3) := by decide +kernel
theorem dX4_moves_77 : decode cX4_moves 77 = .ok (.iconst 0, 1) := by decide +kernel
theorem dX4_moves_78 : decode cX4_moves 78 = .ok (.iadd, 1) := by decide +kernel
theorem dX4_moves_79 : decode cX4_moves 79 = .ok (.invokestatic 95, 3) := by decide +kernel
theorem dX4_moves_82 : decode cX4_moves 82 = .ok (.iinc 2 (-1), 3) := by decide +kernel
theorem dX4_moves_85 : decode cX4_moves 85 = .ok (.aload_n 0, 1) := by decide +kernel
theorem dX4_moves_86 : decode cX4_moves 86 = .ok (.iload_n 1, 1) := by decide +kernel
theorem dX4_moves_87 : decode cX4_moves 87 = .ok (.invokestatic 73, 3) := by decide +kernel
theorem dX4_moves_90 : decode cX4_moves 90 = .ok (.istore_n 3, 1) := by decide +kernel
theorem dX4_moves_91 : decode cX4_moves 91 = .ok (.goto (-74), 3) := by decide +kernel
theorem dX4_moves_94 : decode cX4_moves 94 = .ok (.return_, 1) := by decide +kernel
theorem dX4_moveAll_0 : decode cX4_moveAll 0 = .ok (.iconst 0, 1) := by decide +kernel
theorem dX4_moveAll_1 : decode cX4_moveAll 1 = .ok (.istore_n 2, 1) := by decide +kernel
theorem dX4_moveAll_2 : decode cX4_moveAll 2 = .ok (.iload_n 2, 1) := by decide +kernel
theorem dX4_moveAll_3 : decode cX4_moveAll 3 = .ok (.aload_n 1, 1) := by decide +kernel
theorem dX4_moveAll_4 : decode cX4_moveAll 4 = .ok (.iconst 0, 1) := by decide +kernel
theorem dX4_moveAll_5 : decode cX4_moveAll 5 = .ok (.iaload, 1) := by decide +kernel
theorem dX4_moveAll_6 : decode cX4_moveAll 6 = .ok (.if_icmp .ge 39, 3) := by decide +kernel
theorem dX4_moveAll_9 : decode cX4_moveAll 9 = .ok (.aload_n 0, 1) := by decide +kernel
theorem dX4_moveAll_10 : decode cX4_moveAll 10 = .ok (.getfield 22, 3) := by decide +kernel
theorem dX4_moveAll_13 : decode cX4_moveAll 13 = .ok (.iload_n 2, 1) := by decide +kernel
theorem dX4_moveAll_14 : decode cX4_moveAll 14 = .ok (.aload_n 1, 1) := by decide +kernel
theorem dX4_moveAll_15 : decode cX4_moveAll 15 = .ok (.iload_n 2, 1) := by decide +kernel
theorem dX4_moveAll_16 : decode cX4_moveAll 16 = .ok (.invokestatic 47, 3) := by decide +kernel
theorem dX4_moveAll_19 : decode cX4_moveAll 19 = .ok (.ifCond .eq 18, 3) := by decide +kernel
theorem dX4_moveAll_22 : decode cX4_moveAll 22 = .ok (.aload_n 1, 1) := by decide +kernel
theorem dX4_moveAll_23 : decode cX4_moveAll 23 = .ok (.iload_n 2, 1) := by decide +kernel
theorem dX4_moveAll_24 : decode cX4_moveAll 24 = .ok (.aload_n 1, 1) := by decide +kernel
theorem dX4_moveAll_25 : decode cX4_moveAll 25 = .ok (.iload_n 2, 1) := by decide +kernel
theorem dX4_moveAll_26 : decode cX4_moveAll 26 = .ok (.bipush 6, 2) := by decide +kernel
theorem dX4_moveAll_28 : decode cX4_moveAll 28 = .ok (.invokestatic 43, 3) := by decide +kernel
theorem dX4_moveAll_31 : decode cX4_moveAll 31 = .ok (.invokestatic 88, 3) := by decide +kernel
theorem dX4_moveAll_34 : decode cX4_moveAll 34 = .ok (.goto 4, 3) := by decide +kernel
theorem dX4_moveAll_37 : decode cX4_moveAll 37 = .ok (.iconst (-1), 1) := by decide +kernel
theorem dX4_moveAll_38 : decode cX4_moveAll 38 = .ok (.iastore, 1) := by decide +kernel
theorem dX4_moveAll_39 : decode cX4_moveAll 39 = .ok (.iinc 2 1, 3) := by decide +kernel
theorem dX4_moveAll_42 : decode cX4_moveAll 42 = .ok (.goto (-40), 3) := by decide +kernel
theorem dX4_moveAll_45 : decode cX4_moveAll 45 = .ok (.aload_n 0, 1) := by decide +kernel
theorem dX4_moveAll_46 : decode cX4_moveAll 46 = .ok (.aload_n 1, 1) := by decide +kernel
theorem dX4_moveAll_47 : decode cX4_moveAll 47 = .ok (.invokevirtual 91, 3) := by decide +kernel
theorem dX4_moveAll_50 : decode cX4_moveAll 50 = .ok (.istore_n 2, 1) := by decide +kernel
theorem dX4_moveAll_51 : decode cX4_moveAll 51 = .ok (.iload_n 2, 1) := by decide +kernel
theorem dX4_moveAll_52 : decode cX4_moveAll 52 = .ok (.iconst (-1), 1) := by decide +kernel
theorem dX4_moveAll_53 : decode cX4_moveAll 53 = .ok (.if_icmp .eq 17, 3) := by decide +kernel
theorem dX4_moveAll_56 : decode cX4_moveAll 56 = .ok (.aload_n 1, 1) := by decide +kernel
theorem dX4_moveAll_57 : decode cX4_moveAll 57 = .ok (.iload_n 2, 1) := by decide +kernel
theorem dX4_moveAll_58 : decode cX4_moveAll 58 = .ok (.invokestatic 99, 3) := by decide +kernel
theorem dX4_moveAll_61 : decode cX4_moveAll 61 = .ok (.aload_n 0, 1) := by decide +kernel
theorem dX4_moveAll_62 : decode cX4_moveAll 62 = .ok (.aload_n 1, 1) := by decide +kernel
theorem dX4_moveAll_63 : decode cX4_moveAll 63 = .ok (.invokevirtual 91, 3) := by decide +kernel
theorem dX4_moveAll_66 : decode cX4_moveAll 66 = .ok (.istore_n 2, 1) := by decide +kernel
theorem dX4_moveAll_67 : decode cX4_moveAll 67 = .ok (.goto (-16), 3) := by decide +kernel
theorem dX4_moveAll_70 : decode cX4_moveAll 70 = .ok (.return_, 1) := by decide +kernel
theorem dX4_breaks_0 : decode cX4_breaks 0 = .ok (.iconst 0, 1) := by decide +kernel
theorem dX4_breaks_1 : decode cX4_breaks 1 = .ok (.istore_n 1, 1) := by decide +kernel
theorem dX4_breaks_2 : decode cX4_breaks 2 = .ok (.iconst 0, 1) := by decide +kernel
theorem dX4_breaks_3 : decode cX4_breaks 3 = .ok (.istore_n 2, 1) := by decide +kernel
theorem dX4_breaks_4 : decode cX4_breaks 4 = .ok (.iconst 0, 1) := by decide +kernel
theorem dX4_breaks_5 : decode cX4_breaks 5 = .ok (.istore_n 3, 1) := by decide +kernel
theorem dX4_breaks_6 : decode cX4_breaks 6 = .ok (.iload_n 3, 1) := by decide +kernel
theorem dX4_breaks_7 : decode cX4_breaks 7 = .ok (.aload_n 0, 1) := by decide +kernel
theorem dX4_breaks_8 : decode cX4_breaks 8 = .ok (.iconst 0, 1) := by decide +kernel
theorem dX4_breaks_9 : decode cX4_breaks 9 = .ok (.iaload, 1) := by decide +kernel
theorem dX4_breaks_10 : decode cX4_breaks 10 = .ok (.if_icmp .ge 40, 3) := by decide +kernel
theorem dX4_breaks_13 : decode cX4_breaks 13 = .ok (.iload_n 1, 1) := by decide +kernel
theorem dX4_breaks_14 : decode cX4_breaks 14 = .ok (.aload_n 0, 1) := by decide +kernel
theorem dX4_breaks_15 : decode cX4_breaks 15 = .ok (.iload_n 3, 1) := by decide +kernel
theorem dX4_breaks_16 : decode cX4_breaks 16 = .ok (.invokestatic 47, 3) := by decide +kernel
theorem dX4_breaks_19 : decode cX4_breaks 19 = .ok (.ifCond .eq 22, 3) := by decide +kernel
theorem dX4_breaks_22 : decode cX4_breaks 22 = .ok (.aload_n 0, 1) := by decide +kernel
theorem dX4_breaks_23 : decode cX4_breaks 23 = .ok (.iload_n 3, 1) := by decide +kernel
theorem dX4_breaks_24 : decode cX4_breaks 24 = .ok (.invokestatic 82, 3) := by decide +kernel
theorem dX4_breaks_27 : decode cX4_breaks 27 = .ok (.aload_n 0, 1) := by decide +kernel
theorem dX4_breaks_28 : decode cX4_breaks 28 = .ok (.iload_n 3, 1) := by decide +kernel
theorem dX4_breaks_29 : decode cX4_breaks 29 = .ok (.invokestatic 85, 3) := by decide +kernel
theorem dX4_breaks_32 : decode cX4_breaks 32 = .ok (.if_icmp .le 9, 3) := by decide +kernel
theorem dX4_breaks_35 : decode cX4_breaks 35 = .ok (.iconst 1, 1) := by decide +kernel
theorem dX4_breaks_36 : decode cX4_breaks 36 = .ok (.iload_n 3, 1) := by decide +kernel
theorem dX4_breaks_37 : decode cX4_breaks 37 = .ok (.ishl, 1) := by decide +kernel
theorem dX4_breaks_38 : decode cX4_breaks 38 = .ok (.goto 4, 3) := by decide +kernel
theorem dX4_breaks_41 : decode cX4_breaks 41 = .ok (.iconst 0, 1) := by decide +kernel
theorem dX4_breaks_42 : decode cX4_breaks 42 = .ok (.ior, 1) := by decide +kernel
theorem dX4_breaks_43 : decode cX4_breaks 43 = .ok (.istore_n 1, 1) := by decide +kernel
theorem dX4_breaks_44 : decode cX4_breaks 44 = .ok (.iinc 3 1, 3) := by decide +kernel
theorem dX4_breaks_47 : decode cX4_breaks 47 = .ok (.goto (-41), 3) := by decide +kernel
theorem dX4_breaks_50 : decode cX4_breaks 50 = .ok (.iconst 0, 1) := by decide +kernel
theorem dX4_breaks_51 : decode cX4_breaks 51 = .ok (.istore_n 3, 1) := by decide +kernel
theorem dX4_breaks_52 : decode cX4_breaks 52 = .ok (.iload_n 3, 1) := by decide +kernel
theorem dX4_breaks_53 : decode cX4_breaks 53 = .ok (.aload_n 0, 1) := by decide +kernel
theorem dX4_breaks_54 : decode cX4_breaks 54 = .ok (.iconst 0, 1) := by decide +kernel
theorem dX4_breaks_55 : decode cX4_breaks 55 = .ok (.iaload, 1) := by decide +kernel
theorem dX4_breaks_56 : decode cX4_breaks 56 = .ok (.if_icmp .ge 28, 3) := by decide +kernel
theorem dX4_breaks_59 : decode cX4_breaks 59 = .ok (.iload_n 1, 1) := by decide +kernel
theorem dX4_breaks_60 : decode cX4_breaks 60 = .ok (.iload_n 3, 1) := by decide +kernel
theorem dX4_breaks_61 : decode cX4_breaks 61 = .ok (.ishr, 1) := by decide +kernel
theorem dX4_breaks_62 : decode cX4_breaks 62 = .ok (.iconst 1, 1) := by decide +kernel
theorem dX4_breaks_63 : decode cX4_breaks 63 = .ok (.iand, 1) := by decide +kernel
theorem dX4_breaks_64 : decode cX4_breaks 64 = .ok (.iconst 1, 1) := by decide +kernel
theorem dX4_breaks_65 : decode cX4_breaks 65 = .ok (.if_icmp .ne 13, 3) := by decide +kernel
theorem dX4_breaks_68 : decode cX4_breaks 68 = .ok (.aload_n 0, 1) := by decide +kernel
theorem dX4_breaks_69 : decode cX4_breaks 69 = .ok (.iload_n 3, 1) := by decide +kernel
theorem dX4_breaks_70 : decode cX4_breaks 70 = .ok (.iconst 5, 1) := by decide +kernel
theorem dX4_breaks_71 : decode cX4_breaks 71 = .ok (.iconst 3, 1) := by decide +kernel
theorem dX4_breaks_72 : decode cX4_breaks 72 = .ok (.invokestatic 95, 3) := by decide +kernel
theorem dX4_breaks_75 : decode cX4_breaks 75 = .ok (.iinc 2 1, 3) := by decide +kernel
theorem dX4_breaks_78 : decode cX4_breaks 78 = .ok (.iinc 3 1, 3) := by decide +kernel
theorem dX4_breaks_81 : decode cX4_breaks 81 = .ok (.goto (-29), 3) := by decide +kernel
theorem dX4_breaks_84 : decode cX4_breaks 84 = .ok (.iload_n 2, 1) := by decide +kernel
theorem dX4_breaks_85 : decode cX4_breaks 85 = .ok (.ireturn, 1) := by decide +kernel
theorem dX4_beat_0 : decode cX4_beat 0 = .ok (.aload_n 0, 1) := by decide +kernel
theorem dX4_beat_1 : decode cX4_beat 1 = .ok (.aload_n 1, 1) := by decide +kernel
theorem dX4_beat_2 : decode cX4_beat 2 = .ok (.invokevirtual 103, 3) := by decide +kernel
theorem dX4_beat_5 : decode cX4_beat 5 = .ok (.aload_n 0, 1) := by decide +kernel
theorem dX4_beat_6 : decode cX4_beat 6 = .ok (.aload_n 1, 1) := by decide +kernel
theorem dX4_beat_7 : decode cX4_beat 7 = .ok (.invokevirtual 107, 3) := by decide +kernel
theorem dX4_beat_10 : decode cX4_beat 10 = .ok (.aload_n 1, 1) := by decide +kernel
theorem dX4_beat_11 : decode cX4_beat 11 = .ok (.invokestatic 110, 3) := by decide +kernel
theorem dX4_beat_14 : decode cX4_beat 14 = .ok (.istore_n 2, 1) := by decide +kernel
theorem dX4_beat_15 : decode cX4_beat 15 = .ok (.aload_n 1, 1) := by decide +kernel
theorem dX4_beat_16 : decode cX4_beat 16 = .ok (.iconst 3, 1) := by decide +kernel
theorem dX4_beat_17 : decode cX4_beat 17 = .ok (.dup2, 1) := by decide +kernel
theorem dX4_beat_18 : decode cX4_beat 18 = .ok (.iaload, 1) := by decide +kernel
theorem dX4_beat_19 : decode cX4_beat 19 = .ok (.iload_n 2, 1) := by decide +kernel
theorem dX4_beat_20 : decode cX4_beat 20 = .ok (.iadd, 1) := by decide +kernel
theorem dX4_beat_21 : decode cX4_beat 21 = .ok (.iastore, 1) := by decide +kernel
theorem dX4_beat_22 : decode cX4_beat 22 = .ok (.aload_n 1, 1) := by decide +kernel
theorem dX4_beat_23 : decode cX4_beat 23 = .ok (.iconst 1, 1) := by decide +kernel
theorem dX4_beat_24 : decode cX4_beat 24 = .ok (.dup2, 1) := by decide +kernel
theorem dX4_beat_25 : decode cX4_beat 25 = .ok (.iaload, 1) := by decide +kernel
theorem dX4_beat_26 : decode cX4_beat 26 = .ok (.iconst 1, 1) := by decide +kernel
theorem dX4_beat_27 : decode cX4_beat 27 = .ok (.iadd, 1) := by decide +kernel
theorem dX4_beat_28 : decode cX4_beat 28 = .ok (.iastore, 1) := by decide +kernel
theorem dX4_beat_29 : decode cX4_beat 29 = .ok (.iload_n 2, 1) := by decide +kernel
theorem dX4_beat_30 : decode cX4_beat 30 = .ok (.ireturn, 1) := by decide +kernel
theorem dX4_rests_0 : decode cX4_rests 0 = .ok (.iconst 0, 1) := by decide +kernel
theorem dX4_rests_1 : decode cX4_rests 1 = .ok (.istore_n 2, 1) := by decide +kernel
theorem dX4_rests_2 : decode cX4_rests 2 = .ok (.iload_n 2, 1) := by decide +kernel
theorem dX4_rests_3 : decode cX4_rests 3 = .ok (.sipush 200, 3) := by decide +kernel
theorem dX4_rests_6 : decode cX4_rests 6 = .ok (.if_icmp .ge 31, 3) := by decide +kernel
theorem dX4_rests_9 : decode cX4_rests 9 = .ok (.aload_n 1, 1) := by decide +kernel
theorem dX4_rests_10 : decode cX4_rests 10 = .ok (.invokestatic 113, 3) := by decide +kernel
theorem dX4_rests_13 : decode cX4_rests 13 = .ok (.ifCond .ne 24, 3) := by decide +kernel
theorem dX4_rests_16 : decode cX4_rests 16 = .ok (.aload_n 0, 1) := by decide +kernel
theorem dX4_rests_17 : decode cX4_rests 17 = .ok (.aload_n 1, 1) := by decide +kernel
theorem dX4_rests_18 : decode cX4_rests 18 = .ok (.invokevirtual 117, 3) := by decide +kernel
theorem dX4_rests_21 : decode cX4_rests 21 = .ok (.istore_n 3, 1) := by decide +kernel
theorem dX4_rests_22 : decode cX4_rests 22 = .ok (.iload_n 2, 1) := by decide +kernel
theorem dX4_rests_23 : decode cX4_rests 23 = .ok (.iload_n 3, 1) := by decide +kernel
theorem dX4_rests_24 : decode cX4_rests 24 = .ok (.ifCond .ge 7, 3) := by decide +kernel
theorem dX4_rests_27 : decode cX4_rests 27 = .ok (.iconst 0, 1) := by decide +kernel
theorem dX4_rests_28 : decode cX4_rests 28 = .ok (.goto 4, 3) := by decide +kernel
theorem dX4_rests_31 : decode cX4_rests 31 = .ok (.iconst 1, 1) := by decide +kernel
theorem dX4_rests_32 : decode cX4_rests 32 = .ok (.iadd, 1) := by decide +kernel
theorem dX4_rests_33 : decode cX4_rests 33 = .ok (.istore_n 2, 1) := by decide +kernel
theorem dX4_rests_34 : decode cX4_rests 34 = .ok (.goto (-32), 3) := by decide +kernel
theorem dX4_rests_37 : decode cX4_rests 37 = .ok (.aload_n 1, 1) := by decide +kernel
theorem dX4_rests_38 : decode cX4_rests 38 = .ok (.invokestatic 113, 3) := by decide +kernel
theorem dX4_rests_41 : decode cX4_rests 41 = .ok (.ifCond .eq 7, 3) := by decide +kernel
theorem dX4_rests_44 : decode cX4_rests 44 = .ok (.iload_n 2, 1) := by decide +kernel
theorem dX4_rests_45 : decode cX4_rests 45 = .ok (.goto 4, 3) := by decide +kernel
theorem dX4_rests_48 : decode cX4_rests 48 = .ok (.iconst (-1), 1) := by decide +kernel
theorem dX4_rests_49 : decode cX4_rests 49 = .ok (.ireturn, 1) := by decide +kernel
theorem dX4_isLine_0 : decode cX4_isLine 0 = .ok (.iload_n 0, 1) := by decide +kernel
theorem dX4_isLine_1 : decode cX4_isLine 1 = .ok (.iconst 1, 1) := by decide +kernel
theorem dX4_isLine_2 : decode cX4_isLine 2 = .ok (.bipush 12, 2) := by decide +kernel
theorem dX4_isLine_4 : decode cX4_isLine 4 = .ok (.invokestatic 55, 3) := by decide +kernel
theorem dX4_isLine_7 : decode cX4_isLine 7 = .ok (.ifCond .eq 29, 3) := by decide +kernel
theorem dX4_isLine_10 : decode cX4_isLine 10 = .ok (.iload_n 1, 1) := by decide +kernel
theorem dX4_isLine_11 : decode cX4_isLine 11 = .ok (.iconst 1, 1) := by decide +kernel
theorem dX4_isLine_12 : decode cX4_isLine 12 = .ok (.bipush 9, 2) := by decide +kernel
theorem dX4_isLine_14 : decode cX4_isLine 14 = .ok (.invokestatic 55, 3) := by decide +kernel
theorem dX4_isLine_17 : decode cX4_isLine 17 = .ok (.ifCond .eq 19, 3) := by decide +kernel
theorem dX4_isLine_20 : decode cX4_isLine 20 = .ok (.iload_n 2, 1) := by decide +kernel
theorem dX4_isLine_21 : decode cX4_isLine 21 = .ok (.iconst 0, 1) := by decide +kernel
theorem dX4_isLine_22 : decode cX4_isLine 22 = .ok (.bipush 24, 2) := by decide +kernel
theorem dX4_isLine_24 : decode cX4_isLine 24 = .ok (.iload_n 0, 1) := by decide +kernel
theorem dX4_isLine_25 : decode cX4_isLine 25 = .ok (.isub, 1) := by decide +kernel
theorem dX4_isLine_26 : decode cX4_isLine 26 = .ok (.invokestatic 55, 3) := by decide +kernel
theorem dX4_isLine_29 : decode cX4_isLine 29 = .ok (.ifCond .eq 7, 3) := by decide +kernel
theorem dX4_isLine_32 : decode cX4_isLine 32 = .ok (.iconst 1, 1) := by decide +kernel
theorem dX4_isLine_33 : decode cX4_isLine 33 = .ok (.goto 4, 3) := by decide +kernel
theorem dX4_isLine_36 : decode cX4_isLine 36 = .ok (.iconst 0, 1) := by decide +kernel
theorem dX4_isLine_37 : decode cX4_isLine 37 = .ok (.ireturn, 1) := by decide +kernel
theorem dX4_isLet_0 : decode cX4_isLet 0 = .ok (.iload_n 0, 1) := by decide +kernel
theorem dX4_isLet_1 : decode cX4_isLet 1 = .ok (.iconst 0, 1) := by decide +kernel
theorem dX4_isLet_2 : decode cX4_isLet 2 = .ok (.iconst 3, 1) := by decide +kernel
theorem dX4_isLet_3 : decode cX4_isLet 3 = .ok (.invokestatic 55, 3) := by decide +kernel
theorem dX4_isLet_6 : decode cX4_isLet 6 = .ok (.ifCond .eq 17, 3) := by decide +kernel
theorem dX4_isLet_9 : decode cX4_isLet 9 = .ok (.iload_n 1, 1) := by decide +kernel
theorem dX4_isLet_10 : decode cX4_isLet 10 = .ok (.iconst 0, 1) := by decide +kernel
theorem dX4_isLet_11 : decode cX4_isLet 11 = .ok (.bipush 99, 2) := by decide +kernel
theorem dX4_isLet_13 : decode cX4_isLet 13 = .ok (.invokestatic 55, 3) := by decide +kernel
theorem dX4_isLet_16 : decode cX4_isLet 16 = .ok (.ifCond .eq 7, 3) := by decide +kernel
theorem dX4_isLet_19 : decode cX4_isLet 19 = .ok (.iconst 1, 1) := by decide +kernel
theorem dX4_isLet_20 : decode cX4_isLet 20 = .ok (.goto 4, 3) := by decide +kernel
theorem dX4_isLet_23 : decode cX4_isLet 23 = .ok (.iconst 0, 1) := by decide +kernel
theorem dX4_isLet_24 : decode cX4_isLet 24 = .ok (.ireturn, 1) := by decide +kernel
theorem dX4_comes_0 : decode cX4_comes 0 = .ok (.iconst 4, 1) := by decide +kernel
theorem dX4_comes_1 : decode cX4_comes 1 = .ok (.bipush 7, 2) := by decide +kernel
theorem dX4_comes_3 : decode cX4_comes 3 = .ok (.aload_n 0, 1) := by decide +kernel
theorem dX4_comes_4 : decode cX4_comes 4 = .ok (.iconst 0, 1) := by decide +kernel
theorem dX4_comes_5 : decode cX4_comes 5 = .ok (.iaload, 1) := by decide +kernel
theorem dX4_comes_6 : decode cX4_comes 6 = .ok (.imul, 1) := by decide +kernel
theorem dX4_comes_7 : decode cX4_comes 7 = .ok (.iadd, 1) := by decide +kernel
theorem dX4_comes_8 : decode cX4_comes 8 = .ok (.istore 6, 2) := by decide +kernel
theorem dX4_comes_10 : decode cX4_comes 10 = .ok (.aload_n 0, 1) := by decide +kernel
theorem dX4_comes_11 : decode cX4_comes 11 = .ok (.iload 6, 2) := by decide +kernel
theorem dX4_comes_13 : decode cX4_comes 13 = .ok (.iconst 0, 1) := by decide +kernel
theorem dX4_comes_14 : decode cX4_comes 14 = .ok (.iadd, 1) := by decide +kernel
theorem dX4_comes_15 : decode cX4_comes 15 = .ok (.iload_n 1, 1) := by decide +kernel
theorem dX4_comes_16 : decode cX4_comes 16 = .ok (.iastore, 1) := by decide +kernel
theorem dX4_comes_17 : decode cX4_comes 17 = .ok (.aload_n 0, 1) := by decide +kernel
theorem dX4_comes_18 : decode cX4_comes 18 = .ok (.iload 6, 2) := by decide +kernel
theorem dX4_comes_20 : decode cX4_comes 20 = .ok (.iconst 1, 1) := by decide +kernel
theorem dX4_comes_21 : decode cX4_comes 21 = .ok (.iadd, 1) := by decide +kernel
theorem dX4_comes_22 : decode cX4_comes 22 = .ok (.iload_n 2, 1) := by decide +kernel
theorem dX4_comes_23 : decode cX4_comes 23 = .ok (.iastore, 1) := by decide +kernel
theorem dX4_comes_24 : decode cX4_comes 24 = .ok (.aload_n 0, 1) := by decide +kernel
theorem dX4_comes_25 : decode cX4_comes 25 = .ok (.iload 6, 2) := by decide +kernel
theorem dX4_comes_27 : decode cX4_comes 27 = .ok (.iconst 2, 1) := by decide +kernel
theorem dX4_comes_28 : decode cX4_comes 28 = .ok (.iadd, 1) := by decide +kernel
theorem dX4_comes_29 : decode cX4_comes 29 = .ok (.iload 4, 2) := by decide +kernel
theorem dX4_comes_31 : decode cX4_comes 31 = .ok (.iastore, 1) := by decide +kernel
theorem dX4_comes_32 : decode cX4_comes 32 = .ok (.aload_n 0, 1) := by decide +kernel
theorem dX4_comes_33 : decode cX4_comes 33 = .ok (.iload 6, 2) := by decide +kernel
theorem dX4_comes_35 : decode cX4_comes 35 = .ok (.iconst 3, 1) := by decide +kernel
theorem dX4_comes_36 : decode cX4_comes 36 = .ok (.iadd, 1) := by decide +kernel
theorem dX4_comes_37 : decode cX4_comes 37 = .ok (.iload_n 3, 1) := by decide +kernel
theorem dX4_comes_38 : decode cX4_comes 38 = .ok (.iastore, 1) := by decide +kernel
theorem dX4_comes_39 : decode cX4_comes 39 = .ok (.aload_n 0, 1) := by decide +kernel
theorem dX4_comes_40 : decode cX4_comes 40 = .ok (.iload 6, 2) := by decide +kernel
theorem dX4_comes_42 : decode cX4_comes 42 = .ok (.iconst 4, 1) := by decide +kernel
theorem dX4_comes_43 : decode cX4_comes 43 = .ok (.iadd, 1) := by decide +kernel
theorem dX4_comes_44 : decode cX4_comes 44 = .ok (.iload 5, 2) := by decide +kernel
theorem dX4_comes_46 : decode cX4_comes 46 = .ok (.iastore, 1) := by decide +kernel
theorem dX4_comes_47 : decode cX4_comes 47 = .ok (.aload_n 0, 1) := by decide +kernel
theorem dX4_comes_48 : decode cX4_comes 48 = .ok (.iload 6, 2) := by decide +kernel
theorem dX4_comes_50 : decode cX4_comes 50 = .ok (.iconst 5, 1) := by decide +kernel
theorem dX4_comes_51 : decode cX4_comes 51 = .ok (.iadd, 1) := by decide +kernel
theorem dX4_comes_52 : decode cX4_comes 52 = .ok (.iconst 0, 1) := by decide +kernel
theorem dX4_comes_53 : decode cX4_comes 53 = .ok (.iastore, 1) := by decide +kernel
theorem dX4_comes_54 : decode cX4_comes 54 = .ok (.aload_n 0, 1) := by decide +kernel
theorem dX4_comes_55 : decode cX4_comes 55 = .ok (.iload 6, 2) := by decide +kernel
theorem dX4_comes_57 : decode cX4_comes 57 = .ok (.bipush 6, 2) := by decide +kernel
theorem dX4_comes_59 : decode cX4_comes 59 = .ok (.iadd, 1) := by decide +kernel
theorem dX4_comes_60 : decode cX4_comes 60 = .ok (.iconst 0, 1) := by decide +kernel
theorem dX4_comes_61 : decode cX4_comes 61 = .ok (.iastore, 1) := by decide +kernel
theorem dX4_comes_62 : decode cX4_comes 62 = .ok (.aload_n 0, 1) := by decide +kernel
theorem dX4_comes_63 : decode cX4_comes 63 = .ok (.iconst 0, 1) := by decide +kernel
theorem dX4_comes_64 : decode cX4_comes 64 = .ok (.dup2, 1) := by decide +kernel
theorem dX4_comes_65 : decode cX4_comes 65 = .ok (.iaload, 1) := by decide +kernel
theorem dX4_comes_66 : decode cX4_comes 66 = .ok (.iconst 1, 1) := by decide +kernel
theorem dX4_comes_67 : decode cX4_comes 67 = .ok (.iadd, 1) := by decide +kernel
theorem dX4_comes_68 : decode cX4_comes 68 = .ok (.iastore, 1) := by decide +kernel
theorem dX4_comes_69 : decode cX4_comes 69 = .ok (.return_, 1) := by decide +kernel
theorem dX4_line_0 : decode cX4_line 0 = .ok (.iload_n 1, 1) := by decide +kernel
theorem dX4_line_1 : decode cX4_line 1 = .ok (.iload_n 2, 1) := by decide +kernel
theorem dX4_line_2 : decode cX4_line 2 = .ok (.iload_n 3, 1) := by decide +kernel
theorem dX4_line_3 : decode cX4_line 3 = .ok (.invokestatic 120, 3) := by decide +kernel
theorem dX4_line_6 : decode cX4_line 6 = .ok (.ifCond .eq 17, 3) := by decide +kernel
theorem dX4_line_9 : decode cX4_line 9 = .ok (.iload 4, 2) := by decide +kernel
theorem dX4_line_11 : decode cX4_line 11 = .ok (.iload 5, 2) := by decide +kernel
theorem dX4_line_13 : decode cX4_line 13 = .ok (.invokestatic 123, 3) := by decide +kernel
theorem dX4_line_16 : decode cX4_line 16 = .ok (.ifCond .eq 7, 3) := by decide +kernel
theorem dX4_line_19 : decode cX4_line 19 = .ok (.iconst 1, 1) := by decide +kernel
theorem dX4_line_20 : decode cX4_line 20 = .ok (.goto 4, 3) := by decide +kernel
theorem dX4_line_23 : decode cX4_line 23 = .ok (.iconst 0, 1) := by decide +kernel
theorem dX4_line_24 : decode cX4_line 24 = .ok (.istore 6, 2) := by decide +kernel
theorem dX4_line_26 : decode cX4_line 26 = .ok (.aload_n 0, 1) := by decide +kernel
theorem dX4_line_27 : decode cX4_line 27 = .ok (.iload 6, 2) := by decide +kernel
theorem dX4_line_29 : decode cX4_line 29 = .ok (.ifCond .ne 7, 3) := by decide +kernel
theorem dX4_line_32 : decode cX4_line 32 = .ok (.iconst 1, 1) := by decide +kernel
theorem dX4_line_33 : decode cX4_line 33 = .ok (.goto 19, 3) := by decide +kernel
theorem dX4_line_36 : decode cX4_line 36 = .ok (.aload_n 0, 1) := by decide +kernel
theorem dX4_line_37 : decode cX4_line 37 = .ok (.getfield 7, 3) := by decide +kernel
theorem dX4_line_40 : decode cX4_line 40 = .ok (.iconst 0, 1) := by decide +kernel
theorem dX4_line_41 : decode cX4_line 41 = .ok (.iaload, 1) := by decide +kernel
theorem dX4_line_42 : decode cX4_line 42 = .ok (.bipush 10, 2) := by decide +kernel
theorem dX4_line_44 : decode cX4_line 44 = .ok (.if_icmp .ne 7, 3) := by decide +kernel
theorem dX4_line_47 : decode cX4_line 47 = .ok (.iconst 2, 1) := by decide +kernel
theorem dX4_line_48 : decode cX4_line 48 = .ok (.goto 4, 3) := by decide +kernel
theorem dX4_line_51 : decode cX4_line 51 = .ok (.iconst 0, 1) := by decide +kernel
theorem dX4_line_52 : decode cX4_line 52 = .ok (.invokevirtual 39, 3) := by decide +kernel
theorem dX4_line_55 : decode cX4_line 55 = .ok (.ifCond .eq 5, 3) := by decide +kernel
theorem dX4_line_58 : decode cX4_line 58 = .ok (.iconst 0, 1) := by decide +kernel
theorem dX4_line_59 : decode cX4_line 59 = .ok (.ireturn, 1) := by decide +kernel
theorem dX4_line_60 : decode cX4_line 60 = .ok (.aload_n 0, 1) := by decide +kernel
theorem dX4_line_61 : decode cX4_line 61 = .ok (.invokevirtual 127, 3) := by decide +kernel
theorem dX4_line_64 : decode cX4_line 64 = .ok (.aload_n 0, 1) := by decide +kernel
theorem dX4_line_65 : decode cX4_line 65 = .ok (.getfield 7, 3) := by decide +kernel
theorem dX4_line_68 : decode cX4_line 68 = .ok (.iload_n 1, 1) := by decide +kernel
theorem dX4_line_69 : decode cX4_line 69 = .ok (.iload_n 2, 1) := by decide +kernel
theorem dX4_line_70 : decode cX4_line 70 = .ok (.iload_n 3, 1) := by decide +kernel
theorem dX4_line_71 : decode cX4_line 71 = .ok (.iload 4, 2) := by decide +kernel
theorem dX4_line_73 : decode cX4_line 73 = .ok (.iload 5, 2) := by decide +kernel
theorem dX4_line_75 : decode cX4_line 75 = .ok (.invokestatic 130, 3) := by decide +kernel
theorem dX4_line_78 : decode cX4_line 78 = .ok (.aload_n 0, 1) := by decide +kernel
theorem dX4_line_79 : decode cX4_line 79 = .ok (.getfield 7, 3) := by decide +kernel
theorem dX4_line_82 : decode cX4_line 82 = .ok (.iconst 0, 1) := by decide +kernel
theorem dX4_line_83 : decode cX4_line 83 = .ok (.iaload, 1) := by decide +kernel
theorem dX4_line_84 : decode cX4_line 84 = .ok (.iconst 1, 1) := by decide +kernel
theorem dX4_line_85 : decode cX4_line 85 = .ok (.isub, 1) := by decide +kernel
theorem dX4_line_86 : decode cX4_line 86 = .ok (.ireturn, 1) := by decide +kernel
theorem dX4_run_0 : decode cX4_run 0 = .ok (.aload_n 0, 1) := by decide +kernel
theorem dX4_run_1 : decode cX4_run 1 = .ok (.iload_n 1, 1) := by decide +kernel
theorem dX4_run_2 : decode cX4_run 2 = .ok (.iconst 1, 1) := by decide +kernel
theorem dX4_run_3 : decode cX4_run 3 = .ok (.bipush 50, 2) := by decide +kernel
theorem dX4_run_5 : decode cX4_run 5 = .ok (.invokestatic 55, 3) := by decide +kernel
theorem dX4_run_8 : decode cX4_run 8 = .ok (.ifCond .ne 7, 3) := by decide +kernel
theorem dX4_run_11 : decode cX4_run 11 = .ok (.iconst 1, 1) := by decide +kernel
theorem dX4_run_12 : decode cX4_run 12 = .ok (.goto 22, 3) := by decide +kernel
theorem dX4_run_15 : decode cX4_run 15 = .ok (.aload_n 0, 1) := by decide +kernel
theorem dX4_run_16 : decode cX4_run 16 = .ok (.getfield 7, 3) := by decide +kernel
theorem dX4_run_19 : decode cX4_run 19 = .ok (.iconst 1, 1) := by decide +kernel
theorem dX4_run_20 : decode cX4_run 20 = .ok (.iaload, 1) := by decide +kernel
theorem dX4_run_21 : decode cX4_run 21 = .ok (.iload_n 1, 1) := by decide +kernel
theorem dX4_run_22 : decode cX4_run 22 = .ok (.iadd, 1) := by decide +kernel
theorem dX4_run_23 : decode cX4_run 23 = .ok (.sipush 999, 3) := by decide +kernel
theorem dX4_run_26 : decode cX4_run 26 = .ok (.if_icmp .le 7, 3) := by decide +kernel
theorem dX4_run_29 : decode cX4_run 29 = .ok (.iconst 2, 1) := by decide +kernel
theorem dX4_run_30 : decode cX4_run 30 = .ok (.goto 4, 3) := by decide +kernel
theorem dX4_run_33 : decode cX4_run 33 = .ok (.iconst 0, 1) := by decide +kernel
theorem dX4_run_34 : decode cX4_run 34 = .ok (.invokevirtual 39, 3) := by decide +kernel
theorem dX4_run_37 : decode cX4_run 37 = .ok (.ifCond .eq 5, 3) := by decide +kernel
theorem dX4_run_40 : decode cX4_run 40 = .ok (.iconst 0, 1) := by decide +kernel
theorem dX4_run_41 : decode cX4_run 41 = .ok (.ireturn, 1) := by decide +kernel
theorem dX4_run_42 : decode cX4_run 42 = .ok (.aload_n 0, 1) := by decide +kernel
theorem dX4_run_43 : decode cX4_run 43 = .ok (.invokevirtual 127, 3) := by decide +kernel
theorem dX4_run_46 : decode cX4_run 46 = .ok (.iconst 0, 1) := by decide +kernel
theorem dX4_run_47 : decode cX4_run 47 = .ok (.istore_n 2, 1) := by decide +kernel
theorem dX4_run_48 : decode cX4_run 48 = .ok (.iconst 0, 1) := by decide +kernel
theorem dX4_run_49 : decode cX4_run 49 = .ok (.istore_n 3, 1) := by decide +kernel
theorem dX4_run_50 : decode cX4_run 50 = .ok (.iload_n 3, 1) := by decide +kernel
theorem dX4_run_51 : decode cX4_run 51 = .ok (.iload_n 1, 1) := by decide +kernel
theorem dX4_run_52 : decode cX4_run 52 = .ok (.if_icmp .ge 20, 3) := by decide +kernel
theorem dX4_run_55 : decode cX4_run 55 = .ok (.iload_n 2, 1) := by decide +kernel
theorem dX4_run_56 : decode cX4_run 56 = .ok (.aload_n 0, 1) := by decide +kernel
theorem dX4_run_57 : decode cX4_run 57 = .ok (.aload_n 0, 1) := by decide +kernel
theorem dX4_run_58 : decode cX4_run 58 = .ok (.getfield 7, 3) := by decide +kernel
theorem dX4_run_61 : decode cX4_run 61 = .ok (.invokevirtual 117, 3) := by decide +kernel
theorem dX4_run_64 : decode cX4_run 64 = .ok (.iadd, 1) := by decide +kernel
theorem dX4_run_65 : decode cX4_run 65 = .ok (.istore_n 2, 1) := by decide +kernel
theorem dX4_run_66 : decode cX4_run 66 = .ok (.iinc 3 1, 3) := by decide +kernel
theorem dX4_run_69 : decode cX4_run 69 = .ok (.goto (-19), 3) := by decide +kernel
theorem dX4_run_72 : decode cX4_run 72 = .ok (.iload_n 2, 1) := by decide +kernel
theorem dX4_run_73 : decode cX4_run 73 = .ok (.ireturn, 1) := by decide +kernel
theorem dX4_takesAway_0 : decode cX4_takesAway 0 = .ok (.iconst 0, 1) := by decide +kernel
theorem dX4_takesAway_1 : decode cX4_takesAway 1 = .ok (.istore_n 2, 1) := by decide +kernel
theorem dX4_takesAway_2 : decode cX4_takesAway 2 = .ok (.iconst 0, 1) := by decide +kernel
theorem dX4_takesAway_3 : decode cX4_takesAway 3 = .ok (.istore_n 3, 1) := by decide +kernel
theorem dX4_takesAway_4 : decode cX4_takesAway 4 = .ok (.iload_n 3, 1) := by decide +kernel
theorem dX4_takesAway_5 : decode cX4_takesAway 5 = .ok (.aload_n 0, 1) := by decide +kernel
theorem dX4_takesAway_6 : decode cX4_takesAway 6 = .ok (.iconst 0, 1) := by decide +kernel
theorem dX4_takesAway_7 : decode cX4_takesAway 7 = .ok (.iaload, 1) := by decide +kernel
theorem dX4_takesAway_8 : decode cX4_takesAway 8 = .ok (.if_icmp .ge 39, 3) := by decide +kernel
theorem dX4_takesAway_11 : decode cX4_takesAway 11 = .ok (.aload_n 0, 1) := by decide +kernel
theorem dX4_takesAway_12 : decode cX4_takesAway 12 = .ok (.iload_n 3, 1) := by decide +kernel
theorem dX4_takesAway_13 : decode cX4_takesAway 13 = .ok (.iconst 2, 1) := by decide +kernel
theorem dX4_takesAway_14 : decode cX4_takesAway 14 = .ok (.invokestatic 43, 3) := by decide +kernel
theorem dX4_takesAway_17 : decode cX4_takesAway 17 = .ok (.iload_n 1, 1) := by decide +kernel
theorem dX4_takesAway_18 : decode cX4_takesAway 18 = .ok (.if_icmp .ne 23, 3) := by decide +kernel
theorem dX4_takesAway_21 : decode cX4_takesAway 21 = .ok (.aload_n 0, 1) := by decide +kernel
theorem dX4_takesAway_22 : decode cX4_takesAway 22 = .ok (.iload_n 3, 1) := by decide +kernel
theorem dX4_takesAway_23 : decode cX4_takesAway 23 = .ok (.iconst 5, 1) := by decide +kernel
theorem dX4_takesAway_24 : decode cX4_takesAway 24 = .ok (.invokestatic 43, 3) := by decide +kernel
theorem dX4_takesAway_27 : decode cX4_takesAway 27 = .ok (.iconst 3, 1) := by decide +kernel
theorem dX4_takesAway_28 : decode cX4_takesAway 28 = .ok (.if_icmp .eq 13, 3) := by decide +kernel
theorem dX4_takesAway_31 : decode cX4_takesAway 31 = .ok (.aload_n 0, 1) := by decide +kernel
theorem dX4_takesAway_32 : decode cX4_takesAway 32 = .ok (.iload_n 3, 1) := by decide +kernel
theorem dX4_takesAway_33 : decode cX4_takesAway 33 = .ok (.iconst 5, 1) := by decide +kernel
theorem dX4_takesAway_34 : decode cX4_takesAway 34 = .ok (.iconst 3, 1) := by decide +kernel
theorem dX4_takesAway_35 : decode cX4_takesAway 35 = .ok (.invokestatic 95, 3) := by decide +kernel
theorem dX4_takesAway_38 : decode cX4_takesAway 38 = .ok (.iinc 2 1, 3) := by decide +kernel
theorem dX4_takesAway_41 : decode cX4_takesAway 41 = .ok (.iinc 3 1, 3) := by decide +kernel
theorem dX4_takesAway_44 : decode cX4_takesAway 44 = .ok (.goto (-40), 3) := by decide +kernel
theorem dX4_takesAway_47 : decode cX4_takesAway 47 = .ok (.iload_n 2, 1) := by decide +kernel
theorem dX4_takesAway_48 : decode cX4_takesAway 48 = .ok (.ireturn, 1) := by decide +kernel
theorem dX4_isVerse_0 : decode cX4_isVerse 0 = .ok (.iload_n 0, 1) := by decide +kernel
theorem dX4_isVerse_1 : decode cX4_isVerse 1 = .ok (.iconst 0, 1) := by decide +kernel
theorem dX4_isVerse_2 : decode cX4_isVerse 2 = .ok (.iconst 3, 1) := by decide +kernel
theorem dX4_isVerse_3 : decode cX4_isVerse 3 = .ok (.invokestatic 55, 3) := by decide +kernel
theorem dX4_isVerse_6 : decode cX4_isVerse 6 = .ok (.ireturn, 1) := by decide +kernel
theorem dX4_reset_0 : decode cX4_reset 0 = .ok (.aload_n 0, 1) := by decide +kernel
theorem dX4_reset_1 : decode cX4_reset 1 = .ok (.iload_n 1, 1) := by decide +kernel
theorem dX4_reset_2 : decode cX4_reset 2 = .ok (.invokestatic 134, 3) := by decide +kernel
theorem dX4_reset_5 : decode cX4_reset 5 = .ok (.ifCond .eq 7, 3) := by decide +kernel
theorem dX4_reset_8 : decode cX4_reset 8 = .ok (.iconst 0, 1) := by decide +kernel
theorem dX4_reset_9 : decode cX4_reset 9 = .ok (.goto 4, 3) := by decide +kernel
theorem dX4_reset_12 : decode cX4_reset 12 = .ok (.iconst 1, 1) := by decide +kernel
theorem dX4_reset_13 : decode cX4_reset 13 = .ok (.invokevirtual 39, 3) := by decide +kernel
theorem dX4_reset_16 : decode cX4_reset 16 = .ok (.ifCond .eq 5, 3) := by decide +kernel
theorem dX4_reset_19 : decode cX4_reset 19 = .ok (.iconst 0, 1) := by decide +kernel
theorem dX4_reset_20 : decode cX4_reset 20 = .ok (.ireturn, 1) := by decide +kernel
theorem dX4_reset_21 : decode cX4_reset 21 = .ok (.aload_n 0, 1) := by decide +kernel
theorem dX4_reset_22 : decode cX4_reset 22 = .ok (.invokevirtual 127, 3) := by decide +kernel
theorem dX4_reset_25 : decode cX4_reset 25 = .ok (.aload_n 0, 1) := by decide +kernel
theorem dX4_reset_26 : decode cX4_reset 26 = .ok (.getfield 7, 3) := by decide +kernel
theorem dX4_reset_29 : decode cX4_reset 29 = .ok (.iload_n 1, 1) := by decide +kernel
theorem dX4_reset_30 : decode cX4_reset 30 = .ok (.invokestatic 137, 3) := by decide +kernel
theorem dX4_reset_33 : decode cX4_reset 33 = .ok (.ireturn, 1) := by decide +kernel
theorem dX4_isNumber_0 : decode cX4_isNumber 0 = .ok (.iload_n 1, 1) := by decide +kernel
theorem dX4_isNumber_1 : decode cX4_isNumber 1 = .ok (.iconst 0, 1) := by decide +kernel
theorem dX4_isNumber_2 : decode cX4_isNumber 2 = .ok (.aload_n 0, 1) := by decide +kernel
theorem dX4_isNumber_3 : decode cX4_isNumber 3 = .ok (.getfield 7, 3) := by decide +kernel
theorem dX4_isNumber_6 : decode cX4_isNumber 6 = .ok (.iconst 0, 1) := by decide +kernel
theorem dX4_isNumber_7 : decode cX4_isNumber 7 = .ok (.iaload, 1) := by decide +kernel
theorem dX4_isNumber_8 : decode cX4_isNumber 8 = .ok (.iconst 1, 1) := by decide +kernel
theorem dX4_isNumber_9 : decode cX4_isNumber 9 = .ok (.isub, 1) := by decide +kernel
theorem dX4_isNumber_10 : decode cX4_isNumber 10 = .ok (.invokestatic 55, 3) := by decide +kernel
theorem dX4_isNumber_13 : decode cX4_isNumber 13 = .ok (.ireturn, 1) := by decide +kernel
theorem dX4_canPush_0 : decode cX4_canPush 0 = .ok (.iload_n 2, 1) := by decide +kernel
theorem dX4_canPush_1 : decode cX4_canPush 1 = .ok (.ifCond .eq 25, 3) := by decide +kernel
theorem dX4_canPush_4 : decode cX4_canPush 4 = .ok (.aload_n 0, 1) := by decide +kernel
theorem dX4_canPush_5 : decode cX4_canPush 5 = .ok (.getfield 7, 3) := by decide +kernel
theorem dX4_canPush_8 : decode cX4_canPush 8 = .ok (.iload_n 1, 1) := by decide +kernel
theorem dX4_canPush_9 : decode cX4_canPush 9 = .ok (.iconst 3, 1) := by decide +kernel
theorem dX4_canPush_10 : decode cX4_canPush 10 = .ok (.invokestatic 43, 3) := by decide +kernel
theorem dX4_canPush_13 : decode cX4_canPush 13 = .ok (.aload_n 0, 1) := by decide +kernel
theorem dX4_canPush_14 : decode cX4_canPush 14 = .ok (.getfield 7, 3) := by decide +kernel
theorem dX4_canPush_17 : decode cX4_canPush 17 = .ok (.iload_n 1, 1) := by decide +kernel
theorem dX4_canPush_18 : decode cX4_canPush 18 = .ok (.iconst 0, 1) := by decide +kernel
theorem dX4_canPush_19 : decode cX4_canPush 19 = .ok (.invokestatic 43, 3) := by decide +kernel
theorem dX4_canPush_22 : decode cX4_canPush 22 = .ok (.iadd, 1) := by decide +kernel
theorem dX4_canPush_23 : decode cX4_canPush 23 = .ok (.goto 14, 3) := by decide +kernel
theorem dX4_canPush_26 : decode cX4_canPush 26 = .ok (.aload_n 0, 1) := by decide +kernel
theorem dX4_canPush_27 : decode cX4_canPush 27 = .ok (.getfield 7, 3) := by decide +kernel
theorem dX4_canPush_30 : decode cX4_canPush 30 = .ok (.iload_n 1, 1) := by decide +kernel
theorem dX4_canPush_31 : decode cX4_canPush 31 = .ok (.iconst 3, 1) := by decide +kernel
theorem dX4_canPush_32 : decode cX4_canPush 32 = .ok (.invokestatic 43, 3) := by decide +kernel
theorem dX4_canPush_35 : decode cX4_canPush 35 = .ok (.iconst 1, 1) := by decide +kernel
theorem dX4_canPush_36 : decode cX4_canPush 36 = .ok (.isub, 1) := by decide +kernel
theorem dX4_canPush_37 : decode cX4_canPush 37 = .ok (.istore_n 3, 1) := by decide +kernel
theorem dX4_canPush_38 : decode cX4_canPush 38 = .ok (.aload_n 0, 1) := by decide +kernel
theorem dX4_canPush_39 : decode cX4_canPush 39 = .ok (.getfield 7, 3) := by decide +kernel
theorem dX4_canPush_42 : decode cX4_canPush 42 = .ok (.iload_n 1, 1) := by decide +kernel
theorem dX4_canPush_43 : decode cX4_canPush 43 = .ok (.invokestatic 47, 3) := by decide +kernel
theorem dX4_canPush_46 : decode cX4_canPush 46 = .ok (.ifCond .eq 28, 3) := by decide +kernel
theorem dX4_canPush_49 : decode cX4_canPush 49 = .ok (.aload_n 0, 1) := by decide +kernel
theorem dX4_canPush_50 : decode cX4_canPush 50 = .ok (.getfield 7, 3) := by decide +kernel
theorem dX4_canPush_53 : decode cX4_canPush 53 = .ok (.aload_n 0, 1) := by decide +kernel
theorem dX4_canPush_54 : decode cX4_canPush 54 = .ok (.getfield 7, 3) := by decide +kernel
theorem dX4_canPush_57 : decode cX4_canPush 57 = .ok (.iload_n 1, 1) := by decide +kernel
theorem dX4_canPush_58 : decode cX4_canPush 58 = .ok (.bipush 6, 2) := by decide +kernel
theorem dX4_canPush_60 : decode cX4_canPush 60 = .ok (.invokestatic 43, 3) := by decide +kernel
theorem dX4_canPush_63 : decode cX4_canPush 63 = .ok (.iload_n 3, 1) := by decide +kernel
theorem dX4_canPush_64 : decode cX4_canPush 64 = .ok (.invokestatic 66, 3) := by decide +kernel
theorem dX4_canPush_67 : decode cX4_canPush 67 = .ok (.ifCond .eq 7, 3) := by decide +kernel
theorem dX4_canPush_70 : decode cX4_canPush 70 = .ok (.iconst 1, 1) := by decide +kernel
theorem dX4_canPush_71 : decode cX4_canPush 71 = .ok (.goto 4, 3) := by decide +kernel
theorem dX4_canPush_74 : decode cX4_canPush 74 = .ok (.iconst 0, 1) := by decide +kernel
theorem dX4_canPush_75 : decode cX4_canPush 75 = .ok (.ireturn, 1) := by decide +kernel
theorem dX4_push_0 : decode cX4_push 0 = .ok (.aload_n 0, 1) := by decide +kernel
theorem dX4_push_1 : decode cX4_push 1 = .ok (.iload_n 1, 1) := by decide +kernel
theorem dX4_push_2 : decode cX4_push 2 = .ok (.invokevirtual 140, 3) := by decide +kernel
theorem dX4_push_5 : decode cX4_push 5 = .ok (.istore_n 3, 1) := by decide +kernel
theorem dX4_push_6 : decode cX4_push 6 = .ok (.aload_n 0, 1) := by decide +kernel
theorem dX4_push_7 : decode cX4_push 7 = .ok (.iload_n 3, 1) := by decide +kernel
theorem dX4_push_8 : decode cX4_push 8 = .ok (.ifCond .ne 7, 3) := by decide +kernel
theorem dX4_push_11 : decode cX4_push 11 = .ok (.iconst 1, 1) := by decide +kernel
theorem dX4_push_12 : decode cX4_push 12 = .ok (.goto 17, 3) := by decide +kernel
theorem dX4_push_15 : decode cX4_push 15 = .ok (.aload_n 0, 1) := by decide +kernel
theorem dX4_push_16 : decode cX4_push 16 = .ok (.iload_n 1, 1) := by decide +kernel
theorem dX4_push_17 : decode cX4_push 17 = .ok (.iload_n 2, 1) := by decide +kernel
theorem dX4_push_18 : decode cX4_push 18 = .ok (.invokevirtual 143, 3) := by decide +kernel
theorem dX4_push_21 : decode cX4_push 21 = .ok (.ifCond .eq 7, 3) := by decide +kernel
theorem dX4_push_24 : decode cX4_push 24 = .ok (.iconst 0, 1) := by decide +kernel
theorem dX4_push_25 : decode cX4_push 25 = .ok (.goto 4, 3) := by decide +kernel
theorem dX4_push_28 : decode cX4_push 28 = .ok (.iconst 2, 1) := by decide +kernel
theorem dX4_push_29 : decode cX4_push 29 = .ok (.invokevirtual 39, 3) := by decide +kernel
theorem dX4_push_32 : decode cX4_push 32 = .ok (.ifCond .eq 5, 3) := by decide +kernel
theorem dX4_push_35 : decode cX4_push 35 = .ok (.iconst 0, 1) := by decide +kernel
theorem dX4_push_36 : decode cX4_push 36 = .ok (.ireturn, 1) := by decide +kernel
theorem dX4_push_37 : decode cX4_push 37 = .ok (.aload_n 0, 1) := by decide +kernel
theorem dX4_push_38 : decode cX4_push 38 = .ok (.invokevirtual 127, 3) := by decide +kernel
theorem dX4_push_41 : decode cX4_push 41 = .ok (.aload_n 0, 1) := by decide +kernel
theorem dX4_push_42 : decode cX4_push 42 = .ok (.getfield 7, 3) := by decide +kernel
theorem dX4_push_45 : decode cX4_push 45 = .ok (.iload_n 1, 1) := by decide +kernel
theorem dX4_push_46 : decode cX4_push 46 = .ok (.iconst 3, 1) := by decide +kernel
theorem dX4_push_47 : decode cX4_push 47 = .ok (.aload_n 0, 1) := by decide +kernel
theorem dX4_push_48 : decode cX4_push 48 = .ok (.getfield 7, 3) := by decide +kernel
theorem dX4_push_51 : decode cX4_push 51 = .ok (.iload_n 1, 1) := by decide +kernel
theorem dX4_push_52 : decode cX4_push 52 = .ok (.iconst 3, 1) := by decide +kernel
theorem dX4_push_53 : decode cX4_push 53 = .ok (.invokestatic 43, 3) := by decide +kernel
theorem dX4_push_56 : decode cX4_push 56 = .ok (.iload_n 2, 1) := by decide +kernel
theorem dX4_push_57 : decode cX4_push 57 = .ok (.ifCond .eq 7, 3) := by decide +kernel
theorem dX4_push_60 : decode cX4_push 60 = .ok (.iconst 1, 1) := by decide +kernel
theorem dX4_push_61 : decode cX4_push 61 = .ok (.goto 4, 3) := by decide +kernel
theorem dX4_push_64 : decode cX4_push 64 = .ok (.iconst (-1), 1) := by decide +kernel
theorem dX4_push_65 : decode cX4_push 65 = .ok (.iadd, 1) := by decide +kernel
theorem dX4_push_66 : decode cX4_push 66 = .ok (.invokestatic 95, 3) := by decide +kernel
theorem dX4_push_69 : decode cX4_push 69 = .ok (.aload_n 0, 1) := by decide +kernel
theorem dX4_push_70 : decode cX4_push 70 = .ok (.getfield 7, 3) := by decide +kernel
theorem dX4_push_73 : decode cX4_push 73 = .ok (.iload_n 1, 1) := by decide +kernel
theorem dX4_push_74 : decode cX4_push 74 = .ok (.iconst 3, 1) := by decide +kernel
theorem dX4_push_75 : decode cX4_push 75 = .ok (.invokestatic 43, 3) := by decide +kernel
theorem dX4_push_78 : decode cX4_push 78 = .ok (.ireturn, 1) := by decide +kernel
theorem dX4_set_0 : decode cX4_set 0 = .ok (.aload_n 0, 1) := by decide +kernel
theorem dX4_set_1 : decode cX4_set 1 = .ok (.iload_n 1, 1) := by decide +kernel
theorem dX4_set_2 : decode cX4_set 2 = .ok (.iconst 1, 1) := by decide +kernel
theorem dX4_set_3 : decode cX4_set 3 = .ok (.bipush 9, 2) := by decide +kernel
theorem dX4_set_5 : decode cX4_set 5 = .ok (.invokestatic 55, 3) := by decide +kernel
theorem dX4_set_8 : decode cX4_set 8 = .ok (.ifCond .eq 7, 3) := by decide +kernel
theorem dX4_set_11 : decode cX4_set 11 = .ok (.iconst 0, 1) := by decide +kernel
theorem dX4_set_12 : decode cX4_set 12 = .ok (.goto 4, 3) := by decide +kernel
theorem dX4_set_15 : decode cX4_set 15 = .ok (.iconst 1, 1) := by decide +kernel
theorem dX4_set_16 : decode cX4_set 16 = .ok (.invokevirtual 39, 3) := by decide +kernel
theorem dX4_set_19 : decode cX4_set 19 = .ok (.ifCond .eq 5, 3) := by decide +kernel
theorem dX4_set_22 : decode cX4_set 22 = .ok (.iconst 0, 1) := by decide +kernel
theorem dX4_set_23 : decode cX4_set 23 = .ok (.ireturn, 1) := by decide +kernel
theorem dX4_set_24 : decode cX4_set 24 = .ok (.aload_n 0, 1) := by decide +kernel
theorem dX4_set_25 : decode cX4_set 25 = .ok (.invokevirtual 127, 3) := by decide +kernel
theorem dX4_set_28 : decode cX4_set 28 = .ok (.aload_n 0, 1) := by decide +kernel
theorem dX4_set_29 : decode cX4_set 29 = .ok (.getfield 7, 3) := by decide +kernel
theorem dX4_set_32 : decode cX4_set 32 = .ok (.iconst 2, 1) := by decide +kernel
theorem dX4_set_33 : decode cX4_set 33 = .ok (.iaload, 1) := by decide +kernel
theorem dX4_set_34 : decode cX4_set 34 = .ok (.istore_n 2, 1) := by decide +kernel
theorem dX4_set_35 : decode cX4_set 35 = .ok (.aload_n 0, 1) := by decide +kernel
theorem dX4_set_36 : decode cX4_set 36 = .ok (.getfield 7, 3) := by decide +kernel
theorem dX4_set_39 : decode cX4_set 39 = .ok (.iconst 2, 1) := by decide +kernel
theorem dX4_set_40 : decode cX4_set 40 = .ok (.iload_n 1, 1) := by decide +kernel
theorem dX4_set_41 : decode cX4_set 41 = .ok (.iastore, 1) := by decide +kernel
theorem dX4_set_42 : decode cX4_set 42 = .ok (.iload_n 2, 1) := by decide +kernel
theorem dX4_set_43 : decode cX4_set 43 = .ok (.ireturn, 1) := by decide +kernel
theorem dX4_append_0 : decode cX4_append 0 = .ok (.aload_n 0, 1) := by decide +kernel
theorem dX4_append_1 : decode cX4_append 1 = .ok (.iload_n 1, 1) := by decide +kernel
theorem dX4_append_2 : decode cX4_append 2 = .ok (.bipush 33, 2) := by decide +kernel
theorem dX4_append_4 : decode cX4_append 4 = .ok (.bipush 126, 2) := by decide +kernel
theorem dX4_append_6 : decode cX4_append 6 = .ok (.invokestatic 55, 3) := by decide +kernel
theorem dX4_append_9 : decode cX4_append 9 = .ok (.ifCond .ne 7, 3) := by decide +kernel
theorem dX4_append_12 : decode cX4_append 12 = .ok (.iconst 1, 1) := by decide +kernel
theorem dX4_append_13 : decode cX4_append 13 = .ok (.goto 17, 3) := by decide +kernel
theorem dX4_append_16 : decode cX4_append 16 = .ok (.aload_n 0, 1) := by decide +kernel
theorem dX4_append_17 : decode cX4_append 17 = .ok (.getfield 147, 3) := by decide +kernel
theorem dX4_append_20 : decode cX4_append 20 = .ok (.bipush 60, 2) := by decide +kernel
theorem dX4_append_22 : decode cX4_append 22 = .ok (.if_icmp .ne 7, 3) := by decide +kernel
theorem dX4_append_25 : decode cX4_append 25 = .ok (.iconst 2, 1) := by decide +kernel
theorem dX4_append_26 : decode cX4_append 26 = .ok (.goto 4, 3) := by decide +kernel
theorem dX4_append_29 : decode cX4_append 29 = .ok (.iconst 0, 1) := by decide +kernel
theorem dX4_append_30 : decode cX4_append 30 = .ok (.invokevirtual 39, 3) := by decide +kernel
theorem dX4_append_33 : decode cX4_append 33 = .ok (.ifCond .eq 5, 3) := by decide +kernel
theorem dX4_append_36 : decode cX4_append 36 = .ok (.iconst 0, 1) := by decide +kernel
theorem dX4_append_37 : decode cX4_append 37 = .ok (.ireturn, 1) := by decide +kernel
theorem dX4_append_38 : decode cX4_append 38 = .ok (.aload_n 0, 1) := by decide +kernel
theorem dX4_append_39 : decode cX4_append 39 = .ok (.getfield 19, 3) := by decide +kernel
theorem dX4_append_42 : decode cX4_append 42 = .ok (.aload_n 0, 1) := by decide +kernel
theorem dX4_append_43 : decode cX4_append 43 = .ok (.getfield 147, 3) := by decide +kernel
theorem dX4_append_46 : decode cX4_append 46 = .ok (.iload_n 1, 1) := by decide +kernel
theorem dX4_append_47 : decode cX4_append 47 = .ok (.iastore, 1) := by decide +kernel
theorem dX4_append_48 : decode cX4_append 48 = .ok (.aload_n 0, 1) := by decide +kernel
theorem dX4_append_49 : decode cX4_append 49 = .ok (.dup, 1) := by decide +kernel
theorem dX4_append_50 : decode cX4_append 50 = .ok (.getfield 147, 3) := by decide +kernel
theorem dX4_append_53 : decode cX4_append 53 = .ok (.iconst 1, 1) := by decide +kernel
theorem dX4_append_54 : decode cX4_append 54 = .ok (.iadd, 1) := by decide +kernel
theorem dX4_append_55 : decode cX4_append 55 = .ok (.putfield 147, 3) := by decide +kernel
theorem dX4_append_58 : decode cX4_append 58 = .ok (.aload_n 0, 1) := by decide +kernel
theorem dX4_append_59 : decode cX4_append 59 = .ok (.getfield 147, 3) := by decide +kernel
theorem dX4_append_62 : decode cX4_append 62 = .ok (.ireturn, 1) := by decide +kernel
theorem dX4_clearBuffer_0 : decode cX4_clearBuffer 0 = .ok (.aload_n 0, 1) := by decide +kernel
theorem dX4_clearBuffer_1 : decode cX4_clearBuffer 1 = .ok (.iconst 0, 1) := by decide +kernel
theorem dX4_clearBuffer_2 : decode cX4_clearBuffer 2 = .ok (.putfield 28, 3) := by decide +kernel
theorem dX4_clearBuffer_5 : decode cX4_clearBuffer 5 = .ok (.aload_n 0, 1) := by decide +kernel
theorem dX4_clearBuffer_6 : decode cX4_clearBuffer 6 = .ok (.getfield 147, 3) := by decide +kernel
theorem dX4_clearBuffer_9 : decode cX4_clearBuffer 9 = .ok (.istore_n 1, 1) := by decide +kernel
theorem dX4_clearBuffer_10 : decode cX4_clearBuffer 10 = .ok (.aload_n 0, 1) := by decide +kernel
theorem dX4_clearBuffer_11 : decode cX4_clearBuffer 11 = .ok (.iconst 0, 1) := by decide +kernel
theorem dX4_clearBuffer_12 : decode cX4_clearBuffer 12 = .ok (.putfield 147, 3) := by decide +kernel
theorem dX4_clearBuffer_15 : decode cX4_clearBuffer 15 = .ok (.iload_n 1, 1) := by decide +kernel
theorem dX4_clearBuffer_16 : decode cX4_clearBuffer 16 = .ok (.ireturn, 1) := by decide +kernel
theorem dX4_sees_0 : decode cX4_sees 0 = .ok (.aload_n 0, 1) := by decide +kernel
theorem dX4_sees_1 : decode cX4_sees 1 = .ok (.getfield 150, 3) := by decide +kernel
theorem dX4_sees_4 : decode cX4_sees 4 = .ok (.aload_n 0, 1) := by decide +kernel
theorem dX4_sees_5 : decode cX4_sees 5 = .ok (.getfield 147, 3) := by decide +kernel
theorem dX4_sees_8 : decode cX4_sees 8 = .ok (.if_icmp .ge 24, 3) := by decide +kernel
theorem dX4_sees_11 : decode cX4_sees 11 = .ok (.aload_n 0, 1) := by decide +kernel
theorem dX4_sees_12 : decode cX4_sees 12 = .ok (.getfield 19, 3) := by decide +kernel
theorem dX4_sees_15 : decode cX4_sees 15 = .ok (.aload_n 0, 1) := by decide +kernel
theorem dX4_sees_16 : decode cX4_sees 16 = .ok (.getfield 150, 3) := by decide +kernel
theorem dX4_sees_19 : decode cX4_sees 19 = .ok (.iaload, 1) := by decide +kernel
theorem dX4_sees_20 : decode cX4_sees 20 = .ok (.iload_n 1, 1) := by decide +kernel
theorem dX4_sees_21 : decode cX4_sees 21 = .ok (.iload_n 2, 1) := by decide +kernel
theorem dX4_sees_22 : decode cX4_sees 22 = .ok (.invokestatic 55, 3) := by decide +kernel
theorem dX4_sees_25 : decode cX4_sees 25 = .ok (.ifCond .eq 7, 3) := by decide +kernel
theorem dX4_sees_28 : decode cX4_sees 28 = .ok (.iconst 1, 1) := by decide +kernel
theorem dX4_sees_29 : decode cX4_sees 29 = .ok (.goto 4, 3) := by decide +kernel
theorem dX4_sees_32 : decode cX4_sees 32 = .ok (.iconst 0, 1) := by decide +kernel
theorem dX4_sees_33 : decode cX4_sees 33 = .ok (.ireturn, 1) := by decide +kernel
theorem dX4_takes_0 : decode cX4_takes 0 = .ok (.aload_n 0, 1) := by decide +kernel
theorem dX4_takes_1 : decode cX4_takes 1 = .ok (.iload_n 1, 1) := by decide +kernel
theorem dX4_takes_2 : decode cX4_takes 2 = .ok (.iload_n 1, 1) := by decide +kernel
theorem dX4_takes_3 : decode cX4_takes 3 = .ok (.invokevirtual 153, 3) := by decide +kernel
theorem dX4_takes_6 : decode cX4_takes 6 = .ok (.istore_n 2, 1) := by decide +kernel
theorem dX4_takes_7 : decode cX4_takes 7 = .ok (.aload_n 0, 1) := by decide +kernel
theorem dX4_takes_8 : decode cX4_takes 8 = .ok (.dup, 1) := by decide +kernel
theorem dX4_takes_9 : decode cX4_takes 9 = .ok (.getfield 150, 3) := by decide +kernel
theorem dX4_takes_12 : decode cX4_takes 12 = .ok (.iload_n 2, 1) := by decide +kernel
theorem dX4_takes_13 : decode cX4_takes 13 = .ok (.ifCond .eq 7, 3) := by decide +kernel
theorem dX4_takes_16 : decode cX4_takes 16 = .ok (.iconst 1, 1) := by decide +kernel
theorem dX4_takes_17 : decode cX4_takes 17 = .ok (.goto 4, 3) := by decide +kernel
theorem dX4_takes_20 : decode cX4_takes 20 = .ok (.iconst 0, 1) := by decide +kernel
theorem dX4_takes_21 : decode cX4_takes 21 = .ok (.iadd, 1) := by decide +kernel
theorem dX4_takes_22 : decode cX4_takes 22 = .ok (.putfield 150, 3) := by decide +kernel
theorem dX4_takes_25 : decode cX4_takes 25 = .ok (.iload_n 2, 1) := by decide +kernel
theorem dX4_takes_26 : decode cX4_takes 26 = .ok (.ireturn, 1) := by decide +kernel
theorem dX4_isTold_0 : decode cX4_isTold 0 = .ok (.aload_n 0, 1) := by decide +kernel
theorem dX4_isTold_1 : decode cX4_isTold 1 = .ok (.bipush 48, 2) := by decide +kernel
theorem dX4_isTold_3 : decode cX4_isTold 3 = .ok (.iload_n 2, 1) := by decide +kernel
theorem dX4_isTold_4 : decode cX4_isTold 4 = .ok (.iadd, 1) := by decide +kernel
theorem dX4_isTold_5 : decode cX4_isTold 5 = .ok (.bipush 57, 2) := by decide +kernel
theorem dX4_isTold_7 : decode cX4_isTold 7 = .ok (.invokevirtual 153, 3) := by decide +kernel
theorem dX4_isTold_10 : decode cX4_isTold 10 = .ok (.ifCond .ne 5, 3) := by decide +kernel
theorem dX4_isTold_13 : decode cX4_isTold 13 = .ok (.iconst 0, 1) := by decide +kernel
theorem dX4_isTold_14 : decode cX4_isTold 14 = .ok (.ireturn, 1) := by decide +kernel
theorem dX4_isTold_15 : decode cX4_isTold 15 = .ok (.aload_n 0, 1) := by decide +kernel
theorem dX4_isTold_16 : decode cX4_isTold 16 = .ok (.getfield 19, 3) := by decide +kernel
theorem dX4_isTold_19 : decode cX4_isTold 19 = .ok (.aload_n 0, 1) := by decide +kernel
theorem dX4_isTold_20 : decode cX4_isTold 20 = .ok (.getfield 150, 3) := by decide +kernel
theorem dX4_isTold_23 : decode cX4_isTold 23 = .ok (.iaload, 1) := by decide +kernel
theorem dX4_isTold_24 : decode cX4_isTold 24 = .ok (.bipush 48, 2) := by decide +kernel
theorem dX4_isTold_26 : decode cX4_isTold 26 = .ok (.isub, 1) := by decide +kernel
theorem dX4_isTold_27 : decode cX4_isTold 27 = .ok (.istore 4, 2) := by decide +kernel
theorem dX4_isTold_29 : decode cX4_isTold 29 = .ok (.aload_n 0, 1) := by decide +kernel
theorem dX4_isTold_30 : decode cX4_isTold 30 = .ok (.dup, 1) := by decide +kernel
theorem dX4_isTold_31 : decode cX4_isTold 31 = .ok (.getfield 150, 3) := by decide +kernel
theorem dX4_isTold_34 : decode cX4_isTold 34 = .ok (.iconst 1, 1) := by decide +kernel
theorem dX4_isTold_35 : decode cX4_isTold 35 = .ok (.iadd, 1) := by decide +kernel
theorem dX4_isTold_36 : decode cX4_isTold 36 = .ok (.putfield 150, 3) := by decide +kernel
theorem dX4_isTold_39 : decode cX4_isTold 39 = .ok (.iload 4, 2) := by decide +kernel
theorem dX4_isTold_41 : decode cX4_isTold 41 = .ok (.ifCond .le 69, 3) := by decide +kernel
theorem dX4_isTold_44 : decode cX4_isTold 44 = .ok (.aload_n 0, 1) := by decide +kernel
theorem dX4_isTold_45 : decode cX4_isTold 45 = .ok (.bipush 48, 2) := by decide +kernel
theorem dX4_isTold_47 : decode cX4_isTold 47 = .ok (.bipush 57, 2) := by decide +kernel
theorem dX4_isTold_49 : decode cX4_isTold 49 = .ok (.invokevirtual 153, 3) := by decide +kernel
theorem dX4_isTold_52 : decode cX4_isTold 52 = .ok (.ifCond .eq 58, 3) := by decide +kernel
theorem dX4_isTold_55 : decode cX4_isTold 55 = .ok (.bipush 10, 2) := by decide +kernel
theorem dX4_isTold_57 : decode cX4_isTold 57 = .ok (.iload 4, 2) := by decide +kernel
theorem dX4_isTold_59 : decode cX4_isTold 59 = .ok (.imul, 1) := by decide +kernel
theorem dX4_isTold_60 : decode cX4_isTold 60 = .ok (.aload_n 0, 1) := by decide +kernel
theorem dX4_isTold_61 : decode cX4_isTold 61 = .ok (.getfield 19, 3) := by decide +kernel
theorem dX4_isTold_64 : decode cX4_isTold 64 = .ok (.aload_n 0, 1) := by decide +kernel
theorem dX4_isTold_65 : decode cX4_isTold 65 = .ok (.getfield 150, 3) := by decide +kernel
theorem dX4_isTold_68 : decode cX4_isTold 68 = .ok (.iaload, 1) := by decide +kernel
theorem dX4_isTold_69 : decode cX4_isTold 69 = .ok (.iadd, 1) := by decide +kernel
theorem dX4_isTold_70 : decode cX4_isTold 70 = .ok (.bipush 48, 2) := by decide +kernel
theorem dX4_isTold_72 : decode cX4_isTold 72 = .ok (.isub, 1) := by decide +kernel
theorem dX4_isTold_73 : decode cX4_isTold 73 = .ok (.iload_n 3, 1) := by decide +kernel
theorem dX4_isTold_74 : decode cX4_isTold 74 = .ok (.if_icmp .gt 36, 3) := by decide +kernel
theorem dX4_isTold_77 : decode cX4_isTold 77 = .ok (.bipush 10, 2) := by decide +kernel
theorem dX4_isTold_79 : decode cX4_isTold 79 = .ok (.iload 4, 2) := by decide +kernel
theorem dX4_isTold_81 : decode cX4_isTold 81 = .ok (.imul, 1) := by decide +kernel
theorem dX4_isTold_82 : decode cX4_isTold 82 = .ok (.aload_n 0, 1) := by decide +kernel
theorem dX4_isTold_83 : decode cX4_isTold 83 = .ok (.getfield 19, 3) := by decide +kernel
theorem dX4_isTold_86 : decode cX4_isTold 86 = .ok (.aload_n 0, 1) := by decide +kernel
theorem dX4_isTold_87 : decode cX4_isTold 87 = .ok (.getfield 150, 3) := by decide +kernel
theorem dX4_isTold_90 : decode cX4_isTold 90 = .ok (.iaload, 1) := by decide +kernel
theorem dX4_isTold_91 : decode cX4_isTold 91 = .ok (.iadd, 1) := by decide +kernel
theorem dX4_isTold_92 : decode cX4_isTold 92 = .ok (.bipush 48, 2) := by decide +kernel
theorem dX4_isTold_94 : decode cX4_isTold 94 = .ok (.isub, 1) := by decide +kernel
theorem dX4_isTold_95 : decode cX4_isTold 95 = .ok (.istore 4, 2) := by decide +kernel
theorem dX4_isTold_97 : decode cX4_isTold 97 = .ok (.aload_n 0, 1) := by decide +kernel
theorem dX4_isTold_98 : decode cX4_isTold 98 = .ok (.dup, 1) := by decide +kernel
theorem dX4_isTold_99 : decode cX4_isTold 99 = .ok (.getfield 150, 3) := by decide +kernel
theorem dX4_isTold_102 : decode cX4_isTold 102 = .ok (.iconst 1, 1) := by decide +kernel
theorem dX4_isTold_103 : decode cX4_isTold 103 = .ok (.iadd, 1) := by decide +kernel
theorem dX4_isTold_104 : decode cX4_isTold 104 = .ok (.putfield 150, 3) := by decide +kernel
theorem dX4_isTold_107 : decode cX4_isTold 107 = .ok (.goto (-68), 3) := by decide +kernel
theorem dX4_isTold_110 : decode cX4_isTold 110 = .ok (.aload_n 0, 1) := by decide +kernel
theorem dX4_isTold_111 : decode cX4_isTold 111 = .ok (.getfield 25, 3) := by decide +kernel
theorem dX4_isTold_114 : decode cX4_isTold 114 = .ok (.iconst 4, 1) := by decide +kernel
theorem dX4_isTold_115 : decode cX4_isTold 115 = .ok (.aload_n 0, 1) := by decide +kernel
theorem dX4_isTold_116 : decode cX4_isTold 116 = .ok (.getfield 156, 3) := by decide +kernel
theorem dX4_isTold_119 : decode cX4_isTold 119 = .ok (.imul, 1) := by decide +kernel
theorem dX4_isTold_120 : decode cX4_isTold 120 = .ok (.iload_n 1, 1) := by decide +kernel
theorem dX4_isTold_121 : decode cX4_isTold 121 = .ok (.iadd, 1) := by decide +kernel
theorem dX4_isTold_122 : decode cX4_isTold 122 = .ok (.iload 4, 2) := by decide +kernel
theorem dX4_isTold_124 : decode cX4_isTold 124 = .ok (.iastore, 1) := by decide +kernel
theorem dX4_isTold_125 : decode cX4_isTold 125 = .ok (.iconst 1, 1) := by decide +kernel
theorem dX4_isTold_126 : decode cX4_isTold 126 = .ok (.ireturn, 1) := by decide +kernel
theorem dX4_isPart_0 : decode cX4_isPart 0 = .ok (.aload_n 0, 1) := by decide +kernel
theorem dX4_isPart_1 : decode cX4_isPart 1 = .ok (.iconst 0, 1) := by decide +kernel
theorem dX4_isPart_2 : decode cX4_isPart 2 = .ok (.iconst 1, 1) := by decide +kernel
theorem dX4_isPart_3 : decode cX4_isPart 3 = .ok (.bipush 12, 2) := by decide +kernel
theorem dX4_isPart_5 : decode cX4_isPart 5 = .ok (.invokevirtual 159, 3) := by decide +kernel
theorem dX4_isPart_8 : decode cX4_isPart 8 = .ok (.ifCond .eq 47, 3) := by decide +kernel
theorem dX4_isPart_11 : decode cX4_isPart 11 = .ok (.aload_n 0, 1) := by decide +kernel
theorem dX4_isPart_12 : decode cX4_isPart 12 = .ok (.bipush 119, 2) := by decide +kernel
theorem dX4_isPart_14 : decode cX4_isPart 14 = .ok (.invokevirtual 162, 3) := by decide +kernel
theorem dX4_isPart_17 : decode cX4_isPart 17 = .ok (.ifCond .eq 38, 3) := by decide +kernel
theorem dX4_isPart_20 : decode cX4_isPart 20 = .ok (.aload_n 0, 1) := by decide +kernel
theorem dX4_isPart_21 : decode cX4_isPart 21 = .ok (.iconst 1, 1) := by decide +kernel
theorem dX4_isPart_22 : decode cX4_isPart 22 = .ok (.iconst 1, 1) := by decide +kernel
theorem dX4_isPart_23 : decode cX4_isPart 23 = .ok (.bipush 9, 2) := by decide +kernel
theorem dX4_isPart_25 : decode cX4_isPart 25 = .ok (.invokevirtual 159, 3) := by decide +kernel
theorem dX4_isPart_28 : decode cX4_isPart 28 = .ok (.ifCond .eq 27, 3) := by decide +kernel
theorem dX4_isPart_31 : decode cX4_isPart 31 = .ok (.aload_n 0, 1) := by decide +kernel
theorem dX4_isPart_32 : decode cX4_isPart 32 = .ok (.bipush 64, 2) := by decide +kernel
theorem dX4_isPart_34 : decode cX4_isPart 34 = .ok (.invokevirtual 162, 3) := by decide +kernel
theorem dX4_isPart_37 : decode cX4_isPart 37 = .ok (.ifCond .eq 18, 3) := by decide +kernel
theorem dX4_isPart_40 : decode cX4_isPart 40 = .ok (.aload_n 0, 1) := by decide +kernel
theorem dX4_isPart_41 : decode cX4_isPart 41 = .ok (.iconst 2, 1) := by decide +kernel
theorem dX4_isPart_42 : decode cX4_isPart 42 = .ok (.iconst 0, 1) := by decide +kernel
theorem dX4_isPart_43 : decode cX4_isPart 43 = .ok (.bipush 23, 2) := by decide +kernel
theorem dX4_isPart_45 : decode cX4_isPart 45 = .ok (.invokevirtual 159, 3) := by decide +kernel
theorem dX4_isPart_48 : decode cX4_isPart 48 = .ok (.ifCond .eq 7, 3) := by decide +kernel
theorem dX4_isPart_51 : decode cX4_isPart 51 = .ok (.iconst 1, 1) := by decide +kernel
theorem dX4_isPart_52 : decode cX4_isPart 52 = .ok (.goto 4, 3) := by decide +kernel
theorem dX4_isPart_55 : decode cX4_isPart 55 = .ok (.iconst 0, 1) := by decide +kernel
theorem dX4_isPart_56 : decode cX4_isPart 56 = .ok (.istore_n 1, 1) := by decide +kernel
theorem dX4_isPart_57 : decode cX4_isPart 57 = .ok (.aload_n 0, 1) := by decide +kernel
theorem dX4_isPart_58 : decode cX4_isPart 58 = .ok (.getfield 25, 3) := by decide +kernel
theorem dX4_isPart_61 : decode cX4_isPart 61 = .ok (.iconst 4, 1) := by decide +kernel
theorem dX4_isPart_62 : decode cX4_isPart 62 = .ok (.aload_n 0, 1) := by decide +kernel
theorem dX4_isPart_63 : decode cX4_isPart 63 = .ok (.getfield 156, 3) := by decide +kernel
theorem dX4_isPart_66 : decode cX4_isPart 66 = .ok (.imul, 1) := by decide +kernel
theorem dX4_isPart_67 : decode cX4_isPart 67 = .ok (.iconst 3, 1) := by decide +kernel
theorem dX4_isPart_68 : decode cX4_isPart 68 = .ok (.iadd, 1) := by decide +kernel
theorem dX4_isPart_69 : decode cX4_isPart 69 = .ok (.iconst 0, 1) := by decide +kernel
theorem dX4_isPart_70 : decode cX4_isPart 70 = .ok (.iastore, 1) := by decide +kernel
theorem dX4_isPart_71 : decode cX4_isPart 71 = .ok (.iload_n 1, 1) := by decide +kernel
theorem dX4_isPart_72 : decode cX4_isPart 72 = .ok (.ifCond .eq 27, 3) := by decide +kernel
theorem dX4_isPart_75 : decode cX4_isPart 75 = .ok (.aload_n 0, 1) := by decide +kernel
theorem dX4_isPart_76 : decode cX4_isPart 76 = .ok (.bipush 43, 2) := by decide +kernel
theorem dX4_isPart_78 : decode cX4_isPart 78 = .ok (.invokevirtual 162, 3) := by decide +kernel
theorem dX4_isPart_81 : decode cX4_isPart 81 = .ok (.ifCond .eq 14, 3) := by decide +kernel
theorem dX4_isPart_84 : decode cX4_isPart 84 = .ok (.aload_n 0, 1) := by decide +kernel
theorem dX4_isPart_85 : decode cX4_isPart 85 = .ok (.iconst 3, 1) := by decide +kernel
theorem dX4_isPart_86 : decode cX4_isPart 86 = .ok (.iconst 0, 1) := by decide +kernel
theorem dX4_isPart_87 : decode cX4_isPart 87 = .ok (.bipush 50, 2) := by decide +kernel
theorem dX4_isPart_89 : decode cX4_isPart 89 = .ok (.invokevirtual 159, 3) := by decide +kernel
theorem dX4_isPart_92 : decode cX4_isPart 92 = .ok (.ifCond .eq 7, 3) := by decide +kernel
theorem dX4_isPart_95 : decode cX4_isPart 95 = .ok (.iconst 1, 1) := by decide +kernel
theorem dX4_isPart_96 : decode cX4_isPart 96 = .ok (.goto 4, 3) := by decide +kernel
theorem dX4_isPart_99 : decode cX4_isPart 99 = .ok (.iconst 0, 1) := by decide +kernel
theorem dX4_isPart_100 : decode cX4_isPart 100 = .ok (.ireturn, 1) := by decide +kernel
theorem dX4_isPoem_0 : decode cX4_isPoem 0 = .ok (.aload_n 0, 1) := by decide +kernel
theorem dX4_isPoem_1 : decode cX4_isPoem 1 = .ok (.iconst 0, 1) := by decide +kernel
theorem dX4_isPoem_2 : decode cX4_isPoem 2 = .ok (.putfield 150, 3) := by decide +kernel
theorem dX4_isPoem_5 : decode cX4_isPoem 5 = .ok (.aload_n 0, 1) := by decide +kernel
theorem dX4_isPoem_6 : decode cX4_isPoem 6 = .ok (.iconst 0, 1) := by decide +kernel
theorem dX4_isPoem_7 : decode cX4_isPoem 7 = .ok (.putfield 156, 3) := by decide +kernel
theorem dX4_isPoem_10 : decode cX4_isPoem 10 = .ok (.iconst 1, 1) := by decide +kernel
theorem dX4_isPoem_11 : decode cX4_isPoem 11 = .ok (.istore_n 1, 1) := by decide +kernel
theorem dX4_isPoem_12 : decode cX4_isPoem 12 = .ok (.iload_n 1, 1) := by decide +kernel
theorem dX4_isPoem_13 : decode cX4_isPoem 13 = .ok (.ifCond .eq 32, 3) := by decide +kernel
theorem dX4_isPoem_16 : decode cX4_isPoem 16 = .ok (.aload_n 0, 1) := by decide +kernel
theorem dX4_isPoem_17 : decode cX4_isPoem 17 = .ok (.invokevirtual 165, 3) := by decide +kernel
theorem dX4_isPoem_20 : decode cX4_isPoem 20 = .ok (.ifCond .ne 5, 3) := by decide +kernel
theorem dX4_isPoem_23 : decode cX4_isPoem 23 = .ok (.iconst 0, 1) := by decide +kernel
theorem dX4_isPoem_24 : decode cX4_isPoem 24 = .ok (.ireturn, 1) := by decide +kernel
theorem dX4_isPoem_25 : decode cX4_isPoem 25 = .ok (.aload_n 0, 1) := by decide +kernel
theorem dX4_isPoem_26 : decode cX4_isPoem 26 = .ok (.dup, 1) := by decide +kernel
theorem dX4_isPoem_27 : decode cX4_isPoem 27 = .ok (.getfield 156, 3) := by decide +kernel
theorem dX4_isPoem_30 : decode cX4_isPoem 30 = .ok (.iconst 1, 1) := by decide +kernel
theorem dX4_isPoem_31 : decode cX4_isPoem 31 = .ok (.iadd, 1) := by decide +kernel
theorem dX4_isPoem_32 : decode cX4_isPoem 32 = .ok (.putfield 156, 3) := by decide +kernel
theorem dX4_isPoem_35 : decode cX4_isPoem 35 = .ok (.aload_n 0, 1) := by decide +kernel
theorem dX4_isPoem_36 : decode cX4_isPoem 36 = .ok (.bipush 59, 2) := by decide +kernel
theorem dX4_isPoem_38 : decode cX4_isPoem 38 = .ok (.invokevirtual 162, 3) := by decide +kernel
theorem dX4_isPoem_41 : decode cX4_isPoem 41 = .ok (.istore_n 1, 1) := by decide +kernel
theorem dX4_isPoem_42 : decode cX4_isPoem 42 = .ok (.goto (-30), 3) := by decide +kernel
theorem dX4_isPoem_45 : decode cX4_isPoem 45 = .ok (.aload_n 0, 1) := by decide +kernel
theorem dX4_isPoem_46 : decode cX4_isPoem 46 = .ok (.getfield 150, 3) := by decide +kernel
theorem dX4_isPoem_49 : decode cX4_isPoem 49 = .ok (.aload_n 0, 1) := by decide +kernel
theorem dX4_isPoem_50 : decode cX4_isPoem 50 = .ok (.getfield 147, 3) := by decide +kernel
theorem dX4_isPoem_53 : decode cX4_isPoem 53 = .ok (.if_icmp .ne 7, 3) := by decide +kernel
theorem dX4_isPoem_56 : decode cX4_isPoem 56 = .ok (.iconst 1, 1) := by decide +kernel
theorem dX4_isPoem_57 : decode cX4_isPoem 57 = .ok (.goto 4, 3) := by decide +kernel
theorem dX4_isPoem_60 : decode cX4_isPoem 60 = .ok (.iconst 0, 1) := by decide +kernel
theorem dX4_isPoem_61 : decode cX4_isPoem 61 = .ok (.ireturn, 1) := by decide +kernel
theorem dX4_firstError_0 : decode cX4_firstError 0 = .ok (.aload_n 0, 1) := by decide +kernel
theorem dX4_firstError_1 : decode cX4_firstError 1 = .ok (.iconst 0, 1) := by decide +kernel
theorem dX4_firstError_2 : decode cX4_firstError 2 = .ok (.putfield 28, 3) := by decide +kernel
theorem dX4_firstError_5 : decode cX4_firstError 5 = .ok (.aload_n 0, 1) := by decide +kernel
theorem dX4_firstError_6 : decode cX4_firstError 6 = .ok (.invokevirtual 169, 3) := by decide +kernel
theorem dX4_firstError_9 : decode cX4_firstError 9 = .ok (.ifCond .eq 10, 3) := by decide +kernel
theorem dX4_firstError_12 : decode cX4_firstError 12 = .ok (.aload_n 0, 1) := by decide +kernel
theorem dX4_firstError_13 : decode cX4_firstError 13 = .ok (.getfield 147, 3) := by decide +kernel
theorem dX4_firstError_16 : decode cX4_firstError 16 = .ok (.goto 7, 3) := by decide +kernel
theorem dX4_firstError_19 : decode cX4_firstError 19 = .ok (.aload_n 0, 1) := by decide +kernel
theorem dX4_firstError_20 : decode cX4_firstError 20 = .ok (.getfield 150, 3) := by decide +kernel
theorem dX4_firstError_23 : decode cX4_firstError 23 = .ok (.ireturn, 1) := by decide +kernel
theorem dX4_isAdded_0 : decode cX4_isAdded 0 = .ok (.aload_n 0, 1) := by decide +kernel
theorem dX4_isAdded_1 : decode cX4_isAdded 1 = .ok (.getfield 7, 3) := by decide +kernel
theorem dX4_isAdded_4 : decode cX4_isAdded 4 = .ok (.iconst 1, 1) := by decide +kernel
theorem dX4_isAdded_5 : decode cX4_isAdded 5 = .ok (.iaload, 1) := by decide +kernel
theorem dX4_isAdded_6 : decode cX4_isAdded 6 = .ok (.aload_n 0, 1) := by decide +kernel
theorem dX4_isAdded_7 : decode cX4_isAdded 7 = .ok (.getfield 25, 3) := by decide +kernel
theorem dX4_isAdded_10 : decode cX4_isAdded 10 = .ok (.iconst 4, 1) := by decide +kernel
theorem dX4_isAdded_11 : decode cX4_isAdded 11 = .ok (.iload_n 1, 1) := by decide +kernel
theorem dX4_isAdded_12 : decode cX4_isAdded 12 = .ok (.imul, 1) := by decide +kernel
theorem dX4_isAdded_13 : decode cX4_isAdded 13 = .ok (.iconst 3, 1) := by decide +kernel
theorem dX4_isAdded_14 : decode cX4_isAdded 14 = .ok (.iadd, 1) := by decide +kernel
theorem dX4_isAdded_15 : decode cX4_isAdded 15 = .ok (.iaload, 1) := by decide +kernel
theorem dX4_isAdded_16 : decode cX4_isAdded 16 = .ok (.iadd, 1) := by decide +kernel
theorem dX4_isAdded_17 : decode cX4_isAdded 17 = .ok (.istore_n 2, 1) := by decide +kernel
theorem dX4_isAdded_18 : decode cX4_isAdded 18 = .ok (.aload_n 0, 1) := by decide +kernel
theorem dX4_isAdded_19 : decode cX4_isAdded 19 = .ok (.getfield 7, 3) := by decide +kernel
theorem dX4_isAdded_22 : decode cX4_isAdded 22 = .ok (.iconst 0, 1) := by decide +kernel
theorem dX4_isAdded_23 : decode cX4_isAdded 23 = .ok (.iaload, 1) := by decide +kernel
theorem dX4_isAdded_24 : decode cX4_isAdded 24 = .ok (.bipush 10, 2) := by decide +kernel
theorem dX4_isAdded_26 : decode cX4_isAdded 26 = .ok (.if_icmp .ge 49, 3) := by decide +kernel
theorem dX4_isAdded_29 : decode cX4_isAdded 29 = .ok (.aload_n 0, 1) := by decide +kernel
theorem dX4_isAdded_30 : decode cX4_isAdded 30 = .ok (.getfield 25, 3) := by decide +kernel
theorem dX4_isAdded_33 : decode cX4_isAdded 33 = .ok (.iconst 4, 1) := by decide +kernel
theorem dX4_isAdded_34 : decode cX4_isAdded 34 = .ok (.iload_n 1, 1) := by decide +kernel
theorem dX4_isAdded_35 : decode cX4_isAdded 35 = .ok (.imul, 1) := by decide +kernel
theorem dX4_isAdded_36 : decode cX4_isAdded 36 = .ok (.iaload, 1) := by decide +kernel
theorem dX4_isAdded_37 : decode cX4_isAdded 37 = .ok (.aload_n 0, 1) := by decide +kernel
theorem dX4_isAdded_38 : decode cX4_isAdded 38 = .ok (.getfield 25, 3) := by decide +kernel
theorem dX4_isAdded_41 : decode cX4_isAdded 41 = .ok (.iconst 4, 1) := by decide +kernel
theorem dX4_isAdded_42 : decode cX4_isAdded 42 = .ok (.iload_n 1, 1) := by decide +kernel
theorem dX4_isAdded_43 : decode cX4_isAdded 43 = .ok (.imul, 1) := by decide +kernel
theorem dX4_isAdded_44 : decode cX4_isAdded 44 = .ok (.iconst 1, 1) := by decide +kernel
theorem dX4_isAdded_45 : decode cX4_isAdded 45 = .ok (.iadd, 1) := by decide +kernel
theorem dX4_isAdded_46 : decode cX4_isAdded 46 = .ok (.iaload, 1) := by decide +kernel
theorem dX4_isAdded_47 : decode cX4_isAdded 47 = .ok (.aload_n 0, 1) := by decide +kernel
theorem dX4_isAdded_48 : decode cX4_isAdded 48 = .ok (.getfield 25, 3) := by decide +kernel
theorem dX4_isAdded_51 : decode cX4_isAdded 51 = .ok (.iconst 4, 1) := by decide +kernel
theorem dX4_isAdded_52 : decode cX4_isAdded 52 = .ok (.iload_n 1, 1) := by decide +kernel
theorem dX4_isAdded_53 : decode cX4_isAdded 53 = .ok (.imul, 1) := by decide +kernel
theorem dX4_isAdded_54 : decode cX4_isAdded 54 = .ok (.iconst 2, 1) := by decide +kernel
theorem dX4_isAdded_55 : decode cX4_isAdded 55 = .ok (.iadd, 1) := by decide +kernel
theorem dX4_isAdded_56 : decode cX4_isAdded 56 = .ok (.iaload, 1) := by decide +kernel
theorem dX4_isAdded_57 : decode cX4_isAdded 57 = .ok (.invokestatic 120, 3) := by decide +kernel
theorem dX4_isAdded_60 : decode cX4_isAdded 60 = .ok (.ifCond .eq 15, 3) := by decide +kernel
theorem dX4_isAdded_63 : decode cX4_isAdded 63 = .ok (.iconst 0, 1) := by decide +kernel
theorem dX4_isAdded_64 : decode cX4_isAdded 64 = .ok (.iload_n 2, 1) := by decide +kernel
theorem dX4_isAdded_65 : decode cX4_isAdded 65 = .ok (.invokestatic 123, 3) := by decide +kernel
theorem dX4_isAdded_68 : decode cX4_isAdded 68 = .ok (.ifCond .eq 7, 3) := by decide +kernel
theorem dX4_isAdded_71 : decode cX4_isAdded 71 = .ok (.iconst 1, 1) := by decide +kernel
theorem dX4_isAdded_72 : decode cX4_isAdded 72 = .ok (.goto 4, 3) := by decide +kernel
theorem dX4_isAdded_75 : decode cX4_isAdded 75 = .ok (.iconst 0, 1) := by decide +kernel
theorem dX4_isAdded_76 : decode cX4_isAdded 76 = .ok (.istore_n 3, 1) := by decide +kernel
theorem dX4_isAdded_77 : decode cX4_isAdded 77 = .ok (.iload_n 3, 1) := by decide +kernel
theorem dX4_isAdded_78 : decode cX4_isAdded 78 = .ok (.ifCond .eq 40, 3) := by decide +kernel
theorem dX4_isAdded_81 : decode cX4_isAdded 81 = .ok (.aload_n 0, 1) := by decide +kernel
theorem dX4_isAdded_82 : decode cX4_isAdded 82 = .ok (.getfield 7, 3) := by decide +kernel
theorem dX4_isAdded_85 : decode cX4_isAdded 85 = .ok (.aload_n 0, 1) := by decide +kernel
theorem dX4_isAdded_86 : decode cX4_isAdded 86 = .ok (.getfield 25, 3) := by decide +kernel
theorem dX4_isAdded_89 : decode cX4_isAdded 89 = .ok (.iconst 4, 1) := by decide +kernel
theorem dX4_isAdded_90 : decode cX4_isAdded 90 = .ok (.iload_n 1, 1) := by decide +kernel
theorem dX4_isAdded_91 : decode cX4_isAdded 91 = .ok (.imul, 1) := by decide +kernel
theorem dX4_isAdded_92 : decode cX4_isAdded 92 = .ok (.iaload, 1) := by decide +kernel
theorem dX4_isAdded_93 : decode cX4_isAdded 93 = .ok (.aload_n 0, 1) := by decide +kernel
theorem dX4_isAdded_94 : decode cX4_isAdded 94 = .ok (.getfield 25, 3) := by decide +kernel
theorem dX4_isAdded_97 : decode cX4_isAdded 97 = .ok (.iconst 4, 1) := by decide +kernel
theorem dX4_isAdded_98 : decode cX4_isAdded 98 = .ok (.iload_n 1, 1) := by decide +kernel
theorem dX4_isAdded_99 : decode cX4_isAdded 99 = .ok (.imul, 1) := by decide +kernel
theorem dX4_isAdded_100 : decode cX4_isAdded 100 = .ok (.iconst 1, 1) := by decide +kernel
theorem dX4_isAdded_101 : decode cX4_isAdded 101 = .ok (.iadd, 1) := by decide +kernel
theorem dX4_isAdded_102 : decode cX4_isAdded 102 = .ok (.iaload, 1) := by decide +kernel
theorem dX4_isAdded_103 : decode cX4_isAdded 103 = .ok (.aload_n 0, 1) := by decide +kernel
theorem dX4_isAdded_104 : decode cX4_isAdded 104 = .ok (.getfield 25, 3) := by decide +kernel
theorem dX4_isAdded_107 : decode cX4_isAdded 107 = .ok (.iconst 4, 1) := by decide +kernel
theorem dX4_isAdded_108 : decode cX4_isAdded 108 = .ok (.iload_n 1, 1) := by decide +kernel
theorem dX4_isAdded_109 : decode cX4_isAdded 109 = .ok (.imul, 1) := by decide +kernel
theorem dX4_isAdded_110 : decode cX4_isAdded 110 = .ok (.iconst 2, 1) := by decide +kernel
theorem dX4_isAdded_111 : decode cX4_isAdded 111 = .ok (.iadd, 1) := by decide +kernel
theorem dX4_isAdded_112 : decode cX4_isAdded 112 = .ok (.iaload, 1) := by decide +kernel
theorem dX4_isAdded_113 : decode cX4_isAdded 113 = .ok (.iconst 0, 1) := by decide +kernel
theorem dX4_isAdded_114 : decode cX4_isAdded 114 = .ok (.iload_n 2, 1) := by decide +kernel
theorem dX4_isAdded_115 : decode cX4_isAdded 115 = .ok (.invokestatic 130, 3) := by decide +kernel
theorem dX4_isAdded_118 : decode cX4_isAdded 118 = .ok (.iload_n 3, 1) := by decide +kernel
theorem dX4_isAdded_119 : decode cX4_isAdded 119 = .ok (.ireturn, 1) := by decide +kernel
theorem dX4_read_0 : decode cX4_read 0 = .ok (.aload_n 0, 1) := by decide +kernel
theorem dX4_read_1 : decode cX4_read 1 = .ok (.aload_n 0, 1) := by decide +kernel
theorem dX4_read_2 : decode cX4_read 2 = .ok (.invokevirtual 169, 3) := by decide +kernel
theorem dX4_read_5 : decode cX4_read 5 = .ok (.ifCond .eq 7, 3) := by decide +kernel
theorem dX4_read_8 : decode cX4_read 8 = .ok (.iconst 0, 1) := by decide +kernel
theorem dX4_read_9 : decode cX4_read 9 = .ok (.goto 4, 3) := by decide +kernel
theorem dX4_read_12 : decode cX4_read 12 = .ok (.iconst 1, 1) := by decide +kernel
theorem dX4_read_13 : decode cX4_read 13 = .ok (.invokevirtual 39, 3) := by decide +kernel
theorem dX4_read_16 : decode cX4_read 16 = .ok (.ifCond .eq 5, 3) := by decide +kernel
theorem dX4_read_19 : decode cX4_read 19 = .ok (.iconst 0, 1) := by decide +kernel
theorem dX4_read_20 : decode cX4_read 20 = .ok (.ireturn, 1) := by decide +kernel
theorem dX4_read_21 : decode cX4_read 21 = .ok (.aload_n 0, 1) := by decide +kernel
theorem dX4_read_22 : decode cX4_read 22 = .ok (.invokevirtual 127, 3) := by decide +kernel
theorem dX4_read_25 : decode cX4_read 25 = .ok (.aload_n 0, 1) := by decide +kernel
theorem dX4_read_26 : decode cX4_read 26 = .ok (.iconst 0, 1) := by decide +kernel
theorem dX4_read_27 : decode cX4_read 27 = .ok (.putfield 147, 3) := by decide +kernel
theorem dX4_read_30 : decode cX4_read 30 = .ok (.iconst 0, 1) := by decide +kernel
theorem dX4_read_31 : decode cX4_read 31 = .ok (.istore_n 1, 1) := by decide +kernel
theorem dX4_read_32 : decode cX4_read 32 = .ok (.iload_n 1, 1) := by decide +kernel
theorem dX4_read_33 : decode cX4_read 33 = .ok (.aload_n 0, 1) := by decide +kernel
theorem dX4_read_34 : decode cX4_read 34 = .ok (.getfield 156, 3) := by decide +kernel
theorem dX4_read_37 : decode cX4_read 37 = .ok (.if_icmp .ge 17, 3) := by decide +kernel
theorem dX4_read_40 : decode cX4_read 40 = .ok (.aload_n 0, 1) := by decide +kernel
theorem dX4_read_41 : decode cX4_read 41 = .ok (.iload_n 1, 1) := by decide +kernel
theorem dX4_read_42 : decode cX4_read 42 = .ok (.invokevirtual 172, 3) := by decide +kernel
theorem dX4_read_45 : decode cX4_read 45 = .ok (.ifCond .eq 9, 3) := by decide +kernel
theorem dX4_read_48 : decode cX4_read 48 = .ok (.iinc 1 1, 3) := by decide +kernel
theorem dX4_read_51 : decode cX4_read 51 = .ok (.goto (-19), 3) := by decide +kernel
theorem dX4_read_54 : decode cX4_read 54 = .ok (.iload_n 1, 1) := by decide +kernel
theorem dX4_read_55 : decode cX4_read 55 = .ok (.ireturn, 1) := by decide +kernel
theorem dX4_howOf_0 : decode cX4_howOf 0 = .ok (.aload_n 0, 1) := by decide +kernel
theorem dX4_howOf_1 : decode cX4_howOf 1 = .ok (.getfield 7, 3) := by decide +kernel
theorem dX4_howOf_4 : decode cX4_howOf 4 = .ok (.iload_n 1, 1) := by decide +kernel
theorem dX4_howOf_5 : decode cX4_howOf 5 = .ok (.iconst 5, 1) := by decide +kernel
theorem dX4_howOf_6 : decode cX4_howOf 6 = .ok (.invokestatic 43, 3) := by decide +kernel
theorem dX4_howOf_9 : decode cX4_howOf 9 = .ok (.istore_n 2, 1) := by decide +kernel
theorem dX4_howOf_10 : decode cX4_howOf 10 = .ok (.iload_n 2, 1) := by decide +kernel
theorem dX4_howOf_11 : decode cX4_howOf 11 = .ok (.iconst 1, 1) := by decide +kernel
theorem dX4_howOf_12 : decode cX4_howOf 12 = .ok (.if_icmp .ne 18, 3) := by decide +kernel
end
section
theorem dX4_howOf_15 : decode cX4_howOf 15 = .ok (.aload_n 0, 1) := by decide +kernel
theorem dX4_howOf_16 : decode cX4_howOf 16 = .ok (.getfield 7, 3) := by decide +kernel
theorem dX4_howOf_19 : decode cX4_howOf 19 = .ok (.iload_n 1, 1) := by decide +kernel
theorem dX4_howOf_20 : decode cX4_howOf 20 = .ok (.invokestatic 79, 3) := by decide +kernel
theorem dX4_howOf_23 : decode cX4_howOf 23 = .ok (.ifCond .eq 7, 3) := by decide +kernel
theorem dX4_howOf_26 : decode cX4_howOf 26 = .ok (.iconst 2, 1) := by decide +kernel
theorem dX4_howOf_27 : decode cX4_howOf 27 = .ok (.goto 4, 3) := by decide +kernel
theorem dX4_howOf_30 : decode cX4_howOf 30 = .ok (.iload_n 2, 1) := by decide +kernel
theorem dX4_howOf_31 : decode cX4_howOf 31 = .ok (.ireturn, 1) := by decide +kernel
theorem dX4_beside_0 : decode cX4_beside 0 = .ok (.iconst 0, 1) := by decide +kernel
theorem dX4_beside_1 : decode cX4_beside 1 = .ok (.istore_n 3, 1) := by decide +kernel
theorem dX4_beside_2 : decode cX4_beside 2 = .ok (.iconst 0, 1) := by decide +kernel
theorem dX4_beside_3 : decode cX4_beside 3 = .ok (.istore 4, 2) := by decide +kernel
theorem dX4_beside_5 : decode cX4_beside 5 = .ok (.iload 4, 2) := by decide +kernel
theorem dX4_beside_7 : decode cX4_beside 7 = .ok (.aload_n 0, 1) := by decide +kernel
theorem dX4_beside_8 : decode cX4_beside 8 = .ok (.getfield 7, 3) := by decide +kernel
theorem dX4_beside_11 : decode cX4_beside 11 = .ok (.iconst 0, 1) := by decide +kernel
theorem dX4_beside_12 : decode cX4_beside 12 = .ok (.iaload, 1) := by decide +kernel
theorem dX4_beside_13 : decode cX4_beside 13 = .ok (.if_icmp .ge 53, 3) := by decide +kernel
theorem dX4_beside_16 : decode cX4_beside 16 = .ok (.iload_n 3, 1) := by decide +kernel
theorem dX4_beside_17 : decode cX4_beside 17 = .ok (.iload_n 2, 1) := by decide +kernel
theorem dX4_beside_18 : decode cX4_beside 18 = .ok (.ifCond .eq 19, 3) := by decide +kernel
theorem dX4_beside_21 : decode cX4_beside 21 = .ok (.aload_n 0, 1) := by decide +kernel
theorem dX4_beside_22 : decode cX4_beside 22 = .ok (.getfield 7, 3) := by decide +kernel
theorem dX4_beside_25 : decode cX4_beside 25 = .ok (.iload_n 1, 1) := by decide +kernel
theorem dX4_beside_26 : decode cX4_beside 26 = .ok (.iload 4, 2) := by decide +kernel
theorem dX4_beside_28 : decode cX4_beside 28 = .ok (.invokestatic 76, 3) := by decide +kernel
theorem dX4_beside_31 : decode cX4_beside 31 = .ok (.ifCond .eq 26, 3) := by decide +kernel
theorem dX4_beside_34 : decode cX4_beside 34 = .ok (.goto 16, 3) := by decide +kernel
theorem dX4_beside_37 : decode cX4_beside 37 = .ok (.aload_n 0, 1) := by decide +kernel
theorem dX4_beside_38 : decode cX4_beside 38 = .ok (.getfield 7, 3) := by decide +kernel
theorem dX4_beside_41 : decode cX4_beside 41 = .ok (.iload 4, 2) := by decide +kernel
theorem dX4_beside_43 : decode cX4_beside 43 = .ok (.iload_n 1, 1) := by decide +kernel
theorem dX4_beside_44 : decode cX4_beside 44 = .ok (.invokestatic 76, 3) := by decide +kernel
theorem dX4_beside_47 : decode cX4_beside 47 = .ok (.ifCond .eq 10, 3) := by decide +kernel
theorem dX4_beside_50 : decode cX4_beside 50 = .ok (.iconst 1, 1) := by decide +kernel
theorem dX4_beside_51 : decode cX4_beside 51 = .ok (.iload 4, 2) := by decide +kernel
theorem dX4_beside_53 : decode cX4_beside 53 = .ok (.ishl, 1) := by decide +kernel
theorem dX4_beside_54 : decode cX4_beside 54 = .ok (.goto 4, 3) := by decide +kernel
theorem dX4_beside_57 : decode cX4_beside 57 = .ok (.iconst 0, 1) := by decide +kernel
theorem dX4_beside_58 : decode cX4_beside 58 = .ok (.ior, 1) := by decide +kernel
theorem dX4_beside_59 : decode cX4_beside 59 = .ok (.istore_n 3, 1) := by decide +kernel
theorem dX4_beside_60 : decode cX4_beside 60 = .ok (.iinc 4 1, 3) := by decide +kernel
theorem dX4_beside_63 : decode cX4_beside 63 = .ok (.goto (-58), 3) := by decide +kernel
theorem dX4_beside_66 : decode cX4_beside 66 = .ok (.iload_n 3, 1) := by decide +kernel
theorem dX4_beside_67 : decode cX4_beside 67 = .ok (.ireturn, 1) := by decide +kernel
theorem dX4_place_0 : decode cX4_place 0 = .ok (.bipush 24, 2) := by decide +kernel
theorem dX4_place_2 : decode cX4_place 2 = .ok (.aload_n 0, 1) := by decide +kernel
theorem dX4_place_3 : decode cX4_place 3 = .ok (.iload_n 1, 1) := by decide +kernel
theorem dX4_place_4 : decode cX4_place 4 = .ok (.bipush 6, 2) := by decide +kernel
theorem dX4_place_6 : decode cX4_place 6 = .ok (.invokestatic 43, 3) := by decide +kernel
theorem dX4_place_9 : decode cX4_place 9 = .ok (.imul, 1) := by decide +kernel
theorem dX4_place_10 : decode cX4_place 10 = .ok (.aload_n 0, 1) := by decide +kernel
theorem dX4_place_11 : decode cX4_place 11 = .ok (.iload_n 1, 1) := by decide +kernel
theorem dX4_place_12 : decode cX4_place 12 = .ok (.iconst 3, 1) := by decide +kernel
theorem dX4_place_13 : decode cX4_place 13 = .ok (.invokestatic 43, 3) := by decide +kernel
theorem dX4_place_16 : decode cX4_place 16 = .ok (.iadd, 1) := by decide +kernel
theorem dX4_place_17 : decode cX4_place 17 = .ok (.ireturn, 1) := by decide +kernel
theorem dX4_readAt_0 : decode cX4_readAt 0 = .ok (.iconst 0, 1) := by decide +kernel
theorem dX4_readAt_1 : decode cX4_readAt 1 = .ok (.istore_n 2, 1) := by decide +kernel
theorem dX4_readAt_2 : decode cX4_readAt 2 = .ok (.iconst 0, 1) := by decide +kernel
theorem dX4_readAt_3 : decode cX4_readAt 3 = .ok (.istore_n 3, 1) := by decide +kernel
theorem dX4_readAt_4 : decode cX4_readAt 4 = .ok (.iload_n 3, 1) := by decide +kernel
theorem dX4_readAt_5 : decode cX4_readAt 5 = .ok (.aload_n 0, 1) := by decide +kernel
theorem dX4_readAt_6 : decode cX4_readAt 6 = .ok (.getfield 7, 3) := by decide +kernel
theorem dX4_readAt_9 : decode cX4_readAt 9 = .ok (.iconst 0, 1) := by decide +kernel
theorem dX4_readAt_10 : decode cX4_readAt 10 = .ok (.iaload, 1) := by decide +kernel
theorem dX4_readAt_11 : decode cX4_readAt 11 = .ok (.if_icmp .ge 47, 3) := by decide +kernel
theorem dX4_readAt_14 : decode cX4_readAt 14 = .ok (.iload_n 2, 1) := by decide +kernel
theorem dX4_readAt_15 : decode cX4_readAt 15 = .ok (.aload_n 0, 1) := by decide +kernel
theorem dX4_readAt_16 : decode cX4_readAt 16 = .ok (.getfield 7, 3) := by decide +kernel
theorem dX4_readAt_19 : decode cX4_readAt 19 = .ok (.iload_n 3, 1) := by decide +kernel
theorem dX4_readAt_20 : decode cX4_readAt 20 = .ok (.invokestatic 47, 3) := by decide +kernel
theorem dX4_readAt_23 : decode cX4_readAt 23 = .ok (.ifCond .eq 26, 3) := by decide +kernel
theorem dX4_readAt_26 : decode cX4_readAt 26 = .ok (.aload_n 0, 1) := by decide +kernel
theorem dX4_readAt_27 : decode cX4_readAt 27 = .ok (.getfield 7, 3) := by decide +kernel
theorem dX4_readAt_30 : decode cX4_readAt 30 = .ok (.iload_n 3, 1) := by decide +kernel
theorem dX4_readAt_31 : decode cX4_readAt 31 = .ok (.invokestatic 175, 3) := by decide +kernel
theorem dX4_readAt_34 : decode cX4_readAt 34 = .ok (.aload_n 0, 1) := by decide +kernel
theorem dX4_readAt_35 : decode cX4_readAt 35 = .ok (.getfield 7, 3) := by decide +kernel
theorem dX4_readAt_38 : decode cX4_readAt 38 = .ok (.iload_n 1, 1) := by decide +kernel
theorem dX4_readAt_39 : decode cX4_readAt 39 = .ok (.invokestatic 175, 3) := by decide +kernel
theorem dX4_readAt_42 : decode cX4_readAt 42 = .ok (.if_icmp .ge 7, 3) := by decide +kernel
theorem dX4_readAt_45 : decode cX4_readAt 45 = .ok (.iconst 1, 1) := by decide +kernel
theorem dX4_readAt_46 : decode cX4_readAt 46 = .ok (.goto 4, 3) := by decide +kernel
theorem dX4_readAt_49 : decode cX4_readAt 49 = .ok (.iconst 0, 1) := by decide +kernel
theorem dX4_readAt_50 : decode cX4_readAt 50 = .ok (.iadd, 1) := by decide +kernel
theorem dX4_readAt_51 : decode cX4_readAt 51 = .ok (.istore_n 2, 1) := by decide +kernel
theorem dX4_readAt_52 : decode cX4_readAt 52 = .ok (.iinc 3 1, 3) := by decide +kernel
theorem dX4_readAt_55 : decode cX4_readAt 55 = .ok (.goto (-51), 3) := by decide +kernel
theorem dX4_readAt_58 : decode cX4_readAt 58 = .ok (.aload_n 0, 1) := by decide +kernel
theorem dX4_readAt_59 : decode cX4_readAt 59 = .ok (.getfield 7, 3) := by decide +kernel
theorem dX4_readAt_62 : decode cX4_readAt 62 = .ok (.iload_n 1, 1) := by decide +kernel
theorem dX4_readAt_63 : decode cX4_readAt 63 = .ok (.invokestatic 47, 3) := by decide +kernel
theorem dX4_readAt_66 : decode cX4_readAt 66 = .ok (.ifCond .eq 7, 3) := by decide +kernel
theorem dX4_readAt_69 : decode cX4_readAt 69 = .ok (.iload_n 2, 1) := by decide +kernel
theorem dX4_readAt_70 : decode cX4_readAt 70 = .ok (.goto 4, 3) := by decide +kernel
theorem dX4_readAt_73 : decode cX4_readAt 73 = .ok (.iconst (-1), 1) := by decide +kernel
theorem dX4_readAt_74 : decode cX4_readAt 74 = .ok (.ireturn, 1) := by decide +kernel
theorem dX4_ofLine_0 : decode cX4_ofLine 0 = .ok (.iload_n 2, 1) := by decide +kernel
theorem dX4_ofLine_1 : decode cX4_ofLine 1 = .ok (.tableswitch 113 5 11 #[43, 49, 75, 84, 93, 100, 107], 43) := by decide +kernel
theorem dX4_ofLine_44 : decode cX4_ofLine 44 = .ok (.aload_n 0, 1) := by decide +kernel
theorem dX4_ofLine_45 : decode cX4_ofLine 45 = .ok (.iload_n 1, 1) := by decide +kernel
theorem dX4_ofLine_46 : decode cX4_ofLine 46 = .ok (.invokevirtual 178, 3) := by decide +kernel
theorem dX4_ofLine_49 : decode cX4_ofLine 49 = .ok (.ireturn, 1) := by decide +kernel
theorem dX4_ofLine_50 : decode cX4_ofLine 50 = .ok (.aload_n 0, 1) := by decide +kernel
theorem dX4_ofLine_51 : decode cX4_ofLine 51 = .ok (.getfield 7, 3) := by decide +kernel
theorem dX4_ofLine_54 : decode cX4_ofLine 54 = .ok (.iload_n 1, 1) := by decide +kernel
theorem dX4_ofLine_55 : decode cX4_ofLine 55 = .ok (.invokestatic 47, 3) := by decide +kernel
theorem dX4_ofLine_58 : decode cX4_ofLine 58 = .ok (.ifCond .eq 16, 3) := by decide +kernel
theorem dX4_ofLine_61 : decode cX4_ofLine 61 = .ok (.aload_n 0, 1) := by decide +kernel
theorem dX4_ofLine_62 : decode cX4_ofLine 62 = .ok (.getfield 7, 3) := by decide +kernel
theorem dX4_ofLine_65 : decode cX4_ofLine 65 = .ok (.iload_n 1, 1) := by decide +kernel
theorem dX4_ofLine_66 : decode cX4_ofLine 66 = .ok (.bipush 6, 2) := by decide +kernel
theorem dX4_ofLine_68 : decode cX4_ofLine 68 = .ok (.invokestatic 43, 3) := by decide +kernel
theorem dX4_ofLine_71 : decode cX4_ofLine 71 = .ok (.goto 4, 3) := by decide +kernel
theorem dX4_ofLine_74 : decode cX4_ofLine 74 = .ok (.iconst (-1), 1) := by decide +kernel
theorem dX4_ofLine_75 : decode cX4_ofLine 75 = .ok (.ireturn, 1) := by decide +kernel
theorem dX4_ofLine_76 : decode cX4_ofLine 76 = .ok (.aload_n 0, 1) := by decide +kernel
theorem dX4_ofLine_77 : decode cX4_ofLine 77 = .ok (.getfield 7, 3) := by decide +kernel
theorem dX4_ofLine_80 : decode cX4_ofLine 80 = .ok (.iload_n 1, 1) := by decide +kernel
theorem dX4_ofLine_81 : decode cX4_ofLine 81 = .ok (.invokestatic 82, 3) := by decide +kernel
theorem dX4_ofLine_84 : decode cX4_ofLine 84 = .ok (.ireturn, 1) := by decide +kernel
theorem dX4_ofLine_85 : decode cX4_ofLine 85 = .ok (.aload_n 0, 1) := by decide +kernel
theorem dX4_ofLine_86 : decode cX4_ofLine 86 = .ok (.getfield 7, 3) := by decide +kernel
theorem dX4_ofLine_89 : decode cX4_ofLine 89 = .ok (.iload_n 1, 1) := by decide +kernel
theorem dX4_ofLine_90 : decode cX4_ofLine 90 = .ok (.invokestatic 85, 3) := by decide +kernel
theorem dX4_ofLine_93 : decode cX4_ofLine 93 = .ok (.ireturn, 1) := by decide +kernel
theorem dX4_ofLine_94 : decode cX4_ofLine 94 = .ok (.aload_n 0, 1) := by decide +kernel
theorem dX4_ofLine_95 : decode cX4_ofLine 95 = .ok (.iload_n 1, 1) := by decide +kernel
theorem dX4_ofLine_96 : decode cX4_ofLine 96 = .ok (.iconst 0, 1) := by decide +kernel
theorem dX4_ofLine_97 : decode cX4_ofLine 97 = .ok (.invokevirtual 181, 3) := by decide +kernel
theorem dX4_ofLine_100 : decode cX4_ofLine 100 = .ok (.ireturn, 1) := by decide +kernel
theorem dX4_ofLine_101 : decode cX4_ofLine 101 = .ok (.aload_n 0, 1) := by decide +kernel
theorem dX4_ofLine_102 : decode cX4_ofLine 102 = .ok (.iload_n 1, 1) := by decide +kernel
theorem dX4_ofLine_103 : decode cX4_ofLine 103 = .ok (.iconst 1, 1) := by decide +kernel
theorem dX4_ofLine_104 : decode cX4_ofLine 104 = .ok (.invokevirtual 181, 3) := by decide +kernel
theorem dX4_ofLine_107 : decode cX4_ofLine 107 = .ok (.ireturn, 1) := by decide +kernel
theorem dX4_ofLine_108 : decode cX4_ofLine 108 = .ok (.aload_n 0, 1) := by decide +kernel
theorem dX4_ofLine_109 : decode cX4_ofLine 109 = .ok (.iload_n 1, 1) := by decide +kernel
theorem dX4_ofLine_110 : decode cX4_ofLine 110 = .ok (.invokevirtual 185, 3) := by decide +kernel
theorem dX4_ofLine_113 : decode cX4_ofLine 113 = .ok (.ireturn, 1) := by decide +kernel
theorem dX4_ofLine_114 : decode cX4_ofLine 114 = .ok (.aload_n 0, 1) := by decide +kernel
theorem dX4_ofLine_115 : decode cX4_ofLine 115 = .ok (.getfield 7, 3) := by decide +kernel
theorem dX4_ofLine_118 : decode cX4_ofLine 118 = .ok (.iload_n 1, 1) := by decide +kernel
theorem dX4_ofLine_119 : decode cX4_ofLine 119 = .ok (.iload_n 2, 1) := by decide +kernel
theorem dX4_ofLine_120 : decode cX4_ofLine 120 = .ok (.invokestatic 43, 3) := by decide +kernel
theorem dX4_ofLine_123 : decode cX4_ofLine 123 = .ok (.ireturn, 1) := by decide +kernel
theorem dX4_lineOf_0 : decode cX4_lineOf 0 = .ok (.aload_n 0, 1) := by decide +kernel
theorem dX4_lineOf_1 : decode cX4_lineOf 1 = .ok (.aload_n 0, 1) := by decide +kernel
theorem dX4_lineOf_2 : decode cX4_lineOf 2 = .ok (.iload_n 1, 1) := by decide +kernel
theorem dX4_lineOf_3 : decode cX4_lineOf 3 = .ok (.invokevirtual 140, 3) := by decide +kernel
theorem dX4_lineOf_6 : decode cX4_lineOf 6 = .ok (.ifCond .ne 7, 3) := by decide +kernel
theorem dX4_lineOf_9 : decode cX4_lineOf 9 = .ok (.iconst 1, 1) := by decide +kernel
theorem dX4_lineOf_10 : decode cX4_lineOf 10 = .ok (.goto 18, 3) := by decide +kernel
theorem dX4_lineOf_13 : decode cX4_lineOf 13 = .ok (.iload_n 2, 1) := by decide +kernel
theorem dX4_lineOf_14 : decode cX4_lineOf 14 = .ok (.iconst 0, 1) := by decide +kernel
theorem dX4_lineOf_15 : decode cX4_lineOf 15 = .ok (.bipush 11, 2) := by decide +kernel
theorem dX4_lineOf_17 : decode cX4_lineOf 17 = .ok (.invokestatic 55, 3) := by decide +kernel
theorem dX4_lineOf_20 : decode cX4_lineOf 20 = .ok (.ifCond .eq 7, 3) := by decide +kernel
theorem dX4_lineOf_23 : decode cX4_lineOf 23 = .ok (.iconst 0, 1) := by decide +kernel
theorem dX4_lineOf_24 : decode cX4_lineOf 24 = .ok (.goto 4, 3) := by decide +kernel
theorem dX4_lineOf_27 : decode cX4_lineOf 27 = .ok (.iconst 2, 1) := by decide +kernel
theorem dX4_lineOf_28 : decode cX4_lineOf 28 = .ok (.invokevirtual 39, 3) := by decide +kernel
theorem dX4_lineOf_31 : decode cX4_lineOf 31 = .ok (.ifCond .eq 7, 3) := by decide +kernel
theorem dX4_lineOf_34 : decode cX4_lineOf 34 = .ok (.iconst 0, 1) := by decide +kernel
theorem dX4_lineOf_35 : decode cX4_lineOf 35 = .ok (.goto 9, 3) := by decide +kernel
theorem dX4_lineOf_38 : decode cX4_lineOf 38 = .ok (.aload_n 0, 1) := by decide +kernel
theorem dX4_lineOf_39 : decode cX4_lineOf 39 = .ok (.iload_n 1, 1) := by decide +kernel
theorem dX4_lineOf_40 : decode cX4_lineOf 40 = .ok (.iload_n 2, 1) := by decide +kernel
theorem dX4_lineOf_41 : decode cX4_lineOf 41 = .ok (.invokevirtual 188, 3) := by decide +kernel
theorem dX4_lineOf_44 : decode cX4_lineOf 44 = .ok (.ireturn, 1) := by decide +kernel
theorem dX4_lineAt_0 : decode cX4_lineAt 0 = .ok (.iconst (-1), 1) := by decide +kernel
theorem dX4_lineAt_1 : decode cX4_lineAt 1 = .ok (.istore_n 3, 1) := by decide +kernel
theorem dX4_lineAt_2 : decode cX4_lineAt 2 = .ok (.iconst 0, 1) := by decide +kernel
theorem dX4_lineAt_3 : decode cX4_lineAt 3 = .ok (.istore 4, 2) := by decide +kernel
theorem dX4_lineAt_5 : decode cX4_lineAt 5 = .ok (.iload 4, 2) := by decide +kernel
theorem dX4_lineAt_7 : decode cX4_lineAt 7 = .ok (.aload_n 0, 1) := by decide +kernel
theorem dX4_lineAt_8 : decode cX4_lineAt 8 = .ok (.getfield 7, 3) := by decide +kernel
theorem dX4_lineAt_11 : decode cX4_lineAt 11 = .ok (.iconst 0, 1) := by decide +kernel
theorem dX4_lineAt_12 : decode cX4_lineAt 12 = .ok (.iaload, 1) := by decide +kernel
theorem dX4_lineAt_13 : decode cX4_lineAt 13 = .ok (.if_icmp .ge 72, 3) := by decide +kernel
theorem dX4_lineAt_16 : decode cX4_lineAt 16 = .ok (.aload_n 0, 1) := by decide +kernel
theorem dX4_lineAt_17 : decode cX4_lineAt 17 = .ok (.getfield 7, 3) := by decide +kernel
theorem dX4_lineAt_20 : decode cX4_lineAt 20 = .ok (.iload 4, 2) := by decide +kernel
theorem dX4_lineAt_22 : decode cX4_lineAt 22 = .ok (.invokestatic 47, 3) := by decide +kernel
theorem dX4_lineAt_25 : decode cX4_lineAt 25 = .ok (.ifCond .eq 39, 3) := by decide +kernel
theorem dX4_lineAt_28 : decode cX4_lineAt 28 = .ok (.aload_n 0, 1) := by decide +kernel
theorem dX4_lineAt_29 : decode cX4_lineAt 29 = .ok (.getfield 7, 3) := by decide +kernel
theorem dX4_lineAt_32 : decode cX4_lineAt 32 = .ok (.iload 4, 2) := by decide +kernel
theorem dX4_lineAt_34 : decode cX4_lineAt 34 = .ok (.bipush 6, 2) := by decide +kernel
theorem dX4_lineAt_36 : decode cX4_lineAt 36 = .ok (.invokestatic 43, 3) := by decide +kernel
theorem dX4_lineAt_39 : decode cX4_lineAt 39 = .ok (.iload_n 1, 1) := by decide +kernel
theorem dX4_lineAt_40 : decode cX4_lineAt 40 = .ok (.if_icmp .ne 24, 3) := by decide +kernel
theorem dX4_lineAt_43 : decode cX4_lineAt 43 = .ok (.aload_n 0, 1) := by decide +kernel
theorem dX4_lineAt_44 : decode cX4_lineAt 44 = .ok (.getfield 7, 3) := by decide +kernel
theorem dX4_lineAt_47 : decode cX4_lineAt 47 = .ok (.iload 4, 2) := by decide +kernel
theorem dX4_lineAt_49 : decode cX4_lineAt 49 = .ok (.invokestatic 51, 3) := by decide +kernel
theorem dX4_lineAt_52 : decode cX4_lineAt 52 = .ok (.iload_n 2, 1) := by decide +kernel
theorem dX4_lineAt_53 : decode cX4_lineAt 53 = .ok (.ishr, 1) := by decide +kernel
theorem dX4_lineAt_54 : decode cX4_lineAt 54 = .ok (.iconst 1, 1) := by decide +kernel
theorem dX4_lineAt_55 : decode cX4_lineAt 55 = .ok (.iand, 1) := by decide +kernel
theorem dX4_lineAt_56 : decode cX4_lineAt 56 = .ok (.iconst 1, 1) := by decide +kernel
theorem dX4_lineAt_57 : decode cX4_lineAt 57 = .ok (.if_icmp .ne 7, 3) := by decide +kernel
theorem dX4_lineAt_60 : decode cX4_lineAt 60 = .ok (.iconst 1, 1) := by decide +kernel
theorem dX4_lineAt_61 : decode cX4_lineAt 61 = .ok (.goto 4, 3) := by decide +kernel
theorem dX4_lineAt_64 : decode cX4_lineAt 64 = .ok (.iconst 0, 1) := by decide +kernel
theorem dX4_lineAt_65 : decode cX4_lineAt 65 = .ok (.istore 5, 2) := by decide +kernel
theorem dX4_lineAt_67 : decode cX4_lineAt 67 = .ok (.iload 5, 2) := by decide +kernel
theorem dX4_lineAt_69 : decode cX4_lineAt 69 = .ok (.ifCond .eq 8, 3) := by decide +kernel
theorem dX4_lineAt_72 : decode cX4_lineAt 72 = .ok (.iload 4, 2) := by decide +kernel
theorem dX4_lineAt_74 : decode cX4_lineAt 74 = .ok (.goto 4, 3) := by decide +kernel
theorem dX4_lineAt_77 : decode cX4_lineAt 77 = .ok (.iload_n 3, 1) := by decide +kernel
theorem dX4_lineAt_78 : decode cX4_lineAt 78 = .ok (.istore_n 3, 1) := by decide +kernel
theorem dX4_lineAt_79 : decode cX4_lineAt 79 = .ok (.iinc 4 1, 3) := by decide +kernel
theorem dX4_lineAt_82 : decode cX4_lineAt 82 = .ok (.goto (-77), 3) := by decide +kernel
theorem dX4_lineAt_85 : decode cX4_lineAt 85 = .ok (.iload_n 3, 1) := by decide +kernel
theorem dX4_lineAt_86 : decode cX4_lineAt 86 = .ok (.ireturn, 1) := by decide +kernel
theorem dX4_at_0 : decode cX4_at 0 = .ok (.aload_n 0, 1) := by decide +kernel
theorem dX4_at_1 : decode cX4_at 1 = .ok (.iload_n 1, 1) := by decide +kernel
theorem dX4_at_2 : decode cX4_at 2 = .ok (.iconst 0, 1) := by decide +kernel
theorem dX4_at_3 : decode cX4_at 3 = .ok (.bipush 15, 2) := by decide +kernel
theorem dX4_at_5 : decode cX4_at 5 = .ok (.invokestatic 55, 3) := by decide +kernel
theorem dX4_at_8 : decode cX4_at 8 = .ok (.ifCond .eq 17, 3) := by decide +kernel
theorem dX4_at_11 : decode cX4_at 11 = .ok (.iload_n 2, 1) := by decide +kernel
theorem dX4_at_12 : decode cX4_at 12 = .ok (.iconst 0, 1) := by decide +kernel
theorem dX4_at_13 : decode cX4_at 13 = .ok (.bipush 23, 2) := by decide +kernel
theorem dX4_at_15 : decode cX4_at 15 = .ok (.invokestatic 55, 3) := by decide +kernel
theorem dX4_at_18 : decode cX4_at 18 = .ok (.ifCond .eq 7, 3) := by decide +kernel
theorem dX4_at_21 : decode cX4_at 21 = .ok (.iconst 0, 1) := by decide +kernel
theorem dX4_at_22 : decode cX4_at 22 = .ok (.goto 4, 3) := by decide +kernel
theorem dX4_at_25 : decode cX4_at 25 = .ok (.iconst 1, 1) := by decide +kernel
theorem dX4_at_26 : decode cX4_at 26 = .ok (.invokevirtual 39, 3) := by decide +kernel
theorem dX4_at_29 : decode cX4_at 29 = .ok (.ifCond .eq 7, 3) := by decide +kernel
theorem dX4_at_32 : decode cX4_at 32 = .ok (.iconst 0, 1) := by decide +kernel
theorem dX4_at_33 : decode cX4_at 33 = .ok (.goto 9, 3) := by decide +kernel
theorem dX4_at_36 : decode cX4_at 36 = .ok (.aload_n 0, 1) := by decide +kernel
theorem dX4_at_37 : decode cX4_at 37 = .ok (.iload_n 1, 1) := by decide +kernel
theorem dX4_at_38 : decode cX4_at 38 = .ok (.iload_n 2, 1) := by decide +kernel
theorem dX4_at_39 : decode cX4_at 39 = .ok (.invokevirtual 192, 3) := by decide +kernel
theorem dX4_at_42 : decode cX4_at 42 = .ok (.ireturn, 1) := by decide +kernel
theorem dX4_lineRead_0 : decode cX4_lineRead 0 = .ok (.iconst (-1), 1) := by decide +kernel
theorem dX4_lineRead_1 : decode cX4_lineRead 1 = .ok (.istore_n 2, 1) := by decide +kernel
theorem dX4_lineRead_2 : decode cX4_lineRead 2 = .ok (.iconst 0, 1) := by decide +kernel
theorem dX4_lineRead_3 : decode cX4_lineRead 3 = .ok (.istore_n 3, 1) := by decide +kernel
theorem dX4_lineRead_4 : decode cX4_lineRead 4 = .ok (.iload_n 3, 1) := by decide +kernel
theorem dX4_lineRead_5 : decode cX4_lineRead 5 = .ok (.aload_n 0, 1) := by decide +kernel
theorem dX4_lineRead_6 : decode cX4_lineRead 6 = .ok (.getfield 7, 3) := by decide +kernel
theorem dX4_lineRead_9 : decode cX4_lineRead 9 = .ok (.iconst 0, 1) := by decide +kernel
theorem dX4_lineRead_10 : decode cX4_lineRead 10 = .ok (.iaload, 1) := by decide +kernel
theorem dX4_lineRead_11 : decode cX4_lineRead 11 = .ok (.if_icmp .ge 35, 3) := by decide +kernel
theorem dX4_lineRead_14 : decode cX4_lineRead 14 = .ok (.aload_n 0, 1) := by decide +kernel
theorem dX4_lineRead_15 : decode cX4_lineRead 15 = .ok (.getfield 7, 3) := by decide +kernel
theorem dX4_lineRead_18 : decode cX4_lineRead 18 = .ok (.iload_n 3, 1) := by decide +kernel
theorem dX4_lineRead_19 : decode cX4_lineRead 19 = .ok (.invokestatic 47, 3) := by decide +kernel
theorem dX4_lineRead_22 : decode cX4_lineRead 22 = .ok (.ifCond .eq 16, 3) := by decide +kernel
theorem dX4_lineRead_25 : decode cX4_lineRead 25 = .ok (.aload_n 0, 1) := by decide +kernel
theorem dX4_lineRead_26 : decode cX4_lineRead 26 = .ok (.iload_n 3, 1) := by decide +kernel
theorem dX4_lineRead_27 : decode cX4_lineRead 27 = .ok (.invokevirtual 185, 3) := by decide +kernel
theorem dX4_lineRead_30 : decode cX4_lineRead 30 = .ok (.iload_n 1, 1) := by decide +kernel
theorem dX4_lineRead_31 : decode cX4_lineRead 31 = .ok (.if_icmp .ne 7, 3) := by decide +kernel
theorem dX4_lineRead_34 : decode cX4_lineRead 34 = .ok (.iload_n 3, 1) := by decide +kernel
theorem dX4_lineRead_35 : decode cX4_lineRead 35 = .ok (.goto 4, 3) := by decide +kernel
theorem dX4_lineRead_38 : decode cX4_lineRead 38 = .ok (.iload_n 2, 1) := by decide +kernel
theorem dX4_lineRead_39 : decode cX4_lineRead 39 = .ok (.istore_n 2, 1) := by decide +kernel
theorem dX4_lineRead_40 : decode cX4_lineRead 40 = .ok (.iinc 3 1, 3) := by decide +kernel
theorem dX4_lineRead_43 : decode cX4_lineRead 43 = .ok (.goto (-39), 3) := by decide +kernel
theorem dX4_lineRead_46 : decode cX4_lineRead 46 = .ok (.iload_n 2, 1) := by decide +kernel
theorem dX4_lineRead_47 : decode cX4_lineRead 47 = .ok (.ireturn, 1) := by decide +kernel
theorem dX4_reads_0 : decode cX4_reads 0 = .ok (.aload_n 0, 1) := by decide +kernel
theorem dX4_reads_1 : decode cX4_reads 1 = .ok (.iload_n 1, 1) := by decide +kernel
theorem dX4_reads_2 : decode cX4_reads 2 = .ok (.ifCond .ge 7, 3) := by decide +kernel
theorem dX4_reads_5 : decode cX4_reads 5 = .ok (.iconst 1, 1) := by decide +kernel
theorem dX4_reads_6 : decode cX4_reads 6 = .ok (.goto 4, 3) := by decide +kernel
theorem dX4_reads_9 : decode cX4_reads 9 = .ok (.iconst 0, 1) := by decide +kernel
theorem dX4_reads_10 : decode cX4_reads 10 = .ok (.invokevirtual 39, 3) := by decide +kernel
theorem dX4_reads_13 : decode cX4_reads 13 = .ok (.ifCond .eq 7, 3) := by decide +kernel
theorem dX4_reads_16 : decode cX4_reads 16 = .ok (.iconst 0, 1) := by decide +kernel
theorem dX4_reads_17 : decode cX4_reads 17 = .ok (.goto 8, 3) := by decide +kernel
theorem dX4_reads_20 : decode cX4_reads 20 = .ok (.aload_n 0, 1) := by decide +kernel
theorem dX4_reads_21 : decode cX4_reads 21 = .ok (.iload_n 1, 1) := by decide +kernel
theorem dX4_reads_22 : decode cX4_reads 22 = .ok (.invokevirtual 195, 3) := by decide +kernel
theorem dX4_reads_25 : decode cX4_reads 25 = .ok (.ireturn, 1) := by decide +kernel
theorem dX4_withHow_0 : decode cX4_withHow 0 = .ok (.iconst 0, 1) := by decide +kernel
theorem dX4_withHow_1 : decode cX4_withHow 1 = .ok (.istore_n 2, 1) := by decide +kernel
theorem dX4_withHow_2 : decode cX4_withHow 2 = .ok (.iconst 0, 1) := by decide +kernel
theorem dX4_withHow_3 : decode cX4_withHow 3 = .ok (.istore_n 3, 1) := by decide +kernel
theorem dX4_withHow_4 : decode cX4_withHow 4 = .ok (.iload_n 3, 1) := by decide +kernel
theorem dX4_withHow_5 : decode cX4_withHow 5 = .ok (.aload_n 0, 1) := by decide +kernel
theorem dX4_withHow_6 : decode cX4_withHow 6 = .ok (.getfield 7, 3) := by decide +kernel
theorem dX4_withHow_9 : decode cX4_withHow 9 = .ok (.iconst 0, 1) := by decide +kernel
theorem dX4_withHow_10 : decode cX4_withHow 10 = .ok (.iaload, 1) := by decide +kernel
theorem dX4_withHow_11 : decode cX4_withHow 11 = .ok (.if_icmp .ge 30, 3) := by decide +kernel
theorem dX4_withHow_14 : decode cX4_withHow 14 = .ok (.iload_n 2, 1) := by decide +kernel
theorem dX4_withHow_15 : decode cX4_withHow 15 = .ok (.aload_n 0, 1) := by decide +kernel
theorem dX4_withHow_16 : decode cX4_withHow 16 = .ok (.getfield 7, 3) := by decide +kernel
theorem dX4_withHow_19 : decode cX4_withHow 19 = .ok (.iload_n 3, 1) := by decide +kernel
theorem dX4_withHow_20 : decode cX4_withHow 20 = .ok (.iconst 5, 1) := by decide +kernel
theorem dX4_withHow_21 : decode cX4_withHow 21 = .ok (.invokestatic 43, 3) := by decide +kernel
theorem dX4_withHow_24 : decode cX4_withHow 24 = .ok (.iload_n 1, 1) := by decide +kernel
theorem dX4_withHow_25 : decode cX4_withHow 25 = .ok (.if_icmp .ne 7, 3) := by decide +kernel
theorem dX4_withHow_28 : decode cX4_withHow 28 = .ok (.iconst 1, 1) := by decide +kernel
theorem dX4_withHow_29 : decode cX4_withHow 29 = .ok (.goto 4, 3) := by decide +kernel
theorem dX4_withHow_32 : decode cX4_withHow 32 = .ok (.iconst 0, 1) := by decide +kernel
theorem dX4_withHow_33 : decode cX4_withHow 33 = .ok (.iadd, 1) := by decide +kernel
theorem dX4_withHow_34 : decode cX4_withHow 34 = .ok (.istore_n 2, 1) := by decide +kernel
theorem dX4_withHow_35 : decode cX4_withHow 35 = .ok (.iinc 3 1, 3) := by decide +kernel
theorem dX4_withHow_38 : decode cX4_withHow 38 = .ok (.goto (-34), 3) := by decide +kernel
theorem dX4_withHow_41 : decode cX4_withHow 41 = .ok (.iload_n 2, 1) := by decide +kernel
theorem dX4_withHow_42 : decode cX4_withHow 42 = .ok (.ireturn, 1) := by decide +kernel
theorem dX4_atRest_0 : decode cX4_atRest 0 = .ok (.iconst 0, 1) := by decide +kernel
theorem dX4_atRest_1 : decode cX4_atRest 1 = .ok (.istore_n 1, 1) := by decide +kernel
theorem dX4_atRest_2 : decode cX4_atRest 2 = .ok (.iconst 0, 1) := by decide +kernel
theorem dX4_atRest_3 : decode cX4_atRest 3 = .ok (.istore_n 2, 1) := by decide +kernel
theorem dX4_atRest_4 : decode cX4_atRest 4 = .ok (.iload_n 2, 1) := by decide +kernel
theorem dX4_atRest_5 : decode cX4_atRest 5 = .ok (.aload_n 0, 1) := by decide +kernel
theorem dX4_atRest_6 : decode cX4_atRest 6 = .ok (.getfield 7, 3) := by decide +kernel
theorem dX4_atRest_9 : decode cX4_atRest 9 = .ok (.iconst 0, 1) := by decide +kernel
theorem dX4_atRest_10 : decode cX4_atRest 10 = .ok (.iaload, 1) := by decide +kernel
theorem dX4_atRest_11 : decode cX4_atRest 11 = .ok (.if_icmp .ge 28, 3) := by decide +kernel
theorem dX4_atRest_14 : decode cX4_atRest 14 = .ok (.iload_n 1, 1) := by decide +kernel
theorem dX4_atRest_15 : decode cX4_atRest 15 = .ok (.aload_n 0, 1) := by decide +kernel
theorem dX4_atRest_16 : decode cX4_atRest 16 = .ok (.getfield 7, 3) := by decide +kernel
theorem dX4_atRest_19 : decode cX4_atRest 19 = .ok (.iload_n 2, 1) := by decide +kernel
theorem dX4_atRest_20 : decode cX4_atRest 20 = .ok (.invokestatic 79, 3) := by decide +kernel
theorem dX4_atRest_23 : decode cX4_atRest 23 = .ok (.ifCond .eq 7, 3) := by decide +kernel
theorem dX4_atRest_26 : decode cX4_atRest 26 = .ok (.iconst 1, 1) := by decide +kernel
theorem dX4_atRest_27 : decode cX4_atRest 27 = .ok (.goto 4, 3) := by decide +kernel
theorem dX4_atRest_30 : decode cX4_atRest 30 = .ok (.iconst 0, 1) := by decide +kernel
theorem dX4_atRest_31 : decode cX4_atRest 31 = .ok (.iadd, 1) := by decide +kernel
theorem dX4_atRest_32 : decode cX4_atRest 32 = .ok (.istore_n 1, 1) := by decide +kernel
theorem dX4_atRest_33 : decode cX4_atRest 33 = .ok (.iinc 2 1, 3) := by decide +kernel
theorem dX4_atRest_36 : decode cX4_atRest 36 = .ok (.goto (-32), 3) := by decide +kernel
theorem dX4_atRest_39 : decode cX4_atRest 39 = .ok (.iload_n 1, 1) := by decide +kernel
theorem dX4_atRest_40 : decode cX4_atRest 40 = .ok (.ireturn, 1) := by decide +kernel
theorem dX4_topmost_0 : decode cX4_topmost 0 = .ok (.iconst 0, 1) := by decide +kernel
theorem dX4_topmost_1 : decode cX4_topmost 1 = .ok (.istore_n 1, 1) := by decide +kernel
theorem dX4_topmost_2 : decode cX4_topmost 2 = .ok (.iload_n 1, 1) := by decide +kernel
theorem dX4_topmost_3 : decode cX4_topmost 3 = .ok (.bipush 16, 2) := by decide +kernel
theorem dX4_topmost_5 : decode cX4_topmost 5 = .ok (.if_icmp .ge 22, 3) := by decide +kernel
theorem dX4_topmost_8 : decode cX4_topmost 8 = .ok (.aload_n 0, 1) := by decide +kernel
theorem dX4_topmost_9 : decode cX4_topmost 9 = .ok (.getfield 7, 3) := by decide +kernel
theorem dX4_topmost_12 : decode cX4_topmost 12 = .ok (.iload_n 1, 1) := by decide +kernel
theorem dX4_topmost_13 : decode cX4_topmost 13 = .ok (.invokestatic 59, 3) := by decide +kernel
theorem dX4_topmost_16 : decode cX4_topmost 16 = .ok (.ifCond .eq 5, 3) := by decide +kernel
theorem dX4_topmost_19 : decode cX4_topmost 19 = .ok (.iload_n 1, 1) := by decide +kernel
theorem dX4_topmost_20 : decode cX4_topmost 20 = .ok (.ireturn, 1) := by decide +kernel
theorem dX4_topmost_21 : decode cX4_topmost 21 = .ok (.iinc 1 1, 3) := by decide +kernel
theorem dX4_topmost_24 : decode cX4_topmost 24 = .ok (.goto (-22), 3) := by decide +kernel
theorem dX4_topmost_27 : decode cX4_topmost 27 = .ok (.iconst (-1), 1) := by decide +kernel
theorem dX4_topmost_28 : decode cX4_topmost 28 = .ok (.ireturn, 1) := by decide +kernel
theorem dX4_squares_0 : decode cX4_squares 0 = .ok (.iconst 0, 1) := by decide +kernel
theorem dX4_squares_1 : decode cX4_squares 1 = .ok (.istore_n 1, 1) := by decide +kernel
theorem dX4_squares_2 : decode cX4_squares 2 = .ok (.iconst 0, 1) := by decide +kernel
theorem dX4_squares_3 : decode cX4_squares 3 = .ok (.istore_n 2, 1) := by decide +kernel
theorem dX4_squares_4 : decode cX4_squares 4 = .ok (.iload_n 2, 1) := by decide +kernel
theorem dX4_squares_5 : decode cX4_squares 5 = .ok (.aload_n 0, 1) := by decide +kernel
theorem dX4_squares_6 : decode cX4_squares 6 = .ok (.getfield 7, 3) := by decide +kernel
theorem dX4_squares_9 : decode cX4_squares 9 = .ok (.iconst 0, 1) := by decide +kernel
theorem dX4_squares_10 : decode cX4_squares 10 = .ok (.iaload, 1) := by decide +kernel
theorem dX4_squares_11 : decode cX4_squares 11 = .ok (.if_icmp .ge 36, 3) := by decide +kernel
theorem dX4_squares_14 : decode cX4_squares 14 = .ok (.iload_n 1, 1) := by decide +kernel
theorem dX4_squares_15 : decode cX4_squares 15 = .ok (.aload_n 0, 1) := by decide +kernel
theorem dX4_squares_16 : decode cX4_squares 16 = .ok (.getfield 7, 3) := by decide +kernel
theorem dX4_squares_19 : decode cX4_squares 19 = .ok (.iload_n 2, 1) := by decide +kernel
theorem dX4_squares_20 : decode cX4_squares 20 = .ok (.invokestatic 47, 3) := by decide +kernel
theorem dX4_squares_23 : decode cX4_squares 23 = .ok (.ifCond .eq 15, 3) := by decide +kernel
theorem dX4_squares_26 : decode cX4_squares 26 = .ok (.aload_n 0, 1) := by decide +kernel
theorem dX4_squares_27 : decode cX4_squares 27 = .ok (.getfield 7, 3) := by decide +kernel
theorem dX4_squares_30 : decode cX4_squares 30 = .ok (.iload_n 2, 1) := by decide +kernel
theorem dX4_squares_31 : decode cX4_squares 31 = .ok (.iconst 0, 1) := by decide +kernel
theorem dX4_squares_32 : decode cX4_squares 32 = .ok (.invokestatic 43, 3) := by decide +kernel
theorem dX4_squares_35 : decode cX4_squares 35 = .ok (.goto 4, 3) := by decide +kernel
theorem dX4_squares_38 : decode cX4_squares 38 = .ok (.iconst 0, 1) := by decide +kernel
theorem dX4_squares_39 : decode cX4_squares 39 = .ok (.iadd, 1) := by decide +kernel
theorem dX4_squares_40 : decode cX4_squares 40 = .ok (.istore_n 1, 1) := by decide +kernel
theorem dX4_squares_41 : decode cX4_squares 41 = .ok (.iinc 2 1, 3) := by decide +kernel
theorem dX4_squares_44 : decode cX4_squares 44 = .ok (.goto (-40), 3) := by decide +kernel
theorem dX4_squares_47 : decode cX4_squares 47 = .ok (.iload_n 1, 1) := by decide +kernel
theorem dX4_squares_48 : decode cX4_squares 48 = .ok (.ireturn, 1) := by decide +kernel
theorem dX4_greatestLoad_0 : decode cX4_greatestLoad 0 = .ok (.iconst 0, 1) := by decide +kernel
theorem dX4_greatestLoad_1 : decode cX4_greatestLoad 1 = .ok (.istore_n 1, 1) := by decide +kernel
theorem dX4_greatestLoad_2 : decode cX4_greatestLoad 2 = .ok (.iconst 0, 1) := by decide +kernel
theorem dX4_greatestLoad_3 : decode cX4_greatestLoad 3 = .ok (.istore_n 2, 1) := by decide +kernel
theorem dX4_greatestLoad_4 : decode cX4_greatestLoad 4 = .ok (.iload_n 2, 1) := by decide +kernel
theorem dX4_greatestLoad_5 : decode cX4_greatestLoad 5 = .ok (.aload_n 0, 1) := by decide +kernel
theorem dX4_greatestLoad_6 : decode cX4_greatestLoad 6 = .ok (.getfield 7, 3) := by decide +kernel
theorem dX4_greatestLoad_9 : decode cX4_greatestLoad 9 = .ok (.iconst 0, 1) := by decide +kernel
theorem dX4_greatestLoad_10 : decode cX4_greatestLoad 10 = .ok (.iaload, 1) := by decide +kernel
theorem dX4_greatestLoad_11 : decode cX4_greatestLoad 11 = .ok (.if_icmp .ge 34, 3) := by decide +kernel
theorem dX4_greatestLoad_14 : decode cX4_greatestLoad 14 = .ok (.aload_n 0, 1) := by decide +kernel
theorem dX4_greatestLoad_15 : decode cX4_greatestLoad 15 = .ok (.getfield 7, 3) := by decide +kernel
theorem dX4_greatestLoad_18 : decode cX4_greatestLoad 18 = .ok (.iload_n 2, 1) := by decide +kernel
theorem dX4_greatestLoad_19 : decode cX4_greatestLoad 19 = .ok (.invokestatic 82, 3) := by decide +kernel
theorem dX4_greatestLoad_22 : decode cX4_greatestLoad 22 = .ok (.iload_n 1, 1) := by decide +kernel
theorem dX4_greatestLoad_23 : decode cX4_greatestLoad 23 = .ok (.if_icmp .le 14, 3) := by decide +kernel
theorem dX4_greatestLoad_26 : decode cX4_greatestLoad 26 = .ok (.aload_n 0, 1) := by decide +kernel
theorem dX4_greatestLoad_27 : decode cX4_greatestLoad 27 = .ok (.getfield 7, 3) := by decide +kernel
theorem dX4_greatestLoad_30 : decode cX4_greatestLoad 30 = .ok (.iload_n 2, 1) := by decide +kernel
theorem dX4_greatestLoad_31 : decode cX4_greatestLoad 31 = .ok (.invokestatic 82, 3) := by decide +kernel
theorem dX4_greatestLoad_34 : decode cX4_greatestLoad 34 = .ok (.goto 4, 3) := by decide +kernel
theorem dX4_greatestLoad_37 : decode cX4_greatestLoad 37 = .ok (.iload_n 1, 1) := by decide +kernel
theorem dX4_greatestLoad_38 : decode cX4_greatestLoad 38 = .ok (.istore_n 1, 1) := by decide +kernel
theorem dX4_greatestLoad_39 : decode cX4_greatestLoad 39 = .ok (.iinc 2 1, 3) := by decide +kernel
theorem dX4_greatestLoad_42 : decode cX4_greatestLoad 42 = .ok (.goto (-38), 3) := by decide +kernel
theorem dX4_greatestLoad_45 : decode cX4_greatestLoad 45 = .ok (.iload_n 1, 1) := by decide +kernel
theorem dX4_greatestLoad_46 : decode cX4_greatestLoad 46 = .ok (.ireturn, 1) := by decide +kernel
theorem dX4_counted_0 : decode cX4_counted 0 = .ok (.iload_n 1, 1) := by decide +kernel
theorem dX4_counted_1 : decode cX4_counted 1 = .ok (.tableswitch 134 0 10 #[59, 66, 73, 79, 85, 90, 96, 103, 108, 113, 129], 59) := by decide +kernel
theorem dX4_counted_60 : decode cX4_counted 60 = .ok (.aload_n 0, 1) := by decide +kernel
theorem dX4_counted_61 : decode cX4_counted 61 = .ok (.getfield 7, 3) := by decide +kernel
theorem dX4_counted_64 : decode cX4_counted 64 = .ok (.iconst 1, 1) := by decide +kernel
theorem dX4_counted_65 : decode cX4_counted 65 = .ok (.iaload, 1) := by decide +kernel
theorem dX4_counted_66 : decode cX4_counted 66 = .ok (.ireturn, 1) := by decide +kernel
theorem dX4_counted_67 : decode cX4_counted 67 = .ok (.aload_n 0, 1) := by decide +kernel
theorem dX4_counted_68 : decode cX4_counted 68 = .ok (.getfield 7, 3) := by decide +kernel
theorem dX4_counted_71 : decode cX4_counted 71 = .ok (.iconst 0, 1) := by decide +kernel
theorem dX4_counted_72 : decode cX4_counted 72 = .ok (.iaload, 1) := by decide +kernel
theorem dX4_counted_73 : decode cX4_counted 73 = .ok (.ireturn, 1) := by decide +kernel
theorem dX4_counted_74 : decode cX4_counted 74 = .ok (.aload_n 0, 1) := by decide +kernel
theorem dX4_counted_75 : decode cX4_counted 75 = .ok (.iconst 0, 1) := by decide +kernel
theorem dX4_counted_76 : decode cX4_counted 76 = .ok (.invokevirtual 198, 3) := by decide +kernel
theorem dX4_counted_79 : decode cX4_counted 79 = .ok (.ireturn, 1) := by decide +kernel
theorem dX4_counted_80 : decode cX4_counted 80 = .ok (.aload_n 0, 1) := by decide +kernel
theorem dX4_counted_81 : decode cX4_counted 81 = .ok (.iconst 1, 1) := by decide +kernel
theorem dX4_counted_82 : decode cX4_counted 82 = .ok (.invokevirtual 198, 3) := by decide +kernel
theorem dX4_counted_85 : decode cX4_counted 85 = .ok (.ireturn, 1) := by decide +kernel
theorem dX4_counted_86 : decode cX4_counted 86 = .ok (.aload_n 0, 1) := by decide +kernel
theorem dX4_counted_87 : decode cX4_counted 87 = .ok (.invokevirtual 201, 3) := by decide +kernel
theorem dX4_counted_90 : decode cX4_counted 90 = .ok (.ireturn, 1) := by decide +kernel
theorem dX4_counted_91 : decode cX4_counted 91 = .ok (.aload_n 0, 1) := by decide +kernel
theorem dX4_counted_92 : decode cX4_counted 92 = .ok (.iconst 3, 1) := by decide +kernel
theorem dX4_counted_93 : decode cX4_counted 93 = .ok (.invokevirtual 198, 3) := by decide +kernel
theorem dX4_counted_96 : decode cX4_counted 96 = .ok (.ireturn, 1) := by decide +kernel
theorem dX4_counted_97 : decode cX4_counted 97 = .ok (.aload_n 0, 1) := by decide +kernel
theorem dX4_counted_98 : decode cX4_counted 98 = .ok (.getfield 7, 3) := by decide +kernel
theorem dX4_counted_101 : decode cX4_counted 101 = .ok (.iconst 3, 1) := by decide +kernel
theorem dX4_counted_102 : decode cX4_counted 102 = .ok (.iaload, 1) := by decide +kernel
theorem dX4_counted_103 : decode cX4_counted 103 = .ok (.ireturn, 1) := by decide +kernel
theorem dX4_counted_104 : decode cX4_counted 104 = .ok (.aload_n 0, 1) := by decide +kernel
theorem dX4_counted_105 : decode cX4_counted 105 = .ok (.invokevirtual 205, 3) := by decide +kernel
theorem dX4_counted_108 : decode cX4_counted 108 = .ok (.ireturn, 1) := by decide +kernel
theorem dX4_counted_109 : decode cX4_counted 109 = .ok (.aload_n 0, 1) := by decide +kernel
theorem dX4_counted_110 : decode cX4_counted 110 = .ok (.invokevirtual 208, 3) := by decide +kernel
theorem dX4_counted_113 : decode cX4_counted 113 = .ok (.ireturn, 1) := by decide +kernel
theorem dX4_counted_114 : decode cX4_counted 114 = .ok (.aload_n 0, 1) := by decide +kernel
theorem dX4_counted_115 : decode cX4_counted 115 = .ok (.getfield 7, 3) := by decide +kernel
theorem dX4_counted_118 : decode cX4_counted 118 = .ok (.invokestatic 113, 3) := by decide +kernel
theorem dX4_counted_121 : decode cX4_counted 121 = .ok (.ifCond .eq 7, 3) := by decide +kernel
theorem dX4_counted_124 : decode cX4_counted 124 = .ok (.iconst 1, 1) := by decide +kernel
theorem dX4_counted_125 : decode cX4_counted 125 = .ok (.goto 4, 3) := by decide +kernel
theorem dX4_counted_128 : decode cX4_counted 128 = .ok (.iconst 0, 1) := by decide +kernel
theorem dX4_counted_129 : decode cX4_counted 129 = .ok (.ireturn, 1) := by decide +kernel
theorem dX4_counted_130 : decode cX4_counted 130 = .ok (.aload_n 0, 1) := by decide +kernel
theorem dX4_counted_131 : decode cX4_counted 131 = .ok (.invokevirtual 211, 3) := by decide +kernel
theorem dX4_counted_134 : decode cX4_counted 134 = .ok (.ireturn, 1) := by decide +kernel
theorem dX4_counted_135 : decode cX4_counted 135 = .ok (.aload_n 0, 1) := by decide +kernel
theorem dX4_counted_136 : decode cX4_counted 136 = .ok (.getfield 32, 3) := by decide +kernel
theorem dX4_counted_139 : decode cX4_counted 139 = .ok (.ireturn, 1) := by decide +kernel
theorem dX4_count_0 : decode cX4_count 0 = .ok (.aload_n 0, 1) := by decide +kernel
theorem dX4_count_1 : decode cX4_count 1 = .ok (.iload_n 1, 1) := by decide +kernel
theorem dX4_count_2 : decode cX4_count 2 = .ok (.iconst 0, 1) := by decide +kernel
theorem dX4_count_3 : decode cX4_count 3 = .ok (.bipush 11, 2) := by decide +kernel
theorem dX4_count_5 : decode cX4_count 5 = .ok (.invokestatic 55, 3) := by decide +kernel
theorem dX4_count_8 : decode cX4_count 8 = .ok (.ifCond .eq 7, 3) := by decide +kernel
theorem dX4_count_11 : decode cX4_count 11 = .ok (.iconst 0, 1) := by decide +kernel
theorem dX4_count_12 : decode cX4_count 12 = .ok (.goto 4, 3) := by decide +kernel
theorem dX4_count_15 : decode cX4_count 15 = .ok (.iconst 1, 1) := by decide +kernel
theorem dX4_count_16 : decode cX4_count 16 = .ok (.invokevirtual 39, 3) := by decide +kernel
theorem dX4_count_19 : decode cX4_count 19 = .ok (.ifCond .eq 7, 3) := by decide +kernel
theorem dX4_count_22 : decode cX4_count 22 = .ok (.iconst 0, 1) := by decide +kernel
theorem dX4_count_23 : decode cX4_count 23 = .ok (.goto 8, 3) := by decide +kernel
theorem dX4_count_26 : decode cX4_count 26 = .ok (.aload_n 0, 1) := by decide +kernel
theorem dX4_count_27 : decode cX4_count 27 = .ok (.iload_n 1, 1) := by decide +kernel
theorem dX4_count_28 : decode cX4_count 28 = .ok (.invokevirtual 214, 3) := by decide +kernel
theorem dX4_count_31 : decode cX4_count 31 = .ok (.ireturn, 1) := by decide +kernel
theorem dX4_restIn_0 : decode cX4_restIn 0 = .ok (.aload_n 0, 1) := by decide +kernel
theorem dX4_restIn_1 : decode cX4_restIn 1 = .ok (.getfield 7, 3) := by decide +kernel
theorem dX4_restIn_4 : decode cX4_restIn 4 = .ok (.iconst 0, 1) := by decide +kernel
theorem dX4_restIn_5 : decode cX4_restIn 5 = .ok (.aload_n 0, 1) := by decide +kernel
theorem dX4_restIn_6 : decode cX4_restIn 6 = .ok (.getfield 13, 3) := by decide +kernel
theorem dX4_restIn_9 : decode cX4_restIn 9 = .ok (.iconst 0, 1) := by decide +kernel
theorem dX4_restIn_10 : decode cX4_restIn 10 = .ok (.invokestatic 35, 3) := by decide +kernel
theorem dX4_restIn_13 : decode cX4_restIn 13 = .ok (.aload_n 0, 1) := by decide +kernel
theorem dX4_restIn_14 : decode cX4_restIn 14 = .ok (.aload_n 0, 1) := by decide +kernel
theorem dX4_restIn_15 : decode cX4_restIn 15 = .ok (.getfield 13, 3) := by decide +kernel
theorem dX4_restIn_18 : decode cX4_restIn 18 = .ok (.invokevirtual 217, 3) := by decide +kernel
theorem dX4_restIn_21 : decode cX4_restIn 21 = .ok (.ireturn, 1) := by decide +kernel
theorem dX4_untilRest_0 : decode cX4_untilRest 0 = .ok (.aload_n 0, 1) := by decide +kernel
theorem dX4_untilRest_1 : decode cX4_untilRest 1 = .ok (.iconst 0, 1) := by decide +kernel
theorem dX4_untilRest_2 : decode cX4_untilRest 2 = .ok (.putfield 28, 3) := by decide +kernel
theorem dX4_untilRest_5 : decode cX4_untilRest 5 = .ok (.aload_n 0, 1) := by decide +kernel
theorem dX4_untilRest_6 : decode cX4_untilRest 6 = .ok (.invokevirtual 220, 3) := by decide +kernel
theorem dX4_untilRest_9 : decode cX4_untilRest 9 = .ok (.ireturn, 1) := by decide +kernel
theorem dX4_dropped_0 : decode cX4_dropped 0 = .ok (.aload_n 0, 1) := by decide +kernel
theorem dX4_dropped_1 : decode cX4_dropped 1 = .ok (.getfield 7, 3) := by decide +kernel
theorem dX4_dropped_4 : decode cX4_dropped 4 = .ok (.iconst 0, 1) := by decide +kernel
theorem dX4_dropped_5 : decode cX4_dropped 5 = .ok (.aload_n 0, 1) := by decide +kernel
theorem dX4_dropped_6 : decode cX4_dropped 6 = .ok (.getfield 13, 3) := by decide +kernel
theorem dX4_dropped_9 : decode cX4_dropped 9 = .ok (.iconst 0, 1) := by decide +kernel
theorem dX4_dropped_10 : decode cX4_dropped 10 = .ok (.invokestatic 35, 3) := by decide +kernel
theorem dX4_dropped_13 : decode cX4_dropped 13 = .ok (.aload_n 0, 1) := by decide +kernel
theorem dX4_dropped_14 : decode cX4_dropped 14 = .ok (.getfield 13, 3) := by decide +kernel
theorem dX4_dropped_17 : decode cX4_dropped 17 = .ok (.iconst 0, 1) := by decide +kernel
theorem dX4_dropped_18 : decode cX4_dropped 18 = .ok (.iaload, 1) := by decide +kernel
theorem dX4_dropped_19 : decode cX4_dropped 19 = .ok (.istore 5, 2) := by decide +kernel
theorem dX4_dropped_21 : decode cX4_dropped 21 = .ok (.aload_n 0, 1) := by decide +kernel
theorem dX4_dropped_22 : decode cX4_dropped 22 = .ok (.getfield 13, 3) := by decide +kernel
theorem dX4_dropped_25 : decode cX4_dropped 25 = .ok (.iload_n 1, 1) := by decide +kernel
theorem dX4_dropped_26 : decode cX4_dropped 26 = .ok (.iload_n 2, 1) := by decide +kernel
theorem dX4_dropped_27 : decode cX4_dropped 27 = .ok (.iload_n 3, 1) := by decide +kernel
theorem dX4_dropped_28 : decode cX4_dropped 28 = .ok (.iconst 0, 1) := by decide +kernel
theorem dX4_dropped_29 : decode cX4_dropped 29 = .ok (.aload_n 0, 1) := by decide +kernel
theorem dX4_dropped_30 : decode cX4_dropped 30 = .ok (.getfield 13, 3) := by decide +kernel
theorem dX4_dropped_33 : decode cX4_dropped 33 = .ok (.iconst 1, 1) := by decide +kernel
theorem dX4_dropped_34 : decode cX4_dropped 34 = .ok (.iaload, 1) := by decide +kernel
theorem dX4_dropped_35 : decode cX4_dropped 35 = .ok (.invokestatic 130, 3) := by decide +kernel
theorem dX4_dropped_38 : decode cX4_dropped 38 = .ok (.aload_n 0, 1) := by decide +kernel
theorem dX4_dropped_39 : decode cX4_dropped 39 = .ok (.aload_n 0, 1) := by decide +kernel
theorem dX4_dropped_40 : decode cX4_dropped 40 = .ok (.getfield 13, 3) := by decide +kernel
theorem dX4_dropped_43 : decode cX4_dropped 43 = .ok (.invokevirtual 217, 3) := by decide +kernel
theorem dX4_dropped_46 : decode cX4_dropped 46 = .ok (.istore 6, 2) := by decide +kernel
theorem dX4_dropped_48 : decode cX4_dropped 48 = .ok (.iload 4, 2) := by decide +kernel
theorem dX4_dropped_50 : decode cX4_dropped 50 = .ok (.iconst 2, 1) := by decide +kernel
theorem dX4_dropped_51 : decode cX4_dropped 51 = .ok (.if_icmp .ne 17, 3) := by decide +kernel
theorem dX4_dropped_54 : decode cX4_dropped 54 = .ok (.aload_n 0, 1) := by decide +kernel
theorem dX4_dropped_55 : decode cX4_dropped 55 = .ok (.getfield 13, 3) := by decide +kernel
theorem dX4_dropped_58 : decode cX4_dropped 58 = .ok (.iconst 3, 1) := by decide +kernel
theorem dX4_dropped_59 : decode cX4_dropped 59 = .ok (.iaload, 1) := by decide +kernel
theorem dX4_dropped_60 : decode cX4_dropped 60 = .ok (.aload_n 0, 1) := by decide +kernel
theorem dX4_dropped_61 : decode cX4_dropped 61 = .ok (.getfield 7, 3) := by decide +kernel
theorem dX4_dropped_64 : decode cX4_dropped 64 = .ok (.iconst 3, 1) := by decide +kernel
theorem dX4_dropped_65 : decode cX4_dropped 65 = .ok (.iaload, 1) := by decide +kernel
theorem dX4_dropped_66 : decode cX4_dropped 66 = .ok (.isub, 1) := by decide +kernel
theorem dX4_dropped_67 : decode cX4_dropped 67 = .ok (.ireturn, 1) := by decide +kernel
theorem dX4_dropped_68 : decode cX4_dropped 68 = .ok (.iload 6, 2) := by decide +kernel
theorem dX4_dropped_70 : decode cX4_dropped 70 = .ok (.iconst (-1), 1) := by decide +kernel
theorem dX4_dropped_71 : decode cX4_dropped 71 = .ok (.if_icmp .eq 15, 3) := by decide +kernel
theorem dX4_dropped_74 : decode cX4_dropped 74 = .ok (.aload_n 0, 1) := by decide +kernel
theorem dX4_dropped_75 : decode cX4_dropped 75 = .ok (.getfield 13, 3) := by decide +kernel
theorem dX4_dropped_78 : decode cX4_dropped 78 = .ok (.iload 5, 2) := by decide +kernel
theorem dX4_dropped_80 : decode cX4_dropped 80 = .ok (.invokestatic 47, 3) := by decide +kernel
theorem dX4_dropped_83 : decode cX4_dropped 83 = .ok (.ifCond .ne 7, 3) := by decide +kernel
theorem dX4_dropped_86 : decode cX4_dropped 86 = .ok (.iconst (-1), 1) := by decide +kernel
theorem dX4_dropped_87 : decode cX4_dropped 87 = .ok (.goto 23, 3) := by decide +kernel
theorem dX4_dropped_90 : decode cX4_dropped 90 = .ok (.aload_n 0, 1) := by decide +kernel
theorem dX4_dropped_91 : decode cX4_dropped 91 = .ok (.getfield 13, 3) := by decide +kernel
theorem dX4_dropped_94 : decode cX4_dropped 94 = .ok (.iload 5, 2) := by decide +kernel
theorem dX4_dropped_96 : decode cX4_dropped 96 = .ok (.iload 4, 2) := by decide +kernel
theorem dX4_dropped_98 : decode cX4_dropped 98 = .ok (.ifCond .ne 8, 3) := by decide +kernel
theorem dX4_dropped_101 : decode cX4_dropped 101 = .ok (.bipush 6, 2) := by decide +kernel
theorem dX4_dropped_103 : decode cX4_dropped 103 = .ok (.goto 4, 3) := by decide +kernel
theorem dX4_dropped_106 : decode cX4_dropped 106 = .ok (.iconst 3, 1) := by decide +kernel
theorem dX4_dropped_107 : decode cX4_dropped 107 = .ok (.invokestatic 43, 3) := by decide +kernel
theorem dX4_dropped_110 : decode cX4_dropped 110 = .ok (.ireturn, 1) := by decide +kernel
theorem dX4_ifDropped_0 : decode cX4_ifDropped 0 = .ok (.iload_n 1, 1) := by decide +kernel
theorem dX4_ifDropped_1 : decode cX4_ifDropped 1 = .ok (.iload_n 2, 1) := by decide +kernel
theorem dX4_ifDropped_2 : decode cX4_ifDropped 2 = .ok (.iload_n 3, 1) := by decide +kernel
theorem dX4_ifDropped_3 : decode cX4_ifDropped 3 = .ok (.invokestatic 120, 3) := by decide +kernel
theorem dX4_ifDropped_6 : decode cX4_ifDropped 6 = .ok (.ifCond .eq 17, 3) := by decide +kernel
theorem dX4_ifDropped_9 : decode cX4_ifDropped 9 = .ok (.iload 4, 2) := by decide +kernel
theorem dX4_ifDropped_11 : decode cX4_ifDropped 11 = .ok (.iconst 0, 1) := by decide +kernel
theorem dX4_ifDropped_12 : decode cX4_ifDropped 12 = .ok (.iconst 2, 1) := by decide +kernel
theorem dX4_ifDropped_13 : decode cX4_ifDropped 13 = .ok (.invokestatic 55, 3) := by decide +kernel
theorem dX4_ifDropped_16 : decode cX4_ifDropped 16 = .ok (.ifCond .eq 7, 3) := by decide +kernel
theorem dX4_ifDropped_19 : decode cX4_ifDropped 19 = .ok (.iconst 1, 1) := by decide +kernel
theorem dX4_ifDropped_20 : decode cX4_ifDropped 20 = .ok (.goto 4, 3) := by decide +kernel
theorem dX4_ifDropped_23 : decode cX4_ifDropped 23 = .ok (.iconst 0, 1) := by decide +kernel
theorem dX4_ifDropped_24 : decode cX4_ifDropped 24 = .ok (.istore 5, 2) := by decide +kernel
theorem dX4_ifDropped_26 : decode cX4_ifDropped 26 = .ok (.aload_n 0, 1) := by decide +kernel
theorem dX4_ifDropped_27 : decode cX4_ifDropped 27 = .ok (.iload 5, 2) := by decide +kernel
theorem dX4_ifDropped_29 : decode cX4_ifDropped 29 = .ok (.ifCond .eq 7, 3) := by decide +kernel
theorem dX4_ifDropped_32 : decode cX4_ifDropped 32 = .ok (.iconst 0, 1) := by decide +kernel
theorem dX4_ifDropped_33 : decode cX4_ifDropped 33 = .ok (.goto 4, 3) := by decide +kernel
theorem dX4_ifDropped_36 : decode cX4_ifDropped 36 = .ok (.iconst 1, 1) := by decide +kernel
theorem dX4_ifDropped_37 : decode cX4_ifDropped 37 = .ok (.invokevirtual 39, 3) := by decide +kernel
theorem dX4_ifDropped_40 : decode cX4_ifDropped 40 = .ok (.ifCond .eq 7, 3) := by decide +kernel
theorem dX4_ifDropped_43 : decode cX4_ifDropped 43 = .ok (.iconst 0, 1) := by decide +kernel
theorem dX4_ifDropped_44 : decode cX4_ifDropped 44 = .ok (.goto 12, 3) := by decide +kernel
theorem dX4_ifDropped_47 : decode cX4_ifDropped 47 = .ok (.aload_n 0, 1) := by decide +kernel
theorem dX4_ifDropped_48 : decode cX4_ifDropped 48 = .ok (.iload_n 1, 1) := by decide +kernel
theorem dX4_ifDropped_49 : decode cX4_ifDropped 49 = .ok (.iload_n 2, 1) := by decide +kernel
theorem dX4_ifDropped_50 : decode cX4_ifDropped 50 = .ok (.iload_n 3, 1) := by decide +kernel
theorem dX4_ifDropped_51 : decode cX4_ifDropped 51 = .ok (.iload 4, 2) := by decide +kernel
theorem dX4_ifDropped_53 : decode cX4_ifDropped 53 = .ok (.invokevirtual 223, 3) := by decide +kernel
theorem dX4_ifDropped_56 : decode cX4_ifDropped 56 = .ok (.ireturn, 1) := by decide +kernel
theorem dX4_best_0 : decode cX4_best 0 = .ok (.iconst (-1), 1) := by decide +kernel
theorem dX4_best_1 : decode cX4_best 1 = .ok (.istore_n 3, 1) := by decide +kernel
theorem dX4_best_2 : decode cX4_best 2 = .ok (.iconst 0, 1) := by decide +kernel
theorem dX4_best_3 : decode cX4_best 3 = .ok (.istore 4, 2) := by decide +kernel
theorem dX4_best_5 : decode cX4_best 5 = .ok (.iconst 0, 1) := by decide +kernel
theorem dX4_best_6 : decode cX4_best 6 = .ok (.istore 5, 2) := by decide +kernel
theorem dX4_best_8 : decode cX4_best 8 = .ok (.iconst 0, 1) := by decide +kernel
theorem dX4_best_9 : decode cX4_best 9 = .ok (.istore 6, 2) := by decide +kernel
theorem dX4_best_11 : decode cX4_best 11 = .ok (.iload 6, 2) := by decide +kernel
theorem dX4_best_13 : decode cX4_best 13 = .ok (.bipush 24, 2) := by decide +kernel
theorem dX4_best_15 : decode cX4_best 15 = .ok (.iload_n 1, 1) := by decide +kernel
theorem dX4_best_16 : decode cX4_best 16 = .ok (.isub, 1) := by decide +kernel
theorem dX4_best_17 : decode cX4_best 17 = .ok (.if_icmp .gt 114, 3) := by decide +kernel
theorem dX4_best_20 : decode cX4_best 20 = .ok (.aload_n 0, 1) := by decide +kernel
theorem dX4_best_21 : decode cX4_best 21 = .ok (.iload_n 1, 1) := by decide +kernel
theorem dX4_best_22 : decode cX4_best 22 = .ok (.iload_n 2, 1) := by decide +kernel
theorem dX4_best_23 : decode cX4_best 23 = .ok (.iload 6, 2) := by decide +kernel
theorem dX4_best_25 : decode cX4_best 25 = .ok (.iconst 0, 1) := by decide +kernel
theorem dX4_best_26 : decode cX4_best 26 = .ok (.invokevirtual 223, 3) := by decide +kernel
theorem dX4_best_29 : decode cX4_best 29 = .ok (.istore 7, 2) := by decide +kernel
theorem dX4_best_31 : decode cX4_best 31 = .ok (.aload_n 0, 1) := by decide +kernel
theorem dX4_best_32 : decode cX4_best 32 = .ok (.getfield 13, 3) := by decide +kernel
theorem dX4_best_35 : decode cX4_best 35 = .ok (.iconst 3, 1) := by decide +kernel
theorem dX4_best_36 : decode cX4_best 36 = .ok (.iaload, 1) := by decide +kernel
theorem dX4_best_37 : decode cX4_best 37 = .ok (.aload_n 0, 1) := by decide +kernel
theorem dX4_best_38 : decode cX4_best 38 = .ok (.getfield 7, 3) := by decide +kernel
theorem dX4_best_41 : decode cX4_best 41 = .ok (.iconst 3, 1) := by decide +kernel
theorem dX4_best_42 : decode cX4_best 42 = .ok (.iaload, 1) := by decide +kernel
theorem dX4_best_43 : decode cX4_best 43 = .ok (.isub, 1) := by decide +kernel
theorem dX4_best_44 : decode cX4_best 44 = .ok (.istore 8, 2) := by decide +kernel
theorem dX4_best_46 : decode cX4_best 46 = .ok (.iload 7, 2) := by decide +kernel
theorem dX4_best_48 : decode cX4_best 48 = .ok (.iconst (-1), 1) := by decide +kernel
theorem dX4_best_49 : decode cX4_best 49 = .ok (.if_icmp .eq 33, 3) := by decide +kernel
theorem dX4_best_52 : decode cX4_best 52 = .ok (.iload_n 3, 1) := by decide +kernel
theorem dX4_best_53 : decode cX4_best 53 = .ok (.iconst (-1), 1) := by decide +kernel
theorem dX4_best_54 : decode cX4_best 54 = .ok (.if_icmp .eq 24, 3) := by decide +kernel
theorem dX4_best_57 : decode cX4_best 57 = .ok (.iload 7, 2) := by decide +kernel
theorem dX4_best_59 : decode cX4_best 59 = .ok (.iload 4, 2) := by decide +kernel
theorem dX4_best_61 : decode cX4_best 61 = .ok (.if_icmp .gt 17, 3) := by decide +kernel
theorem dX4_best_64 : decode cX4_best 64 = .ok (.iload 7, 2) := by decide +kernel
theorem dX4_best_66 : decode cX4_best 66 = .ok (.iload 4, 2) := by decide +kernel
theorem dX4_best_68 : decode cX4_best 68 = .ok (.if_icmp .ne 14, 3) := by decide +kernel
theorem dX4_best_71 : decode cX4_best 71 = .ok (.iload 8, 2) := by decide +kernel
theorem dX4_best_73 : decode cX4_best 73 = .ok (.iload 5, 2) := by decide +kernel
theorem dX4_best_75 : decode cX4_best 75 = .ok (.if_icmp .ge 7, 3) := by decide +kernel
theorem dX4_best_78 : decode cX4_best 78 = .ok (.iconst 1, 1) := by decide +kernel
theorem dX4_best_79 : decode cX4_best 79 = .ok (.goto 4, 3) := by decide +kernel
theorem dX4_best_82 : decode cX4_best 82 = .ok (.iconst 0, 1) := by decide +kernel
theorem dX4_best_83 : decode cX4_best 83 = .ok (.istore 9, 2) := by decide +kernel
theorem dX4_best_85 : decode cX4_best 85 = .ok (.iload 9, 2) := by decide +kernel
theorem dX4_best_87 : decode cX4_best 87 = .ok (.ifCond .eq 8, 3) := by decide +kernel
theorem dX4_best_90 : decode cX4_best 90 = .ok (.iload 6, 2) := by decide +kernel
theorem dX4_best_92 : decode cX4_best 92 = .ok (.goto 4, 3) := by decide +kernel
theorem dX4_best_95 : decode cX4_best 95 = .ok (.iload_n 3, 1) := by decide +kernel
theorem dX4_best_96 : decode cX4_best 96 = .ok (.istore_n 3, 1) := by decide +kernel
theorem dX4_best_97 : decode cX4_best 97 = .ok (.iload 9, 2) := by decide +kernel
theorem dX4_best_99 : decode cX4_best 99 = .ok (.ifCond .eq 8, 3) := by decide +kernel
theorem dX4_best_102 : decode cX4_best 102 = .ok (.iload 7, 2) := by decide +kernel
theorem dX4_best_104 : decode cX4_best 104 = .ok (.goto 5, 3) := by decide +kernel
theorem dX4_best_107 : decode cX4_best 107 = .ok (.iload 4, 2) := by decide +kernel
theorem dX4_best_109 : decode cX4_best 109 = .ok (.istore 4, 2) := by decide +kernel
theorem dX4_best_111 : decode cX4_best 111 = .ok (.iload 9, 2) := by decide +kernel
theorem dX4_best_113 : decode cX4_best 113 = .ok (.ifCond .eq 8, 3) := by decide +kernel
theorem dX4_best_116 : decode cX4_best 116 = .ok (.iload 8, 2) := by decide +kernel
theorem dX4_best_118 : decode cX4_best 118 = .ok (.goto 5, 3) := by decide +kernel
theorem dX4_best_121 : decode cX4_best 121 = .ok (.iload 5, 2) := by decide +kernel
theorem dX4_best_123 : decode cX4_best 123 = .ok (.istore 5, 2) := by decide +kernel
theorem dX4_best_125 : decode cX4_best 125 = .ok (.iinc 6 1, 3) := by decide +kernel
theorem dX4_best_128 : decode cX4_best 128 = .ok (.goto (-117), 3) := by decide +kernel
theorem dX4_best_131 : decode cX4_best 131 = .ok (.iload_n 3, 1) := by decide +kernel
theorem dX4_best_132 : decode cX4_best 132 = .ok (.ireturn, 1) := by decide +kernel
theorem dX4_bestColumn_0 : decode cX4_bestColumn 0 = .ok (.iload_n 1, 1) := by decide +kernel
theorem dX4_bestColumn_1 : decode cX4_bestColumn 1 = .ok (.iconst 1, 1) := by decide +kernel
theorem dX4_bestColumn_2 : decode cX4_bestColumn 2 = .ok (.bipush 12, 2) := by decide +kernel
theorem dX4_bestColumn_4 : decode cX4_bestColumn 4 = .ok (.invokestatic 55, 3) := by decide +kernel
theorem dX4_bestColumn_7 : decode cX4_bestColumn 7 = .ok (.ifCond .eq 17, 3) := by decide +kernel
theorem dX4_bestColumn_10 : decode cX4_bestColumn 10 = .ok (.iload_n 2, 1) := by decide +kernel
theorem dX4_bestColumn_11 : decode cX4_bestColumn 11 = .ok (.iconst 1, 1) := by decide +kernel
theorem dX4_bestColumn_12 : decode cX4_bestColumn 12 = .ok (.bipush 9, 2) := by decide +kernel
theorem dX4_bestColumn_14 : decode cX4_bestColumn 14 = .ok (.invokestatic 55, 3) := by decide +kernel
theorem dX4_bestColumn_17 : decode cX4_bestColumn 17 = .ok (.ifCond .eq 7, 3) := by decide +kernel
theorem dX4_bestColumn_20 : decode cX4_bestColumn 20 = .ok (.iconst 1, 1) := by decide +kernel
theorem dX4_bestColumn_21 : decode cX4_bestColumn 21 = .ok (.goto 4, 3) := by decide +kernel
theorem dX4_bestColumn_24 : decode cX4_bestColumn 24 = .ok (.iconst 0, 1) := by decide +kernel
theorem dX4_bestColumn_25 : decode cX4_bestColumn 25 = .ok (.istore_n 3, 1) := by decide +kernel
theorem dX4_bestColumn_26 : decode cX4_bestColumn 26 = .ok (.aload_n 0, 1) := by decide +kernel
theorem dX4_bestColumn_27 : decode cX4_bestColumn 27 = .ok (.iload_n 3, 1) := by decide +kernel
theorem dX4_bestColumn_28 : decode cX4_bestColumn 28 = .ok (.ifCond .eq 7, 3) := by decide +kernel
theorem dX4_bestColumn_31 : decode cX4_bestColumn 31 = .ok (.iconst 0, 1) := by decide +kernel
theorem dX4_bestColumn_32 : decode cX4_bestColumn 32 = .ok (.goto 4, 3) := by decide +kernel
theorem dX4_bestColumn_35 : decode cX4_bestColumn 35 = .ok (.iconst 1, 1) := by decide +kernel
theorem dX4_bestColumn_36 : decode cX4_bestColumn 36 = .ok (.invokevirtual 39, 3) := by decide +kernel
theorem dX4_bestColumn_39 : decode cX4_bestColumn 39 = .ok (.ifCond .eq 7, 3) := by decide +kernel
theorem dX4_bestColumn_42 : decode cX4_bestColumn 42 = .ok (.iconst 0, 1) := by decide +kernel
theorem dX4_bestColumn_43 : decode cX4_bestColumn 43 = .ok (.goto 9, 3) := by decide +kernel
theorem dX4_bestColumn_46 : decode cX4_bestColumn 46 = .ok (.aload_n 0, 1) := by decide +kernel
theorem dX4_bestColumn_47 : decode cX4_bestColumn 47 = .ok (.iload_n 1, 1) := by decide +kernel
theorem dX4_bestColumn_48 : decode cX4_bestColumn 48 = .ok (.iload_n 2, 1) := by decide +kernel
theorem dX4_bestColumn_49 : decode cX4_bestColumn 49 = .ok (.invokevirtual 227, 3) := by decide +kernel
theorem dX4_bestColumn_52 : decode cX4_bestColumn 52 = .ok (.ireturn, 1) := by decide +kernel
theorem dX4_without_0 : decode cX4_without 0 = .ok (.aload_n 0, 1) := by decide +kernel
theorem dX4_without_1 : decode cX4_without 1 = .ok (.getfield 7, 3) := by decide +kernel
theorem dX4_without_4 : decode cX4_without 4 = .ok (.iconst 0, 1) := by decide +kernel
theorem dX4_without_5 : decode cX4_without 5 = .ok (.aload_n 0, 1) := by decide +kernel
theorem dX4_without_6 : decode cX4_without 6 = .ok (.getfield 13, 3) := by decide +kernel
theorem dX4_without_9 : decode cX4_without 9 = .ok (.iconst 0, 1) := by decide +kernel
theorem dX4_without_10 : decode cX4_without 10 = .ok (.invokestatic 35, 3) := by decide +kernel
theorem dX4_without_13 : decode cX4_without 13 = .ok (.aload_n 0, 1) := by decide +kernel
theorem dX4_without_14 : decode cX4_without 14 = .ok (.getfield 13, 3) := by decide +kernel
theorem dX4_without_17 : decode cX4_without 17 = .ok (.iload_n 1, 1) := by decide +kernel
theorem dX4_without_18 : decode cX4_without 18 = .ok (.invokestatic 137, 3) := by decide +kernel
theorem dX4_without_21 : decode cX4_without 21 = .ok (.istore_n 2, 1) := by decide +kernel
theorem dX4_without_22 : decode cX4_without 22 = .ok (.aload_n 0, 1) := by decide +kernel
theorem dX4_without_23 : decode cX4_without 23 = .ok (.aload_n 0, 1) := by decide +kernel
theorem dX4_without_24 : decode cX4_without 24 = .ok (.getfield 13, 3) := by decide +kernel
theorem dX4_without_27 : decode cX4_without 27 = .ok (.invokevirtual 217, 3) := by decide +kernel
theorem dX4_without_30 : decode cX4_without 30 = .ok (.istore_n 3, 1) := by decide +kernel
theorem dX4_without_31 : decode cX4_without 31 = .ok (.iconst 0, 1) := by decide +kernel
theorem dX4_without_32 : decode cX4_without 32 = .ok (.istore 4, 2) := by decide +kernel
theorem dX4_without_34 : decode cX4_without 34 = .ok (.iconst 0, 1) := by decide +kernel
theorem dX4_without_35 : decode cX4_without 35 = .ok (.istore 5, 2) := by decide +kernel
theorem dX4_without_37 : decode cX4_without 37 = .ok (.iload 5, 2) := by decide +kernel
theorem dX4_without_39 : decode cX4_without 39 = .ok (.aload_n 0, 1) := by decide +kernel
theorem dX4_without_40 : decode cX4_without 40 = .ok (.getfield 7, 3) := by decide +kernel
theorem dX4_without_43 : decode cX4_without 43 = .ok (.iconst 0, 1) := by decide +kernel
theorem dX4_without_44 : decode cX4_without 44 = .ok (.iaload, 1) := by decide +kernel
theorem dX4_without_45 : decode cX4_without 45 = .ok (.if_icmp .ge 94, 3) := by decide +kernel
theorem dX4_without_48 : decode cX4_without 48 = .ok (.aload_n 0, 1) := by decide +kernel
theorem dX4_without_49 : decode cX4_without 49 = .ok (.getfield 7, 3) := by decide +kernel
theorem dX4_without_52 : decode cX4_without 52 = .ok (.iload 5, 2) := by decide +kernel
theorem dX4_without_54 : decode cX4_without 54 = .ok (.invokestatic 47, 3) := by decide +kernel
theorem dX4_without_57 : decode cX4_without 57 = .ok (.ifCond .eq 21, 3) := by decide +kernel
theorem dX4_without_60 : decode cX4_without 60 = .ok (.aload_n 0, 1) := by decide +kernel
theorem dX4_without_61 : decode cX4_without 61 = .ok (.getfield 7, 3) := by decide +kernel
theorem dX4_without_64 : decode cX4_without 64 = .ok (.iload 5, 2) := by decide +kernel
theorem dX4_without_66 : decode cX4_without 66 = .ok (.iconst 2, 1) := by decide +kernel
theorem dX4_without_67 : decode cX4_without 67 = .ok (.invokestatic 43, 3) := by decide +kernel
theorem dX4_without_70 : decode cX4_without 70 = .ok (.iload_n 1, 1) := by decide +kernel
theorem dX4_without_71 : decode cX4_without 71 = .ok (.if_icmp .eq 7, 3) := by decide +kernel
theorem dX4_without_74 : decode cX4_without 74 = .ok (.iconst 1, 1) := by decide +kernel
theorem dX4_without_75 : decode cX4_without 75 = .ok (.goto 4, 3) := by decide +kernel
theorem dX4_without_78 : decode cX4_without 78 = .ok (.iconst 0, 1) := by decide +kernel
theorem dX4_without_79 : decode cX4_without 79 = .ok (.istore 6, 2) := by decide +kernel
theorem dX4_without_81 : decode cX4_without 81 = .ok (.iload 4, 2) := by decide +kernel
theorem dX4_without_83 : decode cX4_without 83 = .ok (.iload 6, 2) := by decide +kernel
theorem dX4_without_85 : decode cX4_without 85 = .ok (.ifCond .eq 44, 3) := by decide +kernel
theorem dX4_without_88 : decode cX4_without 88 = .ok (.aload_n 0, 1) := by decide +kernel
theorem dX4_without_89 : decode cX4_without 89 = .ok (.getfield 13, 3) := by decide +kernel
theorem dX4_without_92 : decode cX4_without 92 = .ok (.iload 5, 2) := by decide +kernel
theorem dX4_without_94 : decode cX4_without 94 = .ok (.invokestatic 47, 3) := by decide +kernel
theorem dX4_without_97 : decode cX4_without 97 = .ok (.ifCond .eq 28, 3) := by decide +kernel
theorem dX4_without_100 : decode cX4_without 100 = .ok (.aload_n 0, 1) := by decide +kernel
theorem dX4_without_101 : decode cX4_without 101 = .ok (.getfield 13, 3) := by decide +kernel
theorem dX4_without_104 : decode cX4_without 104 = .ok (.iload 5, 2) := by decide +kernel
theorem dX4_without_106 : decode cX4_without 106 = .ok (.bipush 6, 2) := by decide +kernel
theorem dX4_without_108 : decode cX4_without 108 = .ok (.invokestatic 43, 3) := by decide +kernel
theorem dX4_without_111 : decode cX4_without 111 = .ok (.aload_n 0, 1) := by decide +kernel
theorem dX4_without_112 : decode cX4_without 112 = .ok (.getfield 7, 3) := by decide +kernel
theorem dX4_without_115 : decode cX4_without 115 = .ok (.iload 5, 2) := by decide +kernel
theorem dX4_without_117 : decode cX4_without 117 = .ok (.bipush 6, 2) := by decide +kernel
theorem dX4_without_119 : decode cX4_without 119 = .ok (.invokestatic 43, 3) := by decide +kernel
theorem dX4_without_122 : decode cX4_without 122 = .ok (.if_icmp .le 7, 3) := by decide +kernel
theorem dX4_without_125 : decode cX4_without 125 = .ok (.iconst 1, 1) := by decide +kernel
theorem dX4_without_126 : decode cX4_without 126 = .ok (.goto 4, 3) := by decide +kernel
theorem dX4_without_129 : decode cX4_without 129 = .ok (.iconst 0, 1) := by decide +kernel
theorem dX4_without_130 : decode cX4_without 130 = .ok (.iadd, 1) := by decide +kernel
theorem dX4_without_131 : decode cX4_without 131 = .ok (.istore 4, 2) := by decide +kernel
theorem dX4_without_133 : decode cX4_without 133 = .ok (.iinc 5 1, 3) := by decide +kernel
theorem dX4_without_136 : decode cX4_without 136 = .ok (.goto (-99), 3) := by decide +kernel
theorem dX4_without_139 : decode cX4_without 139 = .ok (.iload_n 3, 1) := by decide +kernel
theorem dX4_without_140 : decode cX4_without 140 = .ok (.iconst (-1), 1) := by decide +kernel
theorem dX4_without_141 : decode cX4_without 141 = .ok (.if_icmp .eq 7, 3) := by decide +kernel
theorem dX4_without_144 : decode cX4_without 144 = .ok (.iload_n 2, 1) := by decide +kernel
theorem dX4_without_145 : decode cX4_without 145 = .ok (.ifCond .ge 7, 3) := by decide +kernel
theorem dX4_without_148 : decode cX4_without 148 = .ok (.iconst (-1), 1) := by decide +kernel
theorem dX4_without_149 : decode cX4_without 149 = .ok (.goto 5, 3) := by decide +kernel
theorem dX4_without_152 : decode cX4_without 152 = .ok (.iload 4, 2) := by decide +kernel
theorem dX4_without_154 : decode cX4_without 154 = .ok (.ireturn, 1) := by decide +kernel
theorem dX4_ifReset_0 : decode cX4_ifReset 0 = .ok (.aload_n 0, 1) := by decide +kernel
theorem dX4_ifReset_1 : decode cX4_ifReset 1 = .ok (.iload_n 1, 1) := by decide +kernel
theorem dX4_ifReset_2 : decode cX4_ifReset 2 = .ok (.invokestatic 134, 3) := by decide +kernel
theorem dX4_ifReset_5 : decode cX4_ifReset 5 = .ok (.ifCond .eq 7, 3) := by decide +kernel
theorem dX4_ifReset_8 : decode cX4_ifReset 8 = .ok (.iconst 0, 1) := by decide +kernel
theorem dX4_ifReset_9 : decode cX4_ifReset 9 = .ok (.goto 4, 3) := by decide +kernel
theorem dX4_ifReset_12 : decode cX4_ifReset 12 = .ok (.iconst 1, 1) := by decide +kernel
theorem dX4_ifReset_13 : decode cX4_ifReset 13 = .ok (.invokevirtual 39, 3) := by decide +kernel
theorem dX4_ifReset_16 : decode cX4_ifReset 16 = .ok (.ifCond .eq 7, 3) := by decide +kernel
theorem dX4_ifReset_19 : decode cX4_ifReset 19 = .ok (.iconst 0, 1) := by decide +kernel
theorem dX4_ifReset_20 : decode cX4_ifReset 20 = .ok (.goto 8, 3) := by decide +kernel
theorem dX4_ifReset_23 : decode cX4_ifReset 23 = .ok (.aload_n 0, 1) := by decide +kernel
theorem dX4_ifReset_24 : decode cX4_ifReset 24 = .ok (.iload_n 1, 1) := by decide +kernel
theorem dX4_ifReset_25 : decode cX4_ifReset 25 = .ok (.invokevirtual 230, 3) := by decide +kernel
theorem dX4_ifReset_28 : decode cX4_ifReset 28 = .ok (.ireturn, 1) := by decide +kernel
theorem dX4_share_0 : decode cX4_share 0 = .ok (.aload_n 0, 1) := by decide +kernel
theorem dX4_share_1 : decode cX4_share 1 = .ok (.invokevirtual 208, 3) := by decide +kernel
theorem dX4_share_4 : decode cX4_share 4 = .ok (.i2d, 1) := by decide +kernel
theorem dX4_share_5 : decode cX4_share 5 = .ok (.ldc2_w 233, 3) := by decide +kernel
theorem dX4_share_8 : decode cX4_share 8 = .ok (.ddiv, 1) := by decide +kernel
theorem dX4_share_9 : decode cX4_share 9 = .ok (.dreturn, 1) := by decide +kernel
theorem dX4_fullness_0 : decode cX4_fullness 0 = .ok (.aload_n 0, 1) := by decide +kernel
theorem dX4_fullness_1 : decode cX4_fullness 1 = .ok (.iconst 0, 1) := by decide +kernel
theorem dX4_fullness_2 : decode cX4_fullness 2 = .ok (.putfield 28, 3) := by decide +kernel
theorem dX4_fullness_5 : decode cX4_fullness 5 = .ok (.aload_n 0, 1) := by decide +kernel
theorem dX4_fullness_6 : decode cX4_fullness 6 = .ok (.invokevirtual 235, 3) := by decide +kernel
theorem dX4_fullness_9 : decode cX4_fullness 9 = .ok (.dreturn, 1) := by decide +kernel
theorem dX4_mix_0 : decode cX4_mix 0 = .ok (.aload_n 0, 1) := by decide +kernel
theorem dX4_mix_1 : decode cX4_mix 1 = .ok (.ldc2_w 239, 3) := by decide +kernel
theorem dX4_mix_4 : decode cX4_mix 4 = .ok (.aload_n 0, 1) := by decide +kernel
theorem dX4_mix_5 : decode cX4_mix 5 = .ok (.getfield 241, 3) := by decide +kernel
theorem dX4_mix_8 : decode cX4_mix 8 = .ok (.lmul, 1) := by decide +kernel
theorem dX4_mix_9 : decode cX4_mix 9 = .ok (.lload_n 1, 1) := by decide +kernel
theorem dX4_mix_10 : decode cX4_mix 10 = .ok (.ladd, 1) := by decide +kernel
theorem dX4_mix_11 : decode cX4_mix 11 = .ok (.putfield 241, 3) := by decide +kernel
theorem dX4_mix_14 : decode cX4_mix 14 = .ok (.return_, 1) := by decide +kernel
theorem dX4_mixScreen_0 : decode cX4_mixScreen 0 = .ok (.iconst 0, 1) := by decide +kernel
theorem dX4_mixScreen_1 : decode cX4_mixScreen 1 = .ok (.istore_n 1, 1) := by decide +kernel
theorem dX4_mixScreen_2 : decode cX4_mixScreen 2 = .ok (.iload_n 1, 1) := by decide +kernel
theorem dX4_mixScreen_3 : decode cX4_mixScreen 3 = .ok (.aload_n 0, 1) := by decide +kernel
theorem dX4_mixScreen_4 : decode cX4_mixScreen 4 = .ok (.getfield 7, 3) := by decide +kernel
theorem dX4_mixScreen_7 : decode cX4_mixScreen 7 = .ok (.iconst 0, 1) := by decide +kernel
theorem dX4_mixScreen_8 : decode cX4_mixScreen 8 = .ok (.iaload, 1) := by decide +kernel
theorem dX4_mixScreen_9 : decode cX4_mixScreen 9 = .ok (.if_icmp .ge 34, 3) := by decide +kernel
theorem dX4_mixScreen_12 : decode cX4_mixScreen 12 = .ok (.iconst 0, 1) := by decide +kernel
theorem dX4_mixScreen_13 : decode cX4_mixScreen 13 = .ok (.istore_n 2, 1) := by decide +kernel
theorem dX4_mixScreen_14 : decode cX4_mixScreen 14 = .ok (.iload_n 2, 1) := by decide +kernel
theorem dX4_mixScreen_15 : decode cX4_mixScreen 15 = .ok (.bipush 12, 2) := by decide +kernel
theorem dX4_mixScreen_17 : decode cX4_mixScreen 17 = .ok (.if_icmp .ge 20, 3) := by decide +kernel
theorem dX4_mixScreen_20 : decode cX4_mixScreen 20 = .ok (.aload_n 0, 1) := by decide +kernel
theorem dX4_mixScreen_21 : decode cX4_mixScreen 21 = .ok (.aload_n 0, 1) := by decide +kernel
theorem dX4_mixScreen_22 : decode cX4_mixScreen 22 = .ok (.iload_n 1, 1) := by decide +kernel
theorem dX4_mixScreen_23 : decode cX4_mixScreen 23 = .ok (.iload_n 2, 1) := by decide +kernel
theorem dX4_mixScreen_24 : decode cX4_mixScreen 24 = .ok (.invokevirtual 188, 3) := by decide +kernel
theorem dX4_mixScreen_27 : decode cX4_mixScreen 27 = .ok (.i2l, 1) := by decide +kernel
theorem dX4_mixScreen_28 : decode cX4_mixScreen 28 = .ok (.invokevirtual 245, 3) := by decide +kernel
theorem dX4_mixScreen_31 : decode cX4_mixScreen 31 = .ok (.iinc 2 1, 3) := by decide +kernel
theorem dX4_mixScreen_34 : decode cX4_mixScreen 34 = .ok (.goto (-20), 3) := by decide +kernel
theorem dX4_mixScreen_37 : decode cX4_mixScreen 37 = .ok (.iinc 1 1, 3) := by decide +kernel
theorem dX4_mixScreen_40 : decode cX4_mixScreen 40 = .ok (.goto (-38), 3) := by decide +kernel
theorem dX4_mixScreen_43 : decode cX4_mixScreen 43 = .ok (.iconst 0, 1) := by decide +kernel
theorem dX4_mixScreen_44 : decode cX4_mixScreen 44 = .ok (.istore_n 1, 1) := by decide +kernel
theorem dX4_mixScreen_45 : decode cX4_mixScreen 45 = .ok (.iload_n 1, 1) := by decide +kernel
theorem dX4_mixScreen_46 : decode cX4_mixScreen 46 = .ok (.sipush 384, 3) := by decide +kernel
theorem dX4_mixScreen_49 : decode cX4_mixScreen 49 = .ok (.if_icmp .ge 26, 3) := by decide +kernel
theorem dX4_mixScreen_52 : decode cX4_mixScreen 52 = .ok (.aload_n 0, 1) := by decide +kernel
theorem dX4_mixScreen_53 : decode cX4_mixScreen 53 = .ok (.aload_n 0, 1) := by decide +kernel
theorem dX4_mixScreen_54 : decode cX4_mixScreen 54 = .ok (.iload_n 1, 1) := by decide +kernel
theorem dX4_mixScreen_55 : decode cX4_mixScreen 55 = .ok (.bipush 24, 2) := by decide +kernel
theorem dX4_mixScreen_57 : decode cX4_mixScreen 57 = .ok (.idiv, 1) := by decide +kernel
theorem dX4_mixScreen_58 : decode cX4_mixScreen 58 = .ok (.iload_n 1, 1) := by decide +kernel
theorem dX4_mixScreen_59 : decode cX4_mixScreen 59 = .ok (.bipush 24, 2) := by decide +kernel
theorem dX4_mixScreen_61 : decode cX4_mixScreen 61 = .ok (.irem, 1) := by decide +kernel
theorem dX4_mixScreen_62 : decode cX4_mixScreen 62 = .ok (.invokevirtual 192, 3) := by decide +kernel
theorem dX4_mixScreen_65 : decode cX4_mixScreen 65 = .ok (.i2l, 1) := by decide +kernel
theorem dX4_mixScreen_66 : decode cX4_mixScreen 66 = .ok (.invokevirtual 245, 3) := by decide +kernel
theorem dX4_mixScreen_69 : decode cX4_mixScreen 69 = .ok (.iinc 1 1, 3) := by decide +kernel
theorem dX4_mixScreen_72 : decode cX4_mixScreen 72 = .ok (.goto (-27), 3) := by decide +kernel
theorem dX4_mixScreen_75 : decode cX4_mixScreen 75 = .ok (.iconst 0, 1) := by decide +kernel
theorem dX4_mixScreen_76 : decode cX4_mixScreen 76 = .ok (.istore_n 1, 1) := by decide +kernel
theorem dX4_mixScreen_77 : decode cX4_mixScreen 77 = .ok (.iload_n 1, 1) := by decide +kernel
theorem dX4_mixScreen_78 : decode cX4_mixScreen 78 = .ok (.bipush 10, 2) := by decide +kernel
theorem dX4_mixScreen_80 : decode cX4_mixScreen 80 = .ok (.if_icmp .ge 19, 3) := by decide +kernel
theorem dX4_mixScreen_83 : decode cX4_mixScreen 83 = .ok (.aload_n 0, 1) := by decide +kernel
theorem dX4_mixScreen_84 : decode cX4_mixScreen 84 = .ok (.aload_n 0, 1) := by decide +kernel
theorem dX4_mixScreen_85 : decode cX4_mixScreen 85 = .ok (.iload_n 1, 1) := by decide +kernel
theorem dX4_mixScreen_86 : decode cX4_mixScreen 86 = .ok (.invokevirtual 195, 3) := by decide +kernel
theorem dX4_mixScreen_89 : decode cX4_mixScreen 89 = .ok (.i2l, 1) := by decide +kernel
theorem dX4_mixScreen_90 : decode cX4_mixScreen 90 = .ok (.invokevirtual 245, 3) := by decide +kernel
theorem dX4_mixScreen_93 : decode cX4_mixScreen 93 = .ok (.iinc 1 1, 3) := by decide +kernel
theorem dX4_mixScreen_96 : decode cX4_mixScreen 96 = .ok (.goto (-19), 3) := by decide +kernel
theorem dX4_mixScreen_99 : decode cX4_mixScreen 99 = .ok (.return_, 1) := by decide +kernel
theorem dX4_digest_0 : decode cX4_digest 0 = .ok (.aload_n 0, 1) := by decide +kernel
theorem dX4_digest_1 : decode cX4_digest 1 = .ok (.iconst 0, 1) := by decide +kernel
theorem dX4_digest_2 : decode cX4_digest 2 = .ok (.putfield 28, 3) := by decide +kernel
theorem dX4_digest_5 : decode cX4_digest 5 = .ok (.aload_n 0, 1) := by decide +kernel
theorem dX4_digest_6 : decode cX4_digest 6 = .ok (.ldc2_w 249, 3) := by decide +kernel
theorem dX4_digest_9 : decode cX4_digest 9 = .ok (.putfield 241, 3) := by decide +kernel
theorem dX4_digest_12 : decode cX4_digest 12 = .ok (.iconst 0, 1) := by decide +kernel
theorem dX4_digest_13 : decode cX4_digest 13 = .ok (.istore_n 1, 1) := by decide +kernel
theorem dX4_digest_14 : decode cX4_digest 14 = .ok (.iload_n 1, 1) := by decide +kernel
theorem dX4_digest_15 : decode cX4_digest 15 = .ok (.bipush 12, 2) := by decide +kernel
theorem dX4_digest_17 : decode cX4_digest 17 = .ok (.if_icmp .ge 19, 3) := by decide +kernel
theorem dX4_digest_20 : decode cX4_digest 20 = .ok (.aload_n 0, 1) := by decide +kernel
theorem dX4_digest_21 : decode cX4_digest 21 = .ok (.aload_n 0, 1) := by decide +kernel
theorem dX4_digest_22 : decode cX4_digest 22 = .ok (.iload_n 1, 1) := by decide +kernel
theorem dX4_digest_23 : decode cX4_digest 23 = .ok (.invokevirtual 214, 3) := by decide +kernel
theorem dX4_digest_26 : decode cX4_digest 26 = .ok (.i2l, 1) := by decide +kernel
theorem dX4_digest_27 : decode cX4_digest 27 = .ok (.invokevirtual 245, 3) := by decide +kernel
theorem dX4_digest_30 : decode cX4_digest 30 = .ok (.iinc 1 1, 3) := by decide +kernel
theorem dX4_digest_33 : decode cX4_digest 33 = .ok (.goto (-19), 3) := by decide +kernel
theorem dX4_digest_36 : decode cX4_digest 36 = .ok (.aload_n 0, 1) := by decide +kernel
theorem dX4_digest_37 : decode cX4_digest 37 = .ok (.aload_n 0, 1) := by decide +kernel
theorem dX4_digest_38 : decode cX4_digest 38 = .ok (.getfield 7, 3) := by decide +kernel
theorem dX4_digest_41 : decode cX4_digest 41 = .ok (.iconst 2, 1) := by decide +kernel
theorem dX4_digest_42 : decode cX4_digest 42 = .ok (.iaload, 1) := by decide +kernel
theorem dX4_digest_43 : decode cX4_digest 43 = .ok (.i2l, 1) := by decide +kernel
theorem dX4_digest_44 : decode cX4_digest 44 = .ok (.invokevirtual 245, 3) := by decide +kernel
theorem dX4_digest_47 : decode cX4_digest 47 = .ok (.aload_n 0, 1) := by decide +kernel
theorem dX4_digest_48 : decode cX4_digest 48 = .ok (.invokevirtual 251, 3) := by decide +kernel
theorem dX4_digest_51 : decode cX4_digest 51 = .ok (.aload_n 0, 1) := by decide +kernel
theorem dX4_digest_52 : decode cX4_digest 52 = .ok (.aload_n 0, 1) := by decide +kernel
theorem dX4_digest_53 : decode cX4_digest 53 = .ok (.invokevirtual 220, 3) := by decide +kernel
theorem dX4_digest_56 : decode cX4_digest 56 = .ok (.i2l, 1) := by decide +kernel
theorem dX4_digest_57 : decode cX4_digest 57 = .ok (.invokevirtual 245, 3) := by decide +kernel
theorem dX4_digest_60 : decode cX4_digest 60 = .ok (.iconst 0, 1) := by decide +kernel
theorem dX4_digest_61 : decode cX4_digest 61 = .ok (.istore_n 1, 1) := by decide +kernel
theorem dX4_digest_62 : decode cX4_digest 62 = .ok (.iload_n 1, 1) := by decide +kernel
theorem dX4_digest_63 : decode cX4_digest 63 = .ok (.iconst 3, 1) := by decide +kernel
theorem dX4_digest_64 : decode cX4_digest 64 = .ok (.if_icmp .ge 22, 3) := by decide +kernel
theorem dX4_digest_67 : decode cX4_digest 67 = .ok (.aload_n 0, 1) := by decide +kernel
theorem dX4_digest_68 : decode cX4_digest 68 = .ok (.aload_n 0, 1) := by decide +kernel
theorem dX4_digest_69 : decode cX4_digest 69 = .ok (.iconst 5, 1) := by decide +kernel
theorem dX4_digest_70 : decode cX4_digest 70 = .ok (.iconst 3, 1) := by decide +kernel
theorem dX4_digest_71 : decode cX4_digest 71 = .ok (.iconst 4, 1) := by decide +kernel
theorem dX4_digest_72 : decode cX4_digest 72 = .ok (.iload_n 1, 1) := by decide +kernel
theorem dX4_digest_73 : decode cX4_digest 73 = .ok (.invokevirtual 223, 3) := by decide +kernel
theorem dX4_digest_76 : decode cX4_digest 76 = .ok (.i2l, 1) := by decide +kernel
theorem dX4_digest_77 : decode cX4_digest 77 = .ok (.invokevirtual 245, 3) := by decide +kernel
theorem dX4_digest_80 : decode cX4_digest 80 = .ok (.iinc 1 1, 3) := by decide +kernel
theorem dX4_digest_83 : decode cX4_digest 83 = .ok (.goto (-21), 3) := by decide +kernel
theorem dX4_digest_86 : decode cX4_digest 86 = .ok (.aload_n 0, 1) := by decide +kernel
theorem dX4_digest_87 : decode cX4_digest 87 = .ok (.aload_n 0, 1) := by decide +kernel
theorem dX4_digest_88 : decode cX4_digest 88 = .ok (.bipush 6, 2) := by decide +kernel
theorem dX4_digest_90 : decode cX4_digest 90 = .ok (.iconst 2, 1) := by decide +kernel
theorem dX4_digest_91 : decode cX4_digest 91 = .ok (.invokevirtual 227, 3) := by decide +kernel
theorem dX4_digest_94 : decode cX4_digest 94 = .ok (.i2l, 1) := by decide +kernel
theorem dX4_digest_95 : decode cX4_digest 95 = .ok (.invokevirtual 245, 3) := by decide +kernel
theorem dX4_digest_98 : decode cX4_digest 98 = .ok (.iconst 0, 1) := by decide +kernel
theorem dX4_digest_99 : decode cX4_digest 99 = .ok (.istore_n 1, 1) := by decide +kernel
theorem dX4_digest_100 : decode cX4_digest 100 = .ok (.iload_n 1, 1) := by decide +kernel
theorem dX4_digest_101 : decode cX4_digest 101 = .ok (.iconst 4, 1) := by decide +kernel
theorem dX4_digest_102 : decode cX4_digest 102 = .ok (.if_icmp .ge 19, 3) := by decide +kernel
theorem dX4_digest_105 : decode cX4_digest 105 = .ok (.aload_n 0, 1) := by decide +kernel
theorem dX4_digest_106 : decode cX4_digest 106 = .ok (.aload_n 0, 1) := by decide +kernel
theorem dX4_digest_107 : decode cX4_digest 107 = .ok (.iload_n 1, 1) := by decide +kernel
theorem dX4_digest_108 : decode cX4_digest 108 = .ok (.invokevirtual 230, 3) := by decide +kernel
theorem dX4_digest_111 : decode cX4_digest 111 = .ok (.i2l, 1) := by decide +kernel
theorem dX4_digest_112 : decode cX4_digest 112 = .ok (.invokevirtual 245, 3) := by decide +kernel
theorem dX4_digest_115 : decode cX4_digest 115 = .ok (.iinc 1 1, 3) := by decide +kernel
theorem dX4_digest_118 : decode cX4_digest 118 = .ok (.goto (-18), 3) := by decide +kernel
theorem dX4_digest_121 : decode cX4_digest 121 = .ok (.aload_n 0, 1) := by decide +kernel
theorem dX4_digest_122 : decode cX4_digest 122 = .ok (.aload_n 0, 1) := by decide +kernel
theorem dX4_digest_123 : decode cX4_digest 123 = .ok (.invokevirtual 235, 3) := by decide +kernel
theorem dX4_digest_126 : decode cX4_digest 126 = .ok (.invokestatic 254, 3) := by decide +kernel
theorem dX4_digest_129 : decode cX4_digest 129 = .ok (.invokevirtual 245, 3) := by decide +kernel
theorem dX4_digest_132 : decode cX4_digest 132 = .ok (.aload_n 0, 1) := by decide +kernel
theorem dX4_digest_133 : decode cX4_digest 133 = .ok (.aload_n 0, 1) := by decide +kernel
theorem dX4_digest_134 : decode cX4_digest 134 = .ok (.getfield 147, 3) := by decide +kernel
theorem dX4_digest_137 : decode cX4_digest 137 = .ok (.i2l, 1) := by decide +kernel
theorem dX4_digest_138 : decode cX4_digest 138 = .ok (.invokevirtual 245, 3) := by decide +kernel
theorem dX4_digest_141 : decode cX4_digest 141 = .ok (.iconst 0, 1) := by decide +kernel
theorem dX4_digest_142 : decode cX4_digest 142 = .ok (.istore_n 1, 1) := by decide +kernel
theorem dX4_digest_143 : decode cX4_digest 143 = .ok (.iload_n 1, 1) := by decide +kernel
theorem dX4_digest_144 : decode cX4_digest 144 = .ok (.aload_n 0, 1) := by decide +kernel
theorem dX4_digest_145 : decode cX4_digest 145 = .ok (.getfield 147, 3) := by decide +kernel
theorem dX4_digest_148 : decode cX4_digest 148 = .ok (.if_icmp .ge 20, 3) := by decide +kernel
theorem dX4_digest_151 : decode cX4_digest 151 = .ok (.aload_n 0, 1) := by decide +kernel
theorem dX4_digest_152 : decode cX4_digest 152 = .ok (.aload_n 0, 1) := by decide +kernel
theorem dX4_digest_153 : decode cX4_digest 153 = .ok (.getfield 19, 3) := by decide +kernel
theorem dX4_digest_156 : decode cX4_digest 156 = .ok (.iload_n 1, 1) := by decide +kernel
theorem dX4_digest_157 : decode cX4_digest 157 = .ok (.iaload, 1) := by decide +kernel
theorem dX4_digest_158 : decode cX4_digest 158 = .ok (.i2l, 1) := by decide +kernel
theorem dX4_digest_159 : decode cX4_digest 159 = .ok (.invokevirtual 245, 3) := by decide +kernel
theorem dX4_digest_162 : decode cX4_digest 162 = .ok (.iinc 1 1, 3) := by decide +kernel
theorem dX4_digest_165 : decode cX4_digest 165 = .ok (.goto (-22), 3) := by decide +kernel
theorem dX4_digest_168 : decode cX4_digest 168 = .ok (.aload_n 0, 1) := by decide +kernel
theorem dX4_digest_169 : decode cX4_digest 169 = .ok (.getfield 241, 3) := by decide +kernel
theorem dX4_digest_172 : decode cX4_digest 172 = .ok (.lreturn, 1) := by decide +kernel
theorem dJxe99ae_isNaN_b9ae7_0 : decode cJxe99ae_isNaN_b9ae7 0 = .ok (.dload_n 0, 1) := by decide +kernel
theorem dJxe99ae_isNaN_b9ae7_1 : decode cJxe99ae_isNaN_b9ae7 1 = .ok (.dload_n 0, 1) := by decide +kernel
theorem dJxe99ae_isNaN_b9ae7_2 : decode cJxe99ae_isNaN_b9ae7 2 = .ok (.dcmp .l, 1) := by decide +kernel
theorem dJxe99ae_isNaN_b9ae7_3 : decode cJxe99ae_isNaN_b9ae7 3 = .ok (.ifCond .eq 7, 3) := by decide +kernel
theorem dJxe99ae_isNaN_b9ae7_6 : decode cJxe99ae_isNaN_b9ae7 6 = .ok (.iconst 1, 1) := by decide +kernel
theorem dJxe99ae_isNaN_b9ae7_7 : decode cJxe99ae_isNaN_b9ae7 7 = .ok (.goto 4, 3) := by decide +kernel
theorem dJxe99ae_isNaN_b9ae7_10 : decode cJxe99ae_isNaN_b9ae7 10 = .ok (.iconst 0, 1) := by decide +kernel
theorem dJxe99ae_isNaN_b9ae7_11 : decode cJxe99ae_isNaN_b9ae7 11 = .ok (.ireturn, 1) := by decide +kernel
theorem dJxe99ae_doubleToLongBits_ccdee_0 : decode cJxe99ae_doubleToLongBits_ccdee 0 = .ok (.dload_n 0, 1) := by decide +kernel
theorem dJxe99ae_doubleToLongBits_ccdee_1 : decode cJxe99ae_doubleToLongBits_ccdee 1 = .ok (.invokestatic 122, 3) := by decide +kernel
theorem dJxe99ae_doubleToLongBits_ccdee_4 : decode cJxe99ae_doubleToLongBits_ccdee 4 = .ok (.ifCond .ne 8, 3) := by decide +kernel
theorem dJxe99ae_doubleToLongBits_ccdee_7 : decode cJxe99ae_doubleToLongBits_ccdee 7 = .ok (.dload_n 0, 1) := by decide +kernel
theorem dJxe99ae_doubleToLongBits_ccdee_8 : decode cJxe99ae_doubleToLongBits_ccdee 8 = .ok (.invokestatic 134, 3) := by decide +kernel
theorem dJxe99ae_doubleToLongBits_ccdee_11 : decode cJxe99ae_doubleToLongBits_ccdee 11 = .ok (.lreturn, 1) := by decide +kernel
theorem dJxe99ae_doubleToLongBits_ccdee_12 : decode cJxe99ae_doubleToLongBits_ccdee 12 = .ok (.ldc2_w 137, 3) := by decide +kernel
theorem dJxe99ae_doubleToLongBits_ccdee_15 : decode cJxe99ae_doubleToLongBits_ccdee 15 = .ok (.lreturn, 1) := by decide +kernel
theorem dJ9_max_7cf53_0 : decode cJ9_max_7cf53 0 = .ok (.iload_n 0, 1) := by decide +kernel
theorem dJ9_max_7cf53_1 : decode cJ9_max_7cf53 1 = .ok (.iload_n 1, 1) := by decide +kernel
theorem dJ9_max_7cf53_2 : decode cJ9_max_7cf53 2 = .ok (.if_icmp .lt 7, 3) := by decide +kernel
theorem dJ9_max_7cf53_5 : decode cJ9_max_7cf53 5 = .ok (.iload_n 0, 1) := by decide +kernel
theorem dJ9_max_7cf53_6 : decode cJ9_max_7cf53 6 = .ok (.goto 4, 3) := by decide +kernel
theorem dJ9_max_7cf53_9 : decode cJ9_max_7cf53 9 = .ok (.iload_n 1, 1) := by decide +kernel
theorem dJ9_max_7cf53_10 : decode cJ9_max_7cf53 10 = .ok (.ireturn, 1) := by decide +kernel
theorem dL_line_0 : decode cL_line 0 = .ok (.aload 6, 2) := by decide +kernel
theorem dL_line_2 : decode cL_line 2 = .ok (.iconst 0, 1) := by decide +kernel
theorem dL_line_3 : decode cL_line 3 = .ok (.aload_n 0, 1) := by decide +kernel
theorem dL_line_4 : decode cL_line 4 = .ok (.iload_n 1, 1) := by decide +kernel
theorem dL_line_5 : decode cL_line 5 = .ok (.iload_n 2, 1) := by decide +kernel
theorem dL_line_6 : decode cL_line 6 = .ok (.iload_n 3, 1) := by decide +kernel
theorem dL_line_7 : decode cL_line 7 = .ok (.iload 4, 2) := by decide +kernel
theorem dL_line_9 : decode cL_line 9 = .ok (.iload 5, 2) := by decide +kernel
theorem dL_line_11 : decode cL_line 11 = .ok (.invokevirtual 7, 3) := by decide +kernel
theorem dL_line_14 : decode cL_line 14 = .ok (.i2l, 1) := by decide +kernel
theorem dL_line_15 : decode cL_line 15 = .ok (.lastore, 1) := by decide +kernel
theorem dL_line_16 : decode cL_line 16 = .ok (.goto 11, 3) := by decide +kernel
theorem dL_line_19 : decode cL_line 19 = .ok (.astore 7, 2) := by decide +kernel
theorem dL_line_21 : decode cL_line 21 = .ok (.iconst 1, 1) := by decide +kernel
theorem dL_line_22 : decode cL_line 22 = .ok (.ireturn, 1) := by decide +kernel
theorem dL_line_23 : decode cL_line 23 = .ok (.astore 7, 2) := by decide +kernel
theorem dL_line_25 : decode cL_line 25 = .ok (.iconst 2, 1) := by decide +kernel
theorem dL_line_26 : decode cL_line 26 = .ok (.ireturn, 1) := by decide +kernel
theorem dL_line_27 : decode cL_line 27 = .ok (.iconst 0, 1) := by decide +kernel
theorem dL_line_28 : decode cL_line 28 = .ok (.ireturn, 1) := by decide +kernel
theorem dL_run_0 : decode cL_run 0 = .ok (.aload_n 2, 1) := by decide +kernel
theorem dL_run_1 : decode cL_run 1 = .ok (.iconst 0, 1) := by decide +kernel
theorem dL_run_2 : decode cL_run 2 = .ok (.aload_n 0, 1) := by decide +kernel
theorem dL_run_3 : decode cL_run 3 = .ok (.iload_n 1, 1) := by decide +kernel
theorem dL_run_4 : decode cL_run 4 = .ok (.invokevirtual 17, 3) := by decide +kernel
theorem dL_run_7 : decode cL_run 7 = .ok (.i2l, 1) := by decide +kernel
theorem dL_run_8 : decode cL_run 8 = .ok (.lastore, 1) := by decide +kernel
theorem dL_run_9 : decode cL_run 9 = .ok (.goto 9, 3) := by decide +kernel
theorem dL_run_12 : decode cL_run 12 = .ok (.astore_n 3, 1) := by decide +kernel
theorem dL_run_13 : decode cL_run 13 = .ok (.iconst 1, 1) := by decide +kernel
theorem dL_run_14 : decode cL_run 14 = .ok (.ireturn, 1) := by decide +kernel
theorem dL_run_15 : decode cL_run 15 = .ok (.astore_n 3, 1) := by decide +kernel
theorem dL_run_16 : decode cL_run 16 = .ok (.iconst 2, 1) := by decide +kernel
theorem dL_run_17 : decode cL_run 17 = .ok (.ireturn, 1) := by decide +kernel
theorem dL_run_18 : decode cL_run 18 = .ok (.iconst 0, 1) := by decide +kernel
theorem dL_run_19 : decode cL_run 19 = .ok (.ireturn, 1) := by decide +kernel
theorem dL_reset_0 : decode cL_reset 0 = .ok (.aload_n 2, 1) := by decide +kernel
theorem dL_reset_1 : decode cL_reset 1 = .ok (.iconst 0, 1) := by decide +kernel
theorem dL_reset_2 : decode cL_reset 2 = .ok (.aload_n 0, 1) := by decide +kernel
theorem dL_reset_3 : decode cL_reset 3 = .ok (.iload_n 1, 1) := by decide +kernel
theorem dL_reset_4 : decode cL_reset 4 = .ok (.invokevirtual 21, 3) := by decide +kernel
theorem dL_reset_7 : decode cL_reset 7 = .ok (.i2l, 1) := by decide +kernel
theorem dL_reset_8 : decode cL_reset 8 = .ok (.lastore, 1) := by decide +kernel
theorem dL_reset_9 : decode cL_reset 9 = .ok (.goto 6, 3) := by decide +kernel
theorem dL_reset_12 : decode cL_reset 12 = .ok (.astore_n 3, 1) := by decide +kernel
theorem dL_reset_13 : decode cL_reset 13 = .ok (.iconst 1, 1) := by decide +kernel
theorem dL_reset_14 : decode cL_reset 14 = .ok (.ireturn, 1) := by decide +kernel
theorem dL_reset_15 : decode cL_reset 15 = .ok (.iconst 0, 1) := by decide +kernel
theorem dL_reset_16 : decode cL_reset 16 = .ok (.ireturn, 1) := by decide +kernel
theorem dL_push_0 : decode cL_push 0 = .ok (.aload_n 3, 1) := by decide +kernel
theorem dL_push_1 : decode cL_push 1 = .ok (.iconst 0, 1) := by decide +kernel
theorem dL_push_2 : decode cL_push 2 = .ok (.aload_n 0, 1) := by decide +kernel
theorem dL_push_3 : decode cL_push 3 = .ok (.iload_n 1, 1) := by decide +kernel
theorem dL_push_4 : decode cL_push 4 = .ok (.iload_n 2, 1) := by decide +kernel
theorem dL_push_5 : decode cL_push 5 = .ok (.invokevirtual 24, 3) := by decide +kernel
theorem dL_push_8 : decode cL_push 8 = .ok (.i2l, 1) := by decide +kernel
theorem dL_push_9 : decode cL_push 9 = .ok (.lastore, 1) := by decide +kernel
theorem dL_push_10 : decode cL_push 10 = .ok (.goto 11, 3) := by decide +kernel
theorem dL_push_13 : decode cL_push 13 = .ok (.astore 4, 2) := by decide +kernel
theorem dL_push_15 : decode cL_push 15 = .ok (.iconst 1, 1) := by decide +kernel
theorem dL_push_16 : decode cL_push 16 = .ok (.ireturn, 1) := by decide +kernel
theorem dL_push_17 : decode cL_push 17 = .ok (.astore 4, 2) := by decide +kernel
theorem dL_push_19 : decode cL_push 19 = .ok (.iconst 2, 1) := by decide +kernel
theorem dL_push_20 : decode cL_push 20 = .ok (.ireturn, 1) := by decide +kernel
theorem dL_push_21 : decode cL_push 21 = .ok (.iconst 0, 1) := by decide +kernel
theorem dL_push_22 : decode cL_push 22 = .ok (.ireturn, 1) := by decide +kernel
theorem dL_set_0 : decode cL_set 0 = .ok (.aload_n 2, 1) := by decide +kernel
theorem dL_set_1 : decode cL_set 1 = .ok (.iconst 0, 1) := by decide +kernel
theorem dL_set_2 : decode cL_set 2 = .ok (.aload_n 0, 1) := by decide +kernel
theorem dL_set_3 : decode cL_set 3 = .ok (.iload_n 1, 1) := by decide +kernel
theorem dL_set_4 : decode cL_set 4 = .ok (.invokevirtual 30, 3) := by decide +kernel
theorem dL_set_7 : decode cL_set 7 = .ok (.i2l, 1) := by decide +kernel
theorem dL_set_8 : decode cL_set 8 = .ok (.lastore, 1) := by decide +kernel
theorem dL_set_9 : decode cL_set 9 = .ok (.goto 6, 3) := by decide +kernel
theorem dL_set_12 : decode cL_set 12 = .ok (.astore_n 3, 1) := by decide +kernel
theorem dL_set_13 : decode cL_set 13 = .ok (.iconst 1, 1) := by decide +kernel
theorem dL_set_14 : decode cL_set 14 = .ok (.ireturn, 1) := by decide +kernel
theorem dL_set_15 : decode cL_set 15 = .ok (.iconst 0, 1) := by decide +kernel
theorem dL_set_16 : decode cL_set 16 = .ok (.ireturn, 1) := by decide +kernel
theorem dL_append_0 : decode cL_append 0 = .ok (.aload_n 2, 1) := by decide +kernel
theorem dL_append_1 : decode cL_append 1 = .ok (.iconst 0, 1) := by decide +kernel
theorem dL_append_2 : decode cL_append 2 = .ok (.aload_n 0, 1) := by decide +kernel
theorem dL_append_3 : decode cL_append 3 = .ok (.iload_n 1, 1) := by decide +kernel
theorem dL_append_4 : decode cL_append 4 = .ok (.invokevirtual 33, 3) := by decide +kernel
theorem dL_append_7 : decode cL_append 7 = .ok (.i2l, 1) := by decide +kernel
theorem dL_append_8 : decode cL_append 8 = .ok (.lastore, 1) := by decide +kernel
theorem dL_append_9 : decode cL_append 9 = .ok (.goto 9, 3) := by decide +kernel
theorem dL_append_12 : decode cL_append 12 = .ok (.astore_n 3, 1) := by decide +kernel
theorem dL_append_13 : decode cL_append 13 = .ok (.iconst 1, 1) := by decide +kernel
theorem dL_append_14 : decode cL_append 14 = .ok (.ireturn, 1) := by decide +kernel
theorem dL_append_15 : decode cL_append 15 = .ok (.astore_n 3, 1) := by decide +kernel
theorem dL_append_16 : decode cL_append 16 = .ok (.iconst 2, 1) := by decide +kernel
theorem dL_append_17 : decode cL_append 17 = .ok (.ireturn, 1) := by decide +kernel
theorem dL_append_18 : decode cL_append 18 = .ok (.iconst 0, 1) := by decide +kernel
theorem dL_append_19 : decode cL_append 19 = .ok (.ireturn, 1) := by decide +kernel
theorem dL_read_0 : decode cL_read 0 = .ok (.aload_n 1, 1) := by decide +kernel
theorem dL_read_1 : decode cL_read 1 = .ok (.iconst 0, 1) := by decide +kernel
theorem dL_read_2 : decode cL_read 2 = .ok (.aload_n 0, 1) := by decide +kernel
theorem dL_read_3 : decode cL_read 3 = .ok (.invokevirtual 36, 3) := by decide +kernel
theorem dL_read_6 : decode cL_read 6 = .ok (.i2l, 1) := by decide +kernel
theorem dL_read_7 : decode cL_read 7 = .ok (.lastore, 1) := by decide +kernel
theorem dL_read_8 : decode cL_read 8 = .ok (.goto 6, 3) := by decide +kernel
theorem dL_read_11 : decode cL_read 11 = .ok (.astore_n 2, 1) := by decide +kernel
theorem dL_read_12 : decode cL_read 12 = .ok (.iconst 1, 1) := by decide +kernel
theorem dL_read_13 : decode cL_read 13 = .ok (.ireturn, 1) := by decide +kernel
theorem dL_read_14 : decode cL_read 14 = .ok (.iconst 0, 1) := by decide +kernel
theorem dL_read_15 : decode cL_read 15 = .ok (.ireturn, 1) := by decide +kernel
theorem dL_undo_0 : decode cL_undo 0 = .ok (.aload_n 1, 1) := by decide +kernel
theorem dL_undo_1 : decode cL_undo 1 = .ok (.iconst 0, 1) := by decide +kernel
theorem dL_undo_2 : decode cL_undo 2 = .ok (.aload_n 0, 1) := by decide +kernel
theorem dL_undo_3 : decode cL_undo 3 = .ok (.invokevirtual 40, 3) := by decide +kernel
theorem dL_undo_6 : decode cL_undo 6 = .ok (.i2l, 1) := by decide +kernel
theorem dL_undo_7 : decode cL_undo 7 = .ok (.lastore, 1) := by decide +kernel
theorem dL_undo_8 : decode cL_undo 8 = .ok (.goto 6, 3) := by decide +kernel
theorem dL_undo_11 : decode cL_undo 11 = .ok (.astore_n 2, 1) := by decide +kernel
theorem dL_undo_12 : decode cL_undo 12 = .ok (.iconst 1, 1) := by decide +kernel
theorem dL_undo_13 : decode cL_undo 13 = .ok (.ireturn, 1) := by decide +kernel
theorem dL_undo_14 : decode cL_undo 14 = .ok (.iconst 0, 1) := by decide +kernel
theorem dL_undo_15 : decode cL_undo 15 = .ok (.ireturn, 1) := by decide +kernel
theorem dL_lineOf_0 : decode cL_lineOf 0 = .ok (.aload_n 3, 1) := by decide +kernel
theorem dL_lineOf_1 : decode cL_lineOf 1 = .ok (.iconst 0, 1) := by decide +kernel
theorem dL_lineOf_2 : decode cL_lineOf 2 = .ok (.aload_n 0, 1) := by decide +kernel
theorem dL_lineOf_3 : decode cL_lineOf 3 = .ok (.iload_n 1, 1) := by decide +kernel
theorem dL_lineOf_4 : decode cL_lineOf 4 = .ok (.iload_n 2, 1) := by decide +kernel
theorem dL_lineOf_5 : decode cL_lineOf 5 = .ok (.invokevirtual 43, 3) := by decide +kernel
theorem dL_lineOf_8 : decode cL_lineOf 8 = .ok (.i2l, 1) := by decide +kernel
theorem dL_lineOf_9 : decode cL_lineOf 9 = .ok (.lastore, 1) := by decide +kernel
theorem dL_lineOf_10 : decode cL_lineOf 10 = .ok (.goto 11, 3) := by decide +kernel
theorem dL_lineOf_13 : decode cL_lineOf 13 = .ok (.astore 4, 2) := by decide +kernel
theorem dL_lineOf_15 : decode cL_lineOf 15 = .ok (.iconst 1, 1) := by decide +kernel
theorem dL_lineOf_16 : decode cL_lineOf 16 = .ok (.ireturn, 1) := by decide +kernel
theorem dL_lineOf_17 : decode cL_lineOf 17 = .ok (.astore 4, 2) := by decide +kernel
theorem dL_lineOf_19 : decode cL_lineOf 19 = .ok (.iconst 2, 1) := by decide +kernel
theorem dL_lineOf_20 : decode cL_lineOf 20 = .ok (.ireturn, 1) := by decide +kernel
theorem dL_lineOf_21 : decode cL_lineOf 21 = .ok (.iconst 0, 1) := by decide +kernel
theorem dL_lineOf_22 : decode cL_lineOf 22 = .ok (.ireturn, 1) := by decide +kernel
theorem dL_at_0 : decode cL_at 0 = .ok (.aload_n 3, 1) := by decide +kernel
theorem dL_at_1 : decode cL_at 1 = .ok (.iconst 0, 1) := by decide +kernel
theorem dL_at_2 : decode cL_at 2 = .ok (.aload_n 0, 1) := by decide +kernel
theorem dL_at_3 : decode cL_at 3 = .ok (.iload_n 1, 1) := by decide +kernel
theorem dL_at_4 : decode cL_at 4 = .ok (.iload_n 2, 1) := by decide +kernel
theorem dL_at_5 : decode cL_at 5 = .ok (.invokevirtual 47, 3) := by decide +kernel
theorem dL_at_8 : decode cL_at 8 = .ok (.i2l, 1) := by decide +kernel
theorem dL_at_9 : decode cL_at 9 = .ok (.lastore, 1) := by decide +kernel
theorem dL_at_10 : decode cL_at 10 = .ok (.goto 7, 3) := by decide +kernel
theorem dL_at_13 : decode cL_at 13 = .ok (.astore 4, 2) := by decide +kernel
theorem dL_at_15 : decode cL_at 15 = .ok (.iconst 1, 1) := by decide +kernel
theorem dL_at_16 : decode cL_at 16 = .ok (.ireturn, 1) := by decide +kernel
theorem dL_at_17 : decode cL_at 17 = .ok (.iconst 0, 1) := by decide +kernel
theorem dL_at_18 : decode cL_at 18 = .ok (.ireturn, 1) := by decide +kernel
theorem dL_reads_0 : decode cL_reads 0 = .ok (.aload_n 2, 1) := by decide +kernel
theorem dL_reads_1 : decode cL_reads 1 = .ok (.iconst 0, 1) := by decide +kernel
theorem dL_reads_2 : decode cL_reads 2 = .ok (.aload_n 0, 1) := by decide +kernel
theorem dL_reads_3 : decode cL_reads 3 = .ok (.iload_n 1, 1) := by decide +kernel
theorem dL_reads_4 : decode cL_reads 4 = .ok (.invokevirtual 50, 3) := by decide +kernel
theorem dL_reads_7 : decode cL_reads 7 = .ok (.i2l, 1) := by decide +kernel
theorem dL_reads_8 : decode cL_reads 8 = .ok (.lastore, 1) := by decide +kernel
theorem dL_reads_9 : decode cL_reads 9 = .ok (.goto 6, 3) := by decide +kernel
theorem dL_reads_12 : decode cL_reads 12 = .ok (.astore_n 3, 1) := by decide +kernel
theorem dL_reads_13 : decode cL_reads 13 = .ok (.iconst 1, 1) := by decide +kernel
theorem dL_reads_14 : decode cL_reads 14 = .ok (.ireturn, 1) := by decide +kernel
theorem dL_reads_15 : decode cL_reads 15 = .ok (.iconst 0, 1) := by decide +kernel
theorem dL_reads_16 : decode cL_reads 16 = .ok (.ireturn, 1) := by decide +kernel
theorem dL_count_0 : decode cL_count 0 = .ok (.aload_n 2, 1) := by decide +kernel
theorem dL_count_1 : decode cL_count 1 = .ok (.iconst 0, 1) := by decide +kernel
theorem dL_count_2 : decode cL_count 2 = .ok (.aload_n 0, 1) := by decide +kernel
theorem dL_count_3 : decode cL_count 3 = .ok (.iload_n 1, 1) := by decide +kernel
theorem dL_count_4 : decode cL_count 4 = .ok (.invokevirtual 53, 3) := by decide +kernel
theorem dL_count_7 : decode cL_count 7 = .ok (.i2l, 1) := by decide +kernel
theorem dL_count_8 : decode cL_count 8 = .ok (.lastore, 1) := by decide +kernel
theorem dL_count_9 : decode cL_count 9 = .ok (.goto 6, 3) := by decide +kernel
theorem dL_count_12 : decode cL_count 12 = .ok (.astore_n 3, 1) := by decide +kernel
theorem dL_count_13 : decode cL_count 13 = .ok (.iconst 1, 1) := by decide +kernel
theorem dL_count_14 : decode cL_count 14 = .ok (.ireturn, 1) := by decide +kernel
theorem dL_count_15 : decode cL_count 15 = .ok (.iconst 0, 1) := by decide +kernel
theorem dL_count_16 : decode cL_count 16 = .ok (.ireturn, 1) := by decide +kernel
theorem dL_ifDropped_0 : decode cL_ifDropped 0 = .ok (.aload 5, 2) := by decide +kernel
theorem dL_ifDropped_2 : decode cL_ifDropped 2 = .ok (.iconst 0, 1) := by decide +kernel
theorem dL_ifDropped_3 : decode cL_ifDropped 3 = .ok (.aload_n 0, 1) := by decide +kernel
theorem dL_ifDropped_4 : decode cL_ifDropped 4 = .ok (.iload_n 1, 1) := by decide +kernel
theorem dL_ifDropped_5 : decode cL_ifDropped 5 = .ok (.iload_n 2, 1) := by decide +kernel
theorem dL_ifDropped_6 : decode cL_ifDropped 6 = .ok (.iload_n 3, 1) := by decide +kernel
theorem dL_ifDropped_7 : decode cL_ifDropped 7 = .ok (.iload 4, 2) := by decide +kernel
theorem dL_ifDropped_9 : decode cL_ifDropped 9 = .ok (.invokevirtual 56, 3) := by decide +kernel
theorem dL_ifDropped_12 : decode cL_ifDropped 12 = .ok (.i2l, 1) := by decide +kernel
theorem dL_ifDropped_13 : decode cL_ifDropped 13 = .ok (.lastore, 1) := by decide +kernel
theorem dL_ifDropped_14 : decode cL_ifDropped 14 = .ok (.goto 7, 3) := by decide +kernel
theorem dL_ifDropped_17 : decode cL_ifDropped 17 = .ok (.astore 6, 2) := by decide +kernel
theorem dL_ifDropped_19 : decode cL_ifDropped 19 = .ok (.iconst 1, 1) := by decide +kernel
theorem dL_ifDropped_20 : decode cL_ifDropped 20 = .ok (.ireturn, 1) := by decide +kernel
theorem dL_ifDropped_21 : decode cL_ifDropped 21 = .ok (.iconst 0, 1) := by decide +kernel
theorem dL_ifDropped_22 : decode cL_ifDropped 22 = .ok (.ireturn, 1) := by decide +kernel
theorem dL_bestColumn_0 : decode cL_bestColumn 0 = .ok (.aload_n 3, 1) := by decide +kernel
theorem dL_bestColumn_1 : decode cL_bestColumn 1 = .ok (.iconst 0, 1) := by decide +kernel
theorem dL_bestColumn_2 : decode cL_bestColumn 2 = .ok (.aload_n 0, 1) := by decide +kernel
theorem dL_bestColumn_3 : decode cL_bestColumn 3 = .ok (.iload_n 1, 1) := by decide +kernel
theorem dL_bestColumn_4 : decode cL_bestColumn 4 = .ok (.iload_n 2, 1) := by decide +kernel
theorem dL_bestColumn_5 : decode cL_bestColumn 5 = .ok (.invokevirtual 60, 3) := by decide +kernel
theorem dL_bestColumn_8 : decode cL_bestColumn 8 = .ok (.i2l, 1) := by decide +kernel
theorem dL_bestColumn_9 : decode cL_bestColumn 9 = .ok (.lastore, 1) := by decide +kernel
theorem dL_bestColumn_10 : decode cL_bestColumn 10 = .ok (.goto 7, 3) := by decide +kernel
theorem dL_bestColumn_13 : decode cL_bestColumn 13 = .ok (.astore 4, 2) := by decide +kernel
theorem dL_bestColumn_15 : decode cL_bestColumn 15 = .ok (.iconst 1, 1) := by decide +kernel
theorem dL_bestColumn_16 : decode cL_bestColumn 16 = .ok (.ireturn, 1) := by decide +kernel
theorem dL_bestColumn_17 : decode cL_bestColumn 17 = .ok (.iconst 0, 1) := by decide +kernel
theorem dL_bestColumn_18 : decode cL_bestColumn 18 = .ok (.ireturn, 1) := by decide +kernel
theorem dL_ifReset_0 : decode cL_ifReset 0 = .ok (.aload_n 2, 1) := by decide +kernel
theorem dL_ifReset_1 : decode cL_ifReset 1 = .ok (.iconst 0, 1) := by decide +kernel
theorem dL_ifReset_2 : decode cL_ifReset 2 = .ok (.aload_n 0, 1) := by decide +kernel
theorem dL_ifReset_3 : decode cL_ifReset 3 = .ok (.iload_n 1, 1) := by decide +kernel
theorem dL_ifReset_4 : decode cL_ifReset 4 = .ok (.invokevirtual 63, 3) := by decide +kernel
theorem dL_ifReset_7 : decode cL_ifReset 7 = .ok (.i2l, 1) := by decide +kernel
theorem dL_ifReset_8 : decode cL_ifReset 8 = .ok (.lastore, 1) := by decide +kernel
theorem dL_ifReset_9 : decode cL_ifReset 9 = .ok (.goto 6, 3) := by decide +kernel
theorem dL_ifReset_12 : decode cL_ifReset 12 = .ok (.astore_n 3, 1) := by decide +kernel
theorem dL_ifReset_13 : decode cL_ifReset 13 = .ok (.iconst 1, 1) := by decide +kernel
theorem dL_ifReset_14 : decode cL_ifReset 14 = .ok (.ireturn, 1) := by decide +kernel
theorem dL_ifReset_15 : decode cL_ifReset 15 = .ok (.iconst 0, 1) := by decide +kernel
theorem dL_ifReset_16 : decode cL_ifReset 16 = .ok (.ireturn, 1) := by decide +kernel
theorem dL_law_0 : decode cL_law 0 = .ok (.new 8, 3) := by decide +kernel
theorem dL_law_3 : decode cL_law 3 = .ok (.dup, 1) := by decide +kernel
theorem dL_law_4 : decode cL_law 4 = .ok (.invokespecial 66, 3) := by decide +kernel
theorem dL_law_7 : decode cL_law 7 = .ok (.astore_n 1, 1) := by decide +kernel
theorem dL_law_8 : decode cL_law 8 = .ok (.new 67, 3) := by decide +kernel
theorem dL_law_11 : decode cL_law 11 = .ok (.dup, 1) := by decide +kernel
theorem dL_law_12 : decode cL_law 12 = .ok (.invokespecial 69, 3) := by decide +kernel
theorem dL_law_15 : decode cL_law 15 = .ok (.astore_n 2, 1) := by decide +kernel
theorem dL_law_16 : decode cL_law 16 = .ok (.iconst 1, 1) := by decide +kernel
theorem dL_law_17 : decode cL_law 17 = .ok (.newarray .long, 2) := by decide +kernel
theorem dL_law_19 : decode cL_law 19 = .ok (.astore_n 3, 1) := by decide +kernel
theorem dL_law_20 : decode cL_law 20 = .ok (.iconst 0, 1) := by decide +kernel
theorem dL_law_21 : decode cL_law 21 = .ok (.istore 4, 2) := by decide +kernel
theorem dL_law_23 : decode cL_law 23 = .ok (.iload 4, 2) := by decide +kernel
theorem dL_law_25 : decode cL_law 25 = .ok (.aload_n 0, 1) := by decide +kernel
theorem dL_law_26 : decode cL_law 26 = .ok (.arraylength, 1) := by decide +kernel
theorem dL_law_27 : decode cL_law 27 = .ok (.bipush 6, 2) := by decide +kernel
theorem dL_law_29 : decode cL_law 29 = .ok (.isub, 1) := by decide +kernel
theorem dL_law_30 : decode cL_law 30 = .ok (.if_icmp .gt 1170, 3) := by decide +kernel
theorem dL_law_33 : decode cL_law 33 = .ok (.aload_n 0, 1) := by decide +kernel
theorem dL_law_34 : decode cL_law 34 = .ok (.iload 4, 2) := by decide +kernel
theorem dL_law_36 : decode cL_law 36 = .ok (.iaload, 1) := by decide +kernel
theorem dL_law_37 : decode cL_law 37 = .ok (.bipush 31, 2) := by decide +kernel
theorem dL_law_39 : decode cL_law 39 = .ok (.iand, 1) := by decide +kernel
theorem dL_law_40 : decode cL_law 40 = .ok (.tableswitch 1154 0 19 #[96, 200, 256, 312, 396, 452, 508, 521, 534, 578, 622, 690, 758, 814, 870, 883, 975, 1043, 1099, 1140], 96) := by decide +kernel
theorem dL_law_136 : decode cL_law 136 = .ok (.aload_n 1, 1) := by decide +kernel
theorem dL_law_137 : decode cL_law 137 = .ok (.aload_n 0, 1) := by decide +kernel
theorem dL_law_138 : decode cL_law 138 = .ok (.iload 4, 2) := by decide +kernel
theorem dL_law_140 : decode cL_law 140 = .ok (.iconst 1, 1) := by decide +kernel
theorem dL_law_141 : decode cL_law 141 = .ok (.iadd, 1) := by decide +kernel
theorem dL_law_142 : decode cL_law 142 = .ok (.iaload, 1) := by decide +kernel
theorem dL_law_143 : decode cL_law 143 = .ok (.aload_n 0, 1) := by decide +kernel
theorem dL_law_144 : decode cL_law 144 = .ok (.iload 4, 2) := by decide +kernel
theorem dL_law_146 : decode cL_law 146 = .ok (.iconst 2, 1) := by decide +kernel
theorem dL_law_147 : decode cL_law 147 = .ok (.iadd, 1) := by decide +kernel
theorem dL_law_148 : decode cL_law 148 = .ok (.iaload, 1) := by decide +kernel
theorem dL_law_149 : decode cL_law 149 = .ok (.aload_n 0, 1) := by decide +kernel
theorem dL_law_150 : decode cL_law 150 = .ok (.iload 4, 2) := by decide +kernel
theorem dL_law_152 : decode cL_law 152 = .ok (.iconst 3, 1) := by decide +kernel
theorem dL_law_153 : decode cL_law 153 = .ok (.iadd, 1) := by decide +kernel
theorem dL_law_154 : decode cL_law 154 = .ok (.iaload, 1) := by decide +kernel
theorem dL_law_155 : decode cL_law 155 = .ok (.aload_n 0, 1) := by decide +kernel
theorem dL_law_156 : decode cL_law 156 = .ok (.iload 4, 2) := by decide +kernel
theorem dL_law_158 : decode cL_law 158 = .ok (.iconst 4, 1) := by decide +kernel
theorem dL_law_159 : decode cL_law 159 = .ok (.iadd, 1) := by decide +kernel
theorem dL_law_160 : decode cL_law 160 = .ok (.iaload, 1) := by decide +kernel
theorem dL_law_161 : decode cL_law 161 = .ok (.aload_n 0, 1) := by decide +kernel
theorem dL_law_162 : decode cL_law 162 = .ok (.iload 4, 2) := by decide +kernel
theorem dL_law_164 : decode cL_law 164 = .ok (.iconst 5, 1) := by decide +kernel
theorem dL_law_165 : decode cL_law 165 = .ok (.iadd, 1) := by decide +kernel
theorem dL_law_166 : decode cL_law 166 = .ok (.iaload, 1) := by decide +kernel
theorem dL_law_167 : decode cL_law 167 = .ok (.aload_n 3, 1) := by decide +kernel
theorem dL_law_168 : decode cL_law 168 = .ok (.invokestatic 70, 3) := by decide +kernel
theorem dL_law_171 : decode cL_law 171 = .ok (.istore 5, 2) := by decide +kernel
theorem dL_law_173 : decode cL_law 173 = .ok (.aload_n 2, 1) := by decide +kernel
theorem dL_law_174 : decode cL_law 174 = .ok (.aload_n 0, 1) := by decide +kernel
theorem dL_law_175 : decode cL_law 175 = .ok (.iload 4, 2) := by decide +kernel
theorem dL_law_177 : decode cL_law 177 = .ok (.iconst 1, 1) := by decide +kernel
theorem dL_law_178 : decode cL_law 178 = .ok (.iadd, 1) := by decide +kernel
theorem dL_law_179 : decode cL_law 179 = .ok (.iaload, 1) := by decide +kernel
theorem dL_law_180 : decode cL_law 180 = .ok (.aload_n 0, 1) := by decide +kernel
theorem dL_law_181 : decode cL_law 181 = .ok (.iload 4, 2) := by decide +kernel
theorem dL_law_183 : decode cL_law 183 = .ok (.iconst 2, 1) := by decide +kernel
theorem dL_law_184 : decode cL_law 184 = .ok (.iadd, 1) := by decide +kernel
theorem dL_law_185 : decode cL_law 185 = .ok (.iaload, 1) := by decide +kernel
theorem dL_law_186 : decode cL_law 186 = .ok (.aload_n 0, 1) := by decide +kernel
theorem dL_law_187 : decode cL_law 187 = .ok (.iload 4, 2) := by decide +kernel
theorem dL_law_189 : decode cL_law 189 = .ok (.iconst 3, 1) := by decide +kernel
theorem dL_law_190 : decode cL_law 190 = .ok (.iadd, 1) := by decide +kernel
theorem dL_law_191 : decode cL_law 191 = .ok (.iaload, 1) := by decide +kernel
theorem dL_law_192 : decode cL_law 192 = .ok (.aload_n 0, 1) := by decide +kernel
theorem dL_law_193 : decode cL_law 193 = .ok (.iload 4, 2) := by decide +kernel
theorem dL_law_195 : decode cL_law 195 = .ok (.iconst 4, 1) := by decide +kernel
theorem dL_law_196 : decode cL_law 196 = .ok (.iadd, 1) := by decide +kernel
theorem dL_law_197 : decode cL_law 197 = .ok (.iaload, 1) := by decide +kernel
theorem dL_law_198 : decode cL_law 198 = .ok (.aload_n 0, 1) := by decide +kernel
theorem dL_law_199 : decode cL_law 199 = .ok (.iload 4, 2) := by decide +kernel
theorem dL_law_201 : decode cL_law 201 = .ok (.iconst 5, 1) := by decide +kernel
theorem dL_law_202 : decode cL_law 202 = .ok (.iadd, 1) := by decide +kernel
theorem dL_law_203 : decode cL_law 203 = .ok (.iaload, 1) := by decide +kernel
theorem dL_law_204 : decode cL_law 204 = .ok (.invokevirtual 75, 3) := by decide +kernel
theorem dL_law_207 : decode cL_law 207 = .ok (.istore 6, 2) := by decide +kernel
theorem dL_law_209 : decode cL_law 209 = .ok (.aload_n 2, 1) := by decide +kernel
theorem dL_law_210 : decode cL_law 210 = .ok (.invokevirtual 76, 3) := by decide +kernel
theorem dL_law_213 : decode cL_law 213 = .ok (.iload 5, 2) := by decide +kernel
theorem dL_law_215 : decode cL_law 215 = .ok (.if_icmp .eq 5, 3) := by decide +kernel
theorem dL_law_218 : decode cL_law 218 = .ok (.iconst 0, 1) := by decide +kernel
theorem dL_law_219 : decode cL_law 219 = .ok (.ireturn, 1) := by decide +kernel
theorem dL_law_220 : decode cL_law 220 = .ok (.iload 5, 2) := by decide +kernel
theorem dL_law_222 : decode cL_law 222 = .ok (.ifCond .ne 15, 3) := by decide +kernel
theorem dL_law_225 : decode cL_law 225 = .ok (.aload_n 3, 1) := by decide +kernel
theorem dL_law_226 : decode cL_law 226 = .ok (.iconst 0, 1) := by decide +kernel
theorem dL_law_227 : decode cL_law 227 = .ok (.laload, 1) := by decide +kernel
theorem dL_law_228 : decode cL_law 228 = .ok (.iload 6, 2) := by decide +kernel
theorem dL_law_230 : decode cL_law 230 = .ok (.i2l, 1) := by decide +kernel
theorem dL_law_231 : decode cL_law 231 = .ok (.lcmp, 1) := by decide +kernel
theorem dL_law_232 : decode cL_law 232 = .ok (.ifCond .eq 5, 3) := by decide +kernel
theorem dL_law_235 : decode cL_law 235 = .ok (.iconst 0, 1) := by decide +kernel
theorem dL_law_236 : decode cL_law 236 = .ok (.ireturn, 1) := by decide +kernel
theorem dL_law_237 : decode cL_law 237 = .ok (.goto 957, 3) := by decide +kernel
theorem dL_law_240 : decode cL_law 240 = .ok (.aload_n 1, 1) := by decide +kernel
theorem dL_law_241 : decode cL_law 241 = .ok (.aload_n 0, 1) := by decide +kernel
theorem dL_law_242 : decode cL_law 242 = .ok (.iload 4, 2) := by decide +kernel
theorem dL_law_244 : decode cL_law 244 = .ok (.iconst 1, 1) := by decide +kernel
theorem dL_law_245 : decode cL_law 245 = .ok (.iadd, 1) := by decide +kernel
theorem dL_law_246 : decode cL_law 246 = .ok (.iaload, 1) := by decide +kernel
theorem dL_law_247 : decode cL_law 247 = .ok (.aload_n 3, 1) := by decide +kernel
theorem dL_law_248 : decode cL_law 248 = .ok (.invokestatic 79, 3) := by decide +kernel
theorem dL_law_251 : decode cL_law 251 = .ok (.istore 5, 2) := by decide +kernel
theorem dL_law_253 : decode cL_law 253 = .ok (.aload_n 2, 1) := by decide +kernel
theorem dL_law_254 : decode cL_law 254 = .ok (.aload_n 0, 1) := by decide +kernel
theorem dL_law_255 : decode cL_law 255 = .ok (.iload 4, 2) := by decide +kernel
theorem dL_law_257 : decode cL_law 257 = .ok (.iconst 1, 1) := by decide +kernel
theorem dL_law_258 : decode cL_law 258 = .ok (.iadd, 1) := by decide +kernel
theorem dL_law_259 : decode cL_law 259 = .ok (.iaload, 1) := by decide +kernel
theorem dL_law_260 : decode cL_law 260 = .ok (.invokevirtual 82, 3) := by decide +kernel
theorem dL_law_263 : decode cL_law 263 = .ok (.istore 6, 2) := by decide +kernel
theorem dL_law_265 : decode cL_law 265 = .ok (.aload_n 2, 1) := by decide +kernel
theorem dL_law_266 : decode cL_law 266 = .ok (.invokevirtual 76, 3) := by decide +kernel
theorem dL_law_269 : decode cL_law 269 = .ok (.iload 5, 2) := by decide +kernel
theorem dL_law_271 : decode cL_law 271 = .ok (.if_icmp .eq 5, 3) := by decide +kernel
theorem dL_law_274 : decode cL_law 274 = .ok (.iconst 0, 1) := by decide +kernel
theorem dL_law_275 : decode cL_law 275 = .ok (.ireturn, 1) := by decide +kernel
theorem dL_law_276 : decode cL_law 276 = .ok (.iload 5, 2) := by decide +kernel
theorem dL_law_278 : decode cL_law 278 = .ok (.ifCond .ne 15, 3) := by decide +kernel
theorem dL_law_281 : decode cL_law 281 = .ok (.aload_n 3, 1) := by decide +kernel
theorem dL_law_282 : decode cL_law 282 = .ok (.iconst 0, 1) := by decide +kernel
theorem dL_law_283 : decode cL_law 283 = .ok (.laload, 1) := by decide +kernel
theorem dL_law_284 : decode cL_law 284 = .ok (.iload 6, 2) := by decide +kernel
theorem dL_law_286 : decode cL_law 286 = .ok (.i2l, 1) := by decide +kernel
theorem dL_law_287 : decode cL_law 287 = .ok (.lcmp, 1) := by decide +kernel
theorem dL_law_288 : decode cL_law 288 = .ok (.ifCond .eq 5, 3) := by decide +kernel
theorem dL_law_291 : decode cL_law 291 = .ok (.iconst 0, 1) := by decide +kernel
theorem dL_law_292 : decode cL_law 292 = .ok (.ireturn, 1) := by decide +kernel
theorem dL_law_293 : decode cL_law 293 = .ok (.goto 901, 3) := by decide +kernel
theorem dL_law_296 : decode cL_law 296 = .ok (.aload_n 1, 1) := by decide +kernel
theorem dL_law_297 : decode cL_law 297 = .ok (.aload_n 0, 1) := by decide +kernel
theorem dL_law_298 : decode cL_law 298 = .ok (.iload 4, 2) := by decide +kernel
theorem dL_law_300 : decode cL_law 300 = .ok (.iconst 1, 1) := by decide +kernel
theorem dL_law_301 : decode cL_law 301 = .ok (.iadd, 1) := by decide +kernel
theorem dL_law_302 : decode cL_law 302 = .ok (.iaload, 1) := by decide +kernel
theorem dL_law_303 : decode cL_law 303 = .ok (.aload_n 3, 1) := by decide +kernel
theorem dL_law_304 : decode cL_law 304 = .ok (.invokestatic 83, 3) := by decide +kernel
theorem dL_law_307 : decode cL_law 307 = .ok (.istore 5, 2) := by decide +kernel
theorem dL_law_309 : decode cL_law 309 = .ok (.aload_n 2, 1) := by decide +kernel
theorem dL_law_310 : decode cL_law 310 = .ok (.aload_n 0, 1) := by decide +kernel
theorem dL_law_311 : decode cL_law 311 = .ok (.iload 4, 2) := by decide +kernel
theorem dL_law_313 : decode cL_law 313 = .ok (.iconst 1, 1) := by decide +kernel
theorem dL_law_314 : decode cL_law 314 = .ok (.iadd, 1) := by decide +kernel
theorem dL_law_315 : decode cL_law 315 = .ok (.iaload, 1) := by decide +kernel
theorem dL_law_316 : decode cL_law 316 = .ok (.invokevirtual 85, 3) := by decide +kernel
theorem dL_law_319 : decode cL_law 319 = .ok (.istore 6, 2) := by decide +kernel
theorem dL_law_321 : decode cL_law 321 = .ok (.aload_n 2, 1) := by decide +kernel
theorem dL_law_322 : decode cL_law 322 = .ok (.invokevirtual 76, 3) := by decide +kernel
theorem dL_law_325 : decode cL_law 325 = .ok (.iload 5, 2) := by decide +kernel
theorem dL_law_327 : decode cL_law 327 = .ok (.if_icmp .eq 5, 3) := by decide +kernel
theorem dL_law_330 : decode cL_law 330 = .ok (.iconst 0, 1) := by decide +kernel
theorem dL_law_331 : decode cL_law 331 = .ok (.ireturn, 1) := by decide +kernel
theorem dL_law_332 : decode cL_law 332 = .ok (.iload 5, 2) := by decide +kernel
theorem dL_law_334 : decode cL_law 334 = .ok (.ifCond .ne 15, 3) := by decide +kernel
theorem dL_law_337 : decode cL_law 337 = .ok (.aload_n 3, 1) := by decide +kernel
theorem dL_law_338 : decode cL_law 338 = .ok (.iconst 0, 1) := by decide +kernel
theorem dL_law_339 : decode cL_law 339 = .ok (.laload, 1) := by decide +kernel
theorem dL_law_340 : decode cL_law 340 = .ok (.iload 6, 2) := by decide +kernel
theorem dL_law_342 : decode cL_law 342 = .ok (.i2l, 1) := by decide +kernel
theorem dL_law_343 : decode cL_law 343 = .ok (.lcmp, 1) := by decide +kernel
theorem dL_law_344 : decode cL_law 344 = .ok (.ifCond .eq 5, 3) := by decide +kernel
theorem dL_law_347 : decode cL_law 347 = .ok (.iconst 0, 1) := by decide +kernel
theorem dL_law_348 : decode cL_law 348 = .ok (.ireturn, 1) := by decide +kernel
theorem dL_law_349 : decode cL_law 349 = .ok (.goto 845, 3) := by decide +kernel
theorem dL_law_352 : decode cL_law 352 = .ok (.aload_n 1, 1) := by decide +kernel
theorem dL_law_353 : decode cL_law 353 = .ok (.aload_n 0, 1) := by decide +kernel
theorem dL_law_354 : decode cL_law 354 = .ok (.iload 4, 2) := by decide +kernel
theorem dL_law_356 : decode cL_law 356 = .ok (.iconst 1, 1) := by decide +kernel
theorem dL_law_357 : decode cL_law 357 = .ok (.iadd, 1) := by decide +kernel
theorem dL_law_358 : decode cL_law 358 = .ok (.iaload, 1) := by decide +kernel
theorem dL_law_359 : decode cL_law 359 = .ok (.aload_n 0, 1) := by decide +kernel
theorem dL_law_360 : decode cL_law 360 = .ok (.iload 4, 2) := by decide +kernel
theorem dL_law_362 : decode cL_law 362 = .ok (.iconst 2, 1) := by decide +kernel
theorem dL_law_363 : decode cL_law 363 = .ok (.iadd, 1) := by decide +kernel
theorem dL_law_364 : decode cL_law 364 = .ok (.iaload, 1) := by decide +kernel
theorem dL_law_365 : decode cL_law 365 = .ok (.ifCond .eq 7, 3) := by decide +kernel
theorem dL_law_368 : decode cL_law 368 = .ok (.iconst 1, 1) := by decide +kernel
theorem dL_law_369 : decode cL_law 369 = .ok (.goto 4, 3) := by decide +kernel
theorem dL_law_372 : decode cL_law 372 = .ok (.iconst 0, 1) := by decide +kernel
theorem dL_law_373 : decode cL_law 373 = .ok (.aload_n 3, 1) := by decide +kernel
theorem dL_law_374 : decode cL_law 374 = .ok (.invokestatic 86, 3) := by decide +kernel
theorem dL_law_377 : decode cL_law 377 = .ok (.istore 5, 2) := by decide +kernel
theorem dL_law_379 : decode cL_law 379 = .ok (.aload_n 2, 1) := by decide +kernel
theorem dL_law_380 : decode cL_law 380 = .ok (.aload_n 0, 1) := by decide +kernel
theorem dL_law_381 : decode cL_law 381 = .ok (.iload 4, 2) := by decide +kernel
theorem dL_law_383 : decode cL_law 383 = .ok (.iconst 1, 1) := by decide +kernel
theorem dL_law_384 : decode cL_law 384 = .ok (.iadd, 1) := by decide +kernel
theorem dL_law_385 : decode cL_law 385 = .ok (.iaload, 1) := by decide +kernel
theorem dL_law_386 : decode cL_law 386 = .ok (.aload_n 0, 1) := by decide +kernel
theorem dL_law_387 : decode cL_law 387 = .ok (.iload 4, 2) := by decide +kernel
theorem dL_law_389 : decode cL_law 389 = .ok (.iconst 2, 1) := by decide +kernel
theorem dL_law_390 : decode cL_law 390 = .ok (.iadd, 1) := by decide +kernel
theorem dL_law_391 : decode cL_law 391 = .ok (.iaload, 1) := by decide +kernel
theorem dL_law_392 : decode cL_law 392 = .ok (.ifCond .eq 7, 3) := by decide +kernel
theorem dL_law_395 : decode cL_law 395 = .ok (.iconst 1, 1) := by decide +kernel
theorem dL_law_396 : decode cL_law 396 = .ok (.goto 4, 3) := by decide +kernel
theorem dL_law_399 : decode cL_law 399 = .ok (.iconst 0, 1) := by decide +kernel
theorem dL_law_400 : decode cL_law 400 = .ok (.invokevirtual 89, 3) := by decide +kernel
theorem dL_law_403 : decode cL_law 403 = .ok (.istore 6, 2) := by decide +kernel
theorem dL_law_405 : decode cL_law 405 = .ok (.aload_n 2, 1) := by decide +kernel
theorem dL_law_406 : decode cL_law 406 = .ok (.invokevirtual 76, 3) := by decide +kernel
theorem dL_law_409 : decode cL_law 409 = .ok (.iload 5, 2) := by decide +kernel
theorem dL_law_411 : decode cL_law 411 = .ok (.if_icmp .eq 5, 3) := by decide +kernel
theorem dL_law_414 : decode cL_law 414 = .ok (.iconst 0, 1) := by decide +kernel
theorem dL_law_415 : decode cL_law 415 = .ok (.ireturn, 1) := by decide +kernel
theorem dL_law_416 : decode cL_law 416 = .ok (.iload 5, 2) := by decide +kernel
theorem dL_law_418 : decode cL_law 418 = .ok (.ifCond .ne 15, 3) := by decide +kernel
theorem dL_law_421 : decode cL_law 421 = .ok (.aload_n 3, 1) := by decide +kernel
theorem dL_law_422 : decode cL_law 422 = .ok (.iconst 0, 1) := by decide +kernel
theorem dL_law_423 : decode cL_law 423 = .ok (.laload, 1) := by decide +kernel
theorem dL_law_424 : decode cL_law 424 = .ok (.iload 6, 2) := by decide +kernel
theorem dL_law_426 : decode cL_law 426 = .ok (.i2l, 1) := by decide +kernel
theorem dL_law_427 : decode cL_law 427 = .ok (.lcmp, 1) := by decide +kernel
theorem dL_law_428 : decode cL_law 428 = .ok (.ifCond .eq 5, 3) := by decide +kernel
theorem dL_law_431 : decode cL_law 431 = .ok (.iconst 0, 1) := by decide +kernel
theorem dL_law_432 : decode cL_law 432 = .ok (.ireturn, 1) := by decide +kernel
theorem dL_law_433 : decode cL_law 433 = .ok (.goto 761, 3) := by decide +kernel
theorem dL_law_436 : decode cL_law 436 = .ok (.aload_n 1, 1) := by decide +kernel
theorem dL_law_437 : decode cL_law 437 = .ok (.aload_n 0, 1) := by decide +kernel
theorem dL_law_438 : decode cL_law 438 = .ok (.iload 4, 2) := by decide +kernel
theorem dL_law_440 : decode cL_law 440 = .ok (.iconst 1, 1) := by decide +kernel
theorem dL_law_441 : decode cL_law 441 = .ok (.iadd, 1) := by decide +kernel
theorem dL_law_442 : decode cL_law 442 = .ok (.iaload, 1) := by decide +kernel
theorem dL_law_443 : decode cL_law 443 = .ok (.aload_n 3, 1) := by decide +kernel
theorem dL_law_444 : decode cL_law 444 = .ok (.invokestatic 90, 3) := by decide +kernel
theorem dL_law_447 : decode cL_law 447 = .ok (.istore 5, 2) := by decide +kernel
theorem dL_law_449 : decode cL_law 449 = .ok (.aload_n 2, 1) := by decide +kernel
theorem dL_law_450 : decode cL_law 450 = .ok (.aload_n 0, 1) := by decide +kernel
theorem dL_law_451 : decode cL_law 451 = .ok (.iload 4, 2) := by decide +kernel
theorem dL_law_453 : decode cL_law 453 = .ok (.iconst 1, 1) := by decide +kernel
theorem dL_law_454 : decode cL_law 454 = .ok (.iadd, 1) := by decide +kernel
theorem dL_law_455 : decode cL_law 455 = .ok (.iaload, 1) := by decide +kernel
theorem dL_law_456 : decode cL_law 456 = .ok (.invokevirtual 92, 3) := by decide +kernel
theorem dL_law_459 : decode cL_law 459 = .ok (.istore 6, 2) := by decide +kernel
theorem dL_law_461 : decode cL_law 461 = .ok (.aload_n 2, 1) := by decide +kernel
theorem dL_law_462 : decode cL_law 462 = .ok (.invokevirtual 76, 3) := by decide +kernel
theorem dL_law_465 : decode cL_law 465 = .ok (.iload 5, 2) := by decide +kernel
theorem dL_law_467 : decode cL_law 467 = .ok (.if_icmp .eq 5, 3) := by decide +kernel
theorem dL_law_470 : decode cL_law 470 = .ok (.iconst 0, 1) := by decide +kernel
theorem dL_law_471 : decode cL_law 471 = .ok (.ireturn, 1) := by decide +kernel
theorem dL_law_472 : decode cL_law 472 = .ok (.iload 5, 2) := by decide +kernel
theorem dL_law_474 : decode cL_law 474 = .ok (.ifCond .ne 15, 3) := by decide +kernel
theorem dL_law_477 : decode cL_law 477 = .ok (.aload_n 3, 1) := by decide +kernel
theorem dL_law_478 : decode cL_law 478 = .ok (.iconst 0, 1) := by decide +kernel
theorem dL_law_479 : decode cL_law 479 = .ok (.laload, 1) := by decide +kernel
theorem dL_law_480 : decode cL_law 480 = .ok (.iload 6, 2) := by decide +kernel
theorem dL_law_482 : decode cL_law 482 = .ok (.i2l, 1) := by decide +kernel
theorem dL_law_483 : decode cL_law 483 = .ok (.lcmp, 1) := by decide +kernel
theorem dL_law_484 : decode cL_law 484 = .ok (.ifCond .eq 5, 3) := by decide +kernel
theorem dL_law_487 : decode cL_law 487 = .ok (.iconst 0, 1) := by decide +kernel
theorem dL_law_488 : decode cL_law 488 = .ok (.ireturn, 1) := by decide +kernel
theorem dL_law_489 : decode cL_law 489 = .ok (.goto 705, 3) := by decide +kernel
theorem dL_law_492 : decode cL_law 492 = .ok (.aload_n 1, 1) := by decide +kernel
theorem dL_law_493 : decode cL_law 493 = .ok (.aload_n 0, 1) := by decide +kernel
theorem dL_law_494 : decode cL_law 494 = .ok (.iload 4, 2) := by decide +kernel
theorem dL_law_496 : decode cL_law 496 = .ok (.iconst 1, 1) := by decide +kernel
theorem dL_law_497 : decode cL_law 497 = .ok (.iadd, 1) := by decide +kernel
theorem dL_law_498 : decode cL_law 498 = .ok (.iaload, 1) := by decide +kernel
theorem dL_law_499 : decode cL_law 499 = .ok (.aload_n 3, 1) := by decide +kernel
theorem dL_law_500 : decode cL_law 500 = .ok (.invokestatic 93, 3) := by decide +kernel
theorem dL_law_503 : decode cL_law 503 = .ok (.istore 5, 2) := by decide +kernel
theorem dL_law_505 : decode cL_law 505 = .ok (.aload_n 2, 1) := by decide +kernel
theorem dL_law_506 : decode cL_law 506 = .ok (.aload_n 0, 1) := by decide +kernel
theorem dL_law_507 : decode cL_law 507 = .ok (.iload 4, 2) := by decide +kernel
theorem dL_law_509 : decode cL_law 509 = .ok (.iconst 1, 1) := by decide +kernel
theorem dL_law_510 : decode cL_law 510 = .ok (.iadd, 1) := by decide +kernel
theorem dL_law_511 : decode cL_law 511 = .ok (.iaload, 1) := by decide +kernel
theorem dL_law_512 : decode cL_law 512 = .ok (.invokevirtual 95, 3) := by decide +kernel
theorem dL_law_515 : decode cL_law 515 = .ok (.istore 6, 2) := by decide +kernel
theorem dL_law_517 : decode cL_law 517 = .ok (.aload_n 2, 1) := by decide +kernel
theorem dL_law_518 : decode cL_law 518 = .ok (.invokevirtual 76, 3) := by decide +kernel
theorem dL_law_521 : decode cL_law 521 = .ok (.iload 5, 2) := by decide +kernel
theorem dL_law_523 : decode cL_law 523 = .ok (.if_icmp .eq 5, 3) := by decide +kernel
theorem dL_law_526 : decode cL_law 526 = .ok (.iconst 0, 1) := by decide +kernel
theorem dL_law_527 : decode cL_law 527 = .ok (.ireturn, 1) := by decide +kernel
theorem dL_law_528 : decode cL_law 528 = .ok (.iload 5, 2) := by decide +kernel
theorem dL_law_530 : decode cL_law 530 = .ok (.ifCond .ne 15, 3) := by decide +kernel
theorem dL_law_533 : decode cL_law 533 = .ok (.aload_n 3, 1) := by decide +kernel
theorem dL_law_534 : decode cL_law 534 = .ok (.iconst 0, 1) := by decide +kernel
theorem dL_law_535 : decode cL_law 535 = .ok (.laload, 1) := by decide +kernel
theorem dL_law_536 : decode cL_law 536 = .ok (.iload 6, 2) := by decide +kernel
theorem dL_law_538 : decode cL_law 538 = .ok (.i2l, 1) := by decide +kernel
theorem dL_law_539 : decode cL_law 539 = .ok (.lcmp, 1) := by decide +kernel
theorem dL_law_540 : decode cL_law 540 = .ok (.ifCond .eq 5, 3) := by decide +kernel
theorem dL_law_543 : decode cL_law 543 = .ok (.iconst 0, 1) := by decide +kernel
theorem dL_law_544 : decode cL_law 544 = .ok (.ireturn, 1) := by decide +kernel
theorem dL_law_545 : decode cL_law 545 = .ok (.goto 649, 3) := by decide +kernel
theorem dL_law_548 : decode cL_law 548 = .ok (.aload_n 1, 1) := by decide +kernel
theorem dL_law_549 : decode cL_law 549 = .ok (.invokevirtual 96, 3) := by decide +kernel
theorem dL_law_552 : decode cL_law 552 = .ok (.aload_n 2, 1) := by decide +kernel
theorem dL_law_553 : decode cL_law 553 = .ok (.invokevirtual 99, 3) := by decide +kernel
theorem dL_law_556 : decode cL_law 556 = .ok (.if_icmp .eq 638, 3) := by decide +kernel
theorem dL_law_559 : decode cL_law 559 = .ok (.iconst 0, 1) := by decide +kernel
theorem dL_law_560 : decode cL_law 560 = .ok (.ireturn, 1) := by decide +kernel
theorem dL_law_561 : decode cL_law 561 = .ok (.aload_n 1, 1) := by decide +kernel
theorem dL_law_562 : decode cL_law 562 = .ok (.invokevirtual 100, 3) := by decide +kernel
theorem dL_law_565 : decode cL_law 565 = .ok (.aload_n 2, 1) := by decide +kernel
theorem dL_law_566 : decode cL_law 566 = .ok (.invokevirtual 103, 3) := by decide +kernel
theorem dL_law_569 : decode cL_law 569 = .ok (.if_icmp .eq 625, 3) := by decide +kernel
theorem dL_law_572 : decode cL_law 572 = .ok (.iconst 0, 1) := by decide +kernel
theorem dL_law_573 : decode cL_law 573 = .ok (.ireturn, 1) := by decide +kernel
theorem dL_law_574 : decode cL_law 574 = .ok (.aload_n 1, 1) := by decide +kernel
theorem dL_law_575 : decode cL_law 575 = .ok (.aload_n 3, 1) := by decide +kernel
theorem dL_law_576 : decode cL_law 576 = .ok (.invokestatic 104, 3) := by decide +kernel
theorem dL_law_579 : decode cL_law 579 = .ok (.istore 5, 2) := by decide +kernel
theorem dL_law_581 : decode cL_law 581 = .ok (.aload_n 2, 1) := by decide +kernel
theorem dL_law_582 : decode cL_law 582 = .ok (.invokevirtual 107, 3) := by decide +kernel
theorem dL_law_585 : decode cL_law 585 = .ok (.istore 6, 2) := by decide +kernel
theorem dL_law_587 : decode cL_law 587 = .ok (.aload_n 2, 1) := by decide +kernel
theorem dL_law_588 : decode cL_law 588 = .ok (.invokevirtual 76, 3) := by decide +kernel
theorem dL_law_591 : decode cL_law 591 = .ok (.iload 5, 2) := by decide +kernel
theorem dL_law_593 : decode cL_law 593 = .ok (.if_icmp .eq 5, 3) := by decide +kernel
theorem dL_law_596 : decode cL_law 596 = .ok (.iconst 0, 1) := by decide +kernel
theorem dL_law_597 : decode cL_law 597 = .ok (.ireturn, 1) := by decide +kernel
theorem dL_law_598 : decode cL_law 598 = .ok (.iload 5, 2) := by decide +kernel
theorem dL_law_600 : decode cL_law 600 = .ok (.ifCond .ne 15, 3) := by decide +kernel
theorem dL_law_603 : decode cL_law 603 = .ok (.aload_n 3, 1) := by decide +kernel
theorem dL_law_604 : decode cL_law 604 = .ok (.iconst 0, 1) := by decide +kernel
theorem dL_law_605 : decode cL_law 605 = .ok (.laload, 1) := by decide +kernel
theorem dL_law_606 : decode cL_law 606 = .ok (.iload 6, 2) := by decide +kernel
theorem dL_law_608 : decode cL_law 608 = .ok (.i2l, 1) := by decide +kernel
theorem dL_law_609 : decode cL_law 609 = .ok (.lcmp, 1) := by decide +kernel
theorem dL_law_610 : decode cL_law 610 = .ok (.ifCond .eq 5, 3) := by decide +kernel
theorem dL_law_613 : decode cL_law 613 = .ok (.iconst 0, 1) := by decide +kernel
theorem dL_law_614 : decode cL_law 614 = .ok (.ireturn, 1) := by decide +kernel
theorem dL_law_615 : decode cL_law 615 = .ok (.goto 579, 3) := by decide +kernel
theorem dL_law_618 : decode cL_law 618 = .ok (.aload_n 1, 1) := by decide +kernel
theorem dL_law_619 : decode cL_law 619 = .ok (.aload_n 3, 1) := by decide +kernel
theorem dL_law_620 : decode cL_law 620 = .ok (.invokestatic 108, 3) := by decide +kernel
theorem dL_law_623 : decode cL_law 623 = .ok (.istore 5, 2) := by decide +kernel
theorem dL_law_625 : decode cL_law 625 = .ok (.aload_n 2, 1) := by decide +kernel
theorem dL_law_626 : decode cL_law 626 = .ok (.invokevirtual 110, 3) := by decide +kernel
theorem dL_law_629 : decode cL_law 629 = .ok (.istore 6, 2) := by decide +kernel
theorem dL_law_631 : decode cL_law 631 = .ok (.aload_n 2, 1) := by decide +kernel
theorem dL_law_632 : decode cL_law 632 = .ok (.invokevirtual 76, 3) := by decide +kernel
theorem dL_law_635 : decode cL_law 635 = .ok (.iload 5, 2) := by decide +kernel
theorem dL_law_637 : decode cL_law 637 = .ok (.if_icmp .eq 5, 3) := by decide +kernel
theorem dL_law_640 : decode cL_law 640 = .ok (.iconst 0, 1) := by decide +kernel
theorem dL_law_641 : decode cL_law 641 = .ok (.ireturn, 1) := by decide +kernel
theorem dL_law_642 : decode cL_law 642 = .ok (.iload 5, 2) := by decide +kernel
theorem dL_law_644 : decode cL_law 644 = .ok (.ifCond .ne 15, 3) := by decide +kernel
theorem dL_law_647 : decode cL_law 647 = .ok (.aload_n 3, 1) := by decide +kernel
theorem dL_law_648 : decode cL_law 648 = .ok (.iconst 0, 1) := by decide +kernel
theorem dL_law_649 : decode cL_law 649 = .ok (.laload, 1) := by decide +kernel
theorem dL_law_650 : decode cL_law 650 = .ok (.iload 6, 2) := by decide +kernel
theorem dL_law_652 : decode cL_law 652 = .ok (.i2l, 1) := by decide +kernel
theorem dL_law_653 : decode cL_law 653 = .ok (.lcmp, 1) := by decide +kernel
theorem dL_law_654 : decode cL_law 654 = .ok (.ifCond .eq 5, 3) := by decide +kernel
theorem dL_law_657 : decode cL_law 657 = .ok (.iconst 0, 1) := by decide +kernel
theorem dL_law_658 : decode cL_law 658 = .ok (.ireturn, 1) := by decide +kernel
theorem dL_law_659 : decode cL_law 659 = .ok (.goto 535, 3) := by decide +kernel
theorem dL_law_662 : decode cL_law 662 = .ok (.aload_n 1, 1) := by decide +kernel
theorem dL_law_663 : decode cL_law 663 = .ok (.aload_n 0, 1) := by decide +kernel
theorem dL_law_664 : decode cL_law 664 = .ok (.iload 4, 2) := by decide +kernel
theorem dL_law_666 : decode cL_law 666 = .ok (.iconst 1, 1) := by decide +kernel
theorem dL_law_667 : decode cL_law 667 = .ok (.iadd, 1) := by decide +kernel
theorem dL_law_668 : decode cL_law 668 = .ok (.iaload, 1) := by decide +kernel
theorem dL_law_669 : decode cL_law 669 = .ok (.aload_n 0, 1) := by decide +kernel
theorem dL_law_670 : decode cL_law 670 = .ok (.iload 4, 2) := by decide +kernel
theorem dL_law_672 : decode cL_law 672 = .ok (.iconst 2, 1) := by decide +kernel
theorem dL_law_673 : decode cL_law 673 = .ok (.iadd, 1) := by decide +kernel
theorem dL_law_674 : decode cL_law 674 = .ok (.iaload, 1) := by decide +kernel
theorem dL_law_675 : decode cL_law 675 = .ok (.aload_n 3, 1) := by decide +kernel
theorem dL_law_676 : decode cL_law 676 = .ok (.invokestatic 111, 3) := by decide +kernel
theorem dL_law_679 : decode cL_law 679 = .ok (.istore 5, 2) := by decide +kernel
theorem dL_law_681 : decode cL_law 681 = .ok (.aload_n 2, 1) := by decide +kernel
theorem dL_law_682 : decode cL_law 682 = .ok (.aload_n 0, 1) := by decide +kernel
theorem dL_law_683 : decode cL_law 683 = .ok (.iload 4, 2) := by decide +kernel
theorem dL_law_685 : decode cL_law 685 = .ok (.iconst 1, 1) := by decide +kernel
theorem dL_law_686 : decode cL_law 686 = .ok (.iadd, 1) := by decide +kernel
theorem dL_law_687 : decode cL_law 687 = .ok (.iaload, 1) := by decide +kernel
theorem dL_law_688 : decode cL_law 688 = .ok (.aload_n 0, 1) := by decide +kernel
theorem dL_law_689 : decode cL_law 689 = .ok (.iload 4, 2) := by decide +kernel
theorem dL_law_691 : decode cL_law 691 = .ok (.iconst 2, 1) := by decide +kernel
theorem dL_law_692 : decode cL_law 692 = .ok (.iadd, 1) := by decide +kernel
theorem dL_law_693 : decode cL_law 693 = .ok (.iaload, 1) := by decide +kernel
theorem dL_law_694 : decode cL_law 694 = .ok (.invokevirtual 114, 3) := by decide +kernel
theorem dL_law_697 : decode cL_law 697 = .ok (.istore 6, 2) := by decide +kernel
theorem dL_law_699 : decode cL_law 699 = .ok (.aload_n 2, 1) := by decide +kernel
theorem dL_law_700 : decode cL_law 700 = .ok (.invokevirtual 76, 3) := by decide +kernel
theorem dL_law_703 : decode cL_law 703 = .ok (.iload 5, 2) := by decide +kernel
theorem dL_law_705 : decode cL_law 705 = .ok (.if_icmp .eq 5, 3) := by decide +kernel
theorem dL_law_708 : decode cL_law 708 = .ok (.iconst 0, 1) := by decide +kernel
theorem dL_law_709 : decode cL_law 709 = .ok (.ireturn, 1) := by decide +kernel
theorem dL_law_710 : decode cL_law 710 = .ok (.iload 5, 2) := by decide +kernel
theorem dL_law_712 : decode cL_law 712 = .ok (.ifCond .ne 15, 3) := by decide +kernel
theorem dL_law_715 : decode cL_law 715 = .ok (.aload_n 3, 1) := by decide +kernel
theorem dL_law_716 : decode cL_law 716 = .ok (.iconst 0, 1) := by decide +kernel
theorem dL_law_717 : decode cL_law 717 = .ok (.laload, 1) := by decide +kernel
theorem dL_law_718 : decode cL_law 718 = .ok (.iload 6, 2) := by decide +kernel
theorem dL_law_720 : decode cL_law 720 = .ok (.i2l, 1) := by decide +kernel
theorem dL_law_721 : decode cL_law 721 = .ok (.lcmp, 1) := by decide +kernel
theorem dL_law_722 : decode cL_law 722 = .ok (.ifCond .eq 5, 3) := by decide +kernel
theorem dL_law_725 : decode cL_law 725 = .ok (.iconst 0, 1) := by decide +kernel
theorem dL_law_726 : decode cL_law 726 = .ok (.ireturn, 1) := by decide +kernel
theorem dL_law_727 : decode cL_law 727 = .ok (.goto 467, 3) := by decide +kernel
theorem dL_law_730 : decode cL_law 730 = .ok (.aload_n 1, 1) := by decide +kernel
theorem dL_law_731 : decode cL_law 731 = .ok (.aload_n 0, 1) := by decide +kernel
theorem dL_law_732 : decode cL_law 732 = .ok (.iload 4, 2) := by decide +kernel
theorem dL_law_734 : decode cL_law 734 = .ok (.iconst 1, 1) := by decide +kernel
theorem dL_law_735 : decode cL_law 735 = .ok (.iadd, 1) := by decide +kernel
theorem dL_law_736 : decode cL_law 736 = .ok (.iaload, 1) := by decide +kernel
theorem dL_law_737 : decode cL_law 737 = .ok (.aload_n 0, 1) := by decide +kernel
theorem dL_law_738 : decode cL_law 738 = .ok (.iload 4, 2) := by decide +kernel
theorem dL_law_740 : decode cL_law 740 = .ok (.iconst 2, 1) := by decide +kernel
theorem dL_law_741 : decode cL_law 741 = .ok (.iadd, 1) := by decide +kernel
theorem dL_law_742 : decode cL_law 742 = .ok (.iaload, 1) := by decide +kernel
theorem dL_law_743 : decode cL_law 743 = .ok (.aload_n 3, 1) := by decide +kernel
theorem dL_law_744 : decode cL_law 744 = .ok (.invokestatic 115, 3) := by decide +kernel
theorem dL_law_747 : decode cL_law 747 = .ok (.istore 5, 2) := by decide +kernel
theorem dL_law_749 : decode cL_law 749 = .ok (.aload_n 2, 1) := by decide +kernel
theorem dL_law_750 : decode cL_law 750 = .ok (.aload_n 0, 1) := by decide +kernel
theorem dL_law_751 : decode cL_law 751 = .ok (.iload 4, 2) := by decide +kernel
theorem dL_law_753 : decode cL_law 753 = .ok (.iconst 1, 1) := by decide +kernel
theorem dL_law_754 : decode cL_law 754 = .ok (.iadd, 1) := by decide +kernel
theorem dL_law_755 : decode cL_law 755 = .ok (.iaload, 1) := by decide +kernel
theorem dL_law_756 : decode cL_law 756 = .ok (.aload_n 0, 1) := by decide +kernel
theorem dL_law_757 : decode cL_law 757 = .ok (.iload 4, 2) := by decide +kernel
theorem dL_law_759 : decode cL_law 759 = .ok (.iconst 2, 1) := by decide +kernel
theorem dL_law_760 : decode cL_law 760 = .ok (.iadd, 1) := by decide +kernel
theorem dL_law_761 : decode cL_law 761 = .ok (.iaload, 1) := by decide +kernel
theorem dL_law_762 : decode cL_law 762 = .ok (.invokevirtual 117, 3) := by decide +kernel
theorem dL_law_765 : decode cL_law 765 = .ok (.istore 6, 2) := by decide +kernel
theorem dL_law_767 : decode cL_law 767 = .ok (.aload_n 2, 1) := by decide +kernel
theorem dL_law_768 : decode cL_law 768 = .ok (.invokevirtual 76, 3) := by decide +kernel
theorem dL_law_771 : decode cL_law 771 = .ok (.iload 5, 2) := by decide +kernel
theorem dL_law_773 : decode cL_law 773 = .ok (.if_icmp .eq 5, 3) := by decide +kernel
theorem dL_law_776 : decode cL_law 776 = .ok (.iconst 0, 1) := by decide +kernel
theorem dL_law_777 : decode cL_law 777 = .ok (.ireturn, 1) := by decide +kernel
theorem dL_law_778 : decode cL_law 778 = .ok (.iload 5, 2) := by decide +kernel
theorem dL_law_780 : decode cL_law 780 = .ok (.ifCond .ne 15, 3) := by decide +kernel
theorem dL_law_783 : decode cL_law 783 = .ok (.aload_n 3, 1) := by decide +kernel
theorem dL_law_784 : decode cL_law 784 = .ok (.iconst 0, 1) := by decide +kernel
theorem dL_law_785 : decode cL_law 785 = .ok (.laload, 1) := by decide +kernel
theorem dL_law_786 : decode cL_law 786 = .ok (.iload 6, 2) := by decide +kernel
theorem dL_law_788 : decode cL_law 788 = .ok (.i2l, 1) := by decide +kernel
theorem dL_law_789 : decode cL_law 789 = .ok (.lcmp, 1) := by decide +kernel
theorem dL_law_790 : decode cL_law 790 = .ok (.ifCond .eq 5, 3) := by decide +kernel
theorem dL_law_793 : decode cL_law 793 = .ok (.iconst 0, 1) := by decide +kernel
theorem dL_law_794 : decode cL_law 794 = .ok (.ireturn, 1) := by decide +kernel
theorem dL_law_795 : decode cL_law 795 = .ok (.goto 399, 3) := by decide +kernel
theorem dL_law_798 : decode cL_law 798 = .ok (.aload_n 1, 1) := by decide +kernel
theorem dL_law_799 : decode cL_law 799 = .ok (.aload_n 0, 1) := by decide +kernel
theorem dL_law_800 : decode cL_law 800 = .ok (.iload 4, 2) := by decide +kernel
theorem dL_law_802 : decode cL_law 802 = .ok (.iconst 1, 1) := by decide +kernel
theorem dL_law_803 : decode cL_law 803 = .ok (.iadd, 1) := by decide +kernel
theorem dL_law_804 : decode cL_law 804 = .ok (.iaload, 1) := by decide +kernel
theorem dL_law_805 : decode cL_law 805 = .ok (.aload_n 3, 1) := by decide +kernel
theorem dL_law_806 : decode cL_law 806 = .ok (.invokestatic 118, 3) := by decide +kernel
theorem dL_law_809 : decode cL_law 809 = .ok (.istore 5, 2) := by decide +kernel
theorem dL_law_811 : decode cL_law 811 = .ok (.aload_n 2, 1) := by decide +kernel
theorem dL_law_812 : decode cL_law 812 = .ok (.aload_n 0, 1) := by decide +kernel
theorem dL_law_813 : decode cL_law 813 = .ok (.iload 4, 2) := by decide +kernel
theorem dL_law_815 : decode cL_law 815 = .ok (.iconst 1, 1) := by decide +kernel
theorem dL_law_816 : decode cL_law 816 = .ok (.iadd, 1) := by decide +kernel
theorem dL_law_817 : decode cL_law 817 = .ok (.iaload, 1) := by decide +kernel
theorem dL_law_818 : decode cL_law 818 = .ok (.invokevirtual 120, 3) := by decide +kernel
theorem dL_law_821 : decode cL_law 821 = .ok (.istore 6, 2) := by decide +kernel
theorem dL_law_823 : decode cL_law 823 = .ok (.aload_n 2, 1) := by decide +kernel
theorem dL_law_824 : decode cL_law 824 = .ok (.invokevirtual 76, 3) := by decide +kernel
theorem dL_law_827 : decode cL_law 827 = .ok (.iload 5, 2) := by decide +kernel
theorem dL_law_829 : decode cL_law 829 = .ok (.if_icmp .eq 5, 3) := by decide +kernel
theorem dL_law_832 : decode cL_law 832 = .ok (.iconst 0, 1) := by decide +kernel
theorem dL_law_833 : decode cL_law 833 = .ok (.ireturn, 1) := by decide +kernel
theorem dL_law_834 : decode cL_law 834 = .ok (.iload 5, 2) := by decide +kernel
theorem dL_law_836 : decode cL_law 836 = .ok (.ifCond .ne 15, 3) := by decide +kernel
theorem dL_law_839 : decode cL_law 839 = .ok (.aload_n 3, 1) := by decide +kernel
theorem dL_law_840 : decode cL_law 840 = .ok (.iconst 0, 1) := by decide +kernel
theorem dL_law_841 : decode cL_law 841 = .ok (.laload, 1) := by decide +kernel
theorem dL_law_842 : decode cL_law 842 = .ok (.iload 6, 2) := by decide +kernel
theorem dL_law_844 : decode cL_law 844 = .ok (.i2l, 1) := by decide +kernel
theorem dL_law_845 : decode cL_law 845 = .ok (.lcmp, 1) := by decide +kernel
theorem dL_law_846 : decode cL_law 846 = .ok (.ifCond .eq 5, 3) := by decide +kernel
theorem dL_law_849 : decode cL_law 849 = .ok (.iconst 0, 1) := by decide +kernel
theorem dL_law_850 : decode cL_law 850 = .ok (.ireturn, 1) := by decide +kernel
theorem dL_law_851 : decode cL_law 851 = .ok (.goto 343, 3) := by decide +kernel
theorem dL_law_854 : decode cL_law 854 = .ok (.aload_n 1, 1) := by decide +kernel
theorem dL_law_855 : decode cL_law 855 = .ok (.aload_n 0, 1) := by decide +kernel
theorem dL_law_856 : decode cL_law 856 = .ok (.iload 4, 2) := by decide +kernel
theorem dL_law_858 : decode cL_law 858 = .ok (.iconst 1, 1) := by decide +kernel
theorem dL_law_859 : decode cL_law 859 = .ok (.iadd, 1) := by decide +kernel
theorem dL_law_860 : decode cL_law 860 = .ok (.iaload, 1) := by decide +kernel
theorem dL_law_861 : decode cL_law 861 = .ok (.aload_n 3, 1) := by decide +kernel
theorem dL_law_862 : decode cL_law 862 = .ok (.invokestatic 121, 3) := by decide +kernel
theorem dL_law_865 : decode cL_law 865 = .ok (.istore 5, 2) := by decide +kernel
theorem dL_law_867 : decode cL_law 867 = .ok (.aload_n 2, 1) := by decide +kernel
theorem dL_law_868 : decode cL_law 868 = .ok (.aload_n 0, 1) := by decide +kernel
theorem dL_law_869 : decode cL_law 869 = .ok (.iload 4, 2) := by decide +kernel
theorem dL_law_871 : decode cL_law 871 = .ok (.iconst 1, 1) := by decide +kernel
theorem dL_law_872 : decode cL_law 872 = .ok (.iadd, 1) := by decide +kernel
theorem dL_law_873 : decode cL_law 873 = .ok (.iaload, 1) := by decide +kernel
theorem dL_law_874 : decode cL_law 874 = .ok (.invokevirtual 123, 3) := by decide +kernel
theorem dL_law_877 : decode cL_law 877 = .ok (.istore 6, 2) := by decide +kernel
theorem dL_law_879 : decode cL_law 879 = .ok (.aload_n 2, 1) := by decide +kernel
theorem dL_law_880 : decode cL_law 880 = .ok (.invokevirtual 76, 3) := by decide +kernel
theorem dL_law_883 : decode cL_law 883 = .ok (.iload 5, 2) := by decide +kernel
theorem dL_law_885 : decode cL_law 885 = .ok (.if_icmp .eq 5, 3) := by decide +kernel
theorem dL_law_888 : decode cL_law 888 = .ok (.iconst 0, 1) := by decide +kernel
theorem dL_law_889 : decode cL_law 889 = .ok (.ireturn, 1) := by decide +kernel
theorem dL_law_890 : decode cL_law 890 = .ok (.iload 5, 2) := by decide +kernel
theorem dL_law_892 : decode cL_law 892 = .ok (.ifCond .ne 15, 3) := by decide +kernel
theorem dL_law_895 : decode cL_law 895 = .ok (.aload_n 3, 1) := by decide +kernel
theorem dL_law_896 : decode cL_law 896 = .ok (.iconst 0, 1) := by decide +kernel
theorem dL_law_897 : decode cL_law 897 = .ok (.laload, 1) := by decide +kernel
theorem dL_law_898 : decode cL_law 898 = .ok (.iload 6, 2) := by decide +kernel
theorem dL_law_900 : decode cL_law 900 = .ok (.i2l, 1) := by decide +kernel
theorem dL_law_901 : decode cL_law 901 = .ok (.lcmp, 1) := by decide +kernel
theorem dL_law_902 : decode cL_law 902 = .ok (.ifCond .eq 5, 3) := by decide +kernel
theorem dL_law_905 : decode cL_law 905 = .ok (.iconst 0, 1) := by decide +kernel
theorem dL_law_906 : decode cL_law 906 = .ok (.ireturn, 1) := by decide +kernel
theorem dL_law_907 : decode cL_law 907 = .ok (.goto 287, 3) := by decide +kernel
theorem dL_law_910 : decode cL_law 910 = .ok (.aload_n 1, 1) := by decide +kernel
theorem dL_law_911 : decode cL_law 911 = .ok (.invokevirtual 124, 3) := by decide +kernel
theorem dL_law_914 : decode cL_law 914 = .ok (.aload_n 2, 1) := by decide +kernel
theorem dL_law_915 : decode cL_law 915 = .ok (.invokevirtual 127, 3) := by decide +kernel
theorem dL_law_918 : decode cL_law 918 = .ok (.if_icmp .eq 276, 3) := by decide +kernel
theorem dL_law_921 : decode cL_law 921 = .ok (.iconst 0, 1) := by decide +kernel
theorem dL_law_922 : decode cL_law 922 = .ok (.ireturn, 1) := by decide +kernel
theorem dL_law_923 : decode cL_law 923 = .ok (.aload_n 1, 1) := by decide +kernel
theorem dL_law_924 : decode cL_law 924 = .ok (.aload_n 0, 1) := by decide +kernel
theorem dL_law_925 : decode cL_law 925 = .ok (.iload 4, 2) := by decide +kernel
theorem dL_law_927 : decode cL_law 927 = .ok (.iconst 1, 1) := by decide +kernel
theorem dL_law_928 : decode cL_law 928 = .ok (.iadd, 1) := by decide +kernel
theorem dL_law_929 : decode cL_law 929 = .ok (.iaload, 1) := by decide +kernel
theorem dL_law_930 : decode cL_law 930 = .ok (.aload_n 0, 1) := by decide +kernel
theorem dL_law_931 : decode cL_law 931 = .ok (.iload 4, 2) := by decide +kernel
theorem dL_law_933 : decode cL_law 933 = .ok (.iconst 2, 1) := by decide +kernel
theorem dL_law_934 : decode cL_law 934 = .ok (.iadd, 1) := by decide +kernel
theorem dL_law_935 : decode cL_law 935 = .ok (.iaload, 1) := by decide +kernel
theorem dL_law_936 : decode cL_law 936 = .ok (.aload_n 0, 1) := by decide +kernel
theorem dL_law_937 : decode cL_law 937 = .ok (.iload 4, 2) := by decide +kernel
theorem dL_law_939 : decode cL_law 939 = .ok (.iconst 3, 1) := by decide +kernel
theorem dL_law_940 : decode cL_law 940 = .ok (.iadd, 1) := by decide +kernel
theorem dL_law_941 : decode cL_law 941 = .ok (.iaload, 1) := by decide +kernel
theorem dL_law_942 : decode cL_law 942 = .ok (.aload_n 0, 1) := by decide +kernel
theorem dL_law_943 : decode cL_law 943 = .ok (.iload 4, 2) := by decide +kernel
theorem dL_law_945 : decode cL_law 945 = .ok (.iconst 4, 1) := by decide +kernel
theorem dL_law_946 : decode cL_law 946 = .ok (.iadd, 1) := by decide +kernel
theorem dL_law_947 : decode cL_law 947 = .ok (.iaload, 1) := by decide +kernel
theorem dL_law_948 : decode cL_law 948 = .ok (.aload_n 3, 1) := by decide +kernel
theorem dL_law_949 : decode cL_law 949 = .ok (.invokestatic 128, 3) := by decide +kernel
theorem dL_law_952 : decode cL_law 952 = .ok (.istore 5, 2) := by decide +kernel
theorem dL_law_954 : decode cL_law 954 = .ok (.aload_n 2, 1) := by decide +kernel
theorem dL_law_955 : decode cL_law 955 = .ok (.aload_n 0, 1) := by decide +kernel
theorem dL_law_956 : decode cL_law 956 = .ok (.iload 4, 2) := by decide +kernel
theorem dL_law_958 : decode cL_law 958 = .ok (.iconst 1, 1) := by decide +kernel
theorem dL_law_959 : decode cL_law 959 = .ok (.iadd, 1) := by decide +kernel
theorem dL_law_960 : decode cL_law 960 = .ok (.iaload, 1) := by decide +kernel
theorem dL_law_961 : decode cL_law 961 = .ok (.aload_n 0, 1) := by decide +kernel
theorem dL_law_962 : decode cL_law 962 = .ok (.iload 4, 2) := by decide +kernel
theorem dL_law_964 : decode cL_law 964 = .ok (.iconst 2, 1) := by decide +kernel
theorem dL_law_965 : decode cL_law 965 = .ok (.iadd, 1) := by decide +kernel
theorem dL_law_966 : decode cL_law 966 = .ok (.iaload, 1) := by decide +kernel
theorem dL_law_967 : decode cL_law 967 = .ok (.aload_n 0, 1) := by decide +kernel
theorem dL_law_968 : decode cL_law 968 = .ok (.iload 4, 2) := by decide +kernel
theorem dL_law_970 : decode cL_law 970 = .ok (.iconst 3, 1) := by decide +kernel
theorem dL_law_971 : decode cL_law 971 = .ok (.iadd, 1) := by decide +kernel
theorem dL_law_972 : decode cL_law 972 = .ok (.iaload, 1) := by decide +kernel
theorem dL_law_973 : decode cL_law 973 = .ok (.aload_n 0, 1) := by decide +kernel
theorem dL_law_974 : decode cL_law 974 = .ok (.iload 4, 2) := by decide +kernel
theorem dL_law_976 : decode cL_law 976 = .ok (.iconst 4, 1) := by decide +kernel
theorem dL_law_977 : decode cL_law 977 = .ok (.iadd, 1) := by decide +kernel
theorem dL_law_978 : decode cL_law 978 = .ok (.iaload, 1) := by decide +kernel
theorem dL_law_979 : decode cL_law 979 = .ok (.invokevirtual 131, 3) := by decide +kernel
theorem dL_law_982 : decode cL_law 982 = .ok (.istore 6, 2) := by decide +kernel
theorem dL_law_984 : decode cL_law 984 = .ok (.aload_n 2, 1) := by decide +kernel
theorem dL_law_985 : decode cL_law 985 = .ok (.invokevirtual 76, 3) := by decide +kernel
theorem dL_law_988 : decode cL_law 988 = .ok (.iload 5, 2) := by decide +kernel
theorem dL_law_990 : decode cL_law 990 = .ok (.if_icmp .eq 5, 3) := by decide +kernel
theorem dL_law_993 : decode cL_law 993 = .ok (.iconst 0, 1) := by decide +kernel
theorem dL_law_994 : decode cL_law 994 = .ok (.ireturn, 1) := by decide +kernel
theorem dL_law_995 : decode cL_law 995 = .ok (.iload 5, 2) := by decide +kernel
theorem dL_law_997 : decode cL_law 997 = .ok (.ifCond .ne 15, 3) := by decide +kernel
theorem dL_law_1000 : decode cL_law 1000 = .ok (.aload_n 3, 1) := by decide +kernel
theorem dL_law_1001 : decode cL_law 1001 = .ok (.iconst 0, 1) := by decide +kernel
theorem dL_law_1002 : decode cL_law 1002 = .ok (.laload, 1) := by decide +kernel
theorem dL_law_1003 : decode cL_law 1003 = .ok (.iload 6, 2) := by decide +kernel
theorem dL_law_1005 : decode cL_law 1005 = .ok (.i2l, 1) := by decide +kernel
theorem dL_law_1006 : decode cL_law 1006 = .ok (.lcmp, 1) := by decide +kernel
theorem dL_law_1007 : decode cL_law 1007 = .ok (.ifCond .eq 5, 3) := by decide +kernel
theorem dL_law_1010 : decode cL_law 1010 = .ok (.iconst 0, 1) := by decide +kernel
theorem dL_law_1011 : decode cL_law 1011 = .ok (.ireturn, 1) := by decide +kernel
theorem dL_law_1012 : decode cL_law 1012 = .ok (.goto 182, 3) := by decide +kernel
theorem dL_law_1015 : decode cL_law 1015 = .ok (.aload_n 1, 1) := by decide +kernel
theorem dL_law_1016 : decode cL_law 1016 = .ok (.aload_n 0, 1) := by decide +kernel
theorem dL_law_1017 : decode cL_law 1017 = .ok (.iload 4, 2) := by decide +kernel
theorem dL_law_1019 : decode cL_law 1019 = .ok (.iconst 1, 1) := by decide +kernel
theorem dL_law_1020 : decode cL_law 1020 = .ok (.iadd, 1) := by decide +kernel
theorem dL_law_1021 : decode cL_law 1021 = .ok (.iaload, 1) := by decide +kernel
theorem dL_law_1022 : decode cL_law 1022 = .ok (.aload_n 0, 1) := by decide +kernel
theorem dL_law_1023 : decode cL_law 1023 = .ok (.iload 4, 2) := by decide +kernel
theorem dL_law_1025 : decode cL_law 1025 = .ok (.iconst 2, 1) := by decide +kernel
theorem dL_law_1026 : decode cL_law 1026 = .ok (.iadd, 1) := by decide +kernel
theorem dL_law_1027 : decode cL_law 1027 = .ok (.iaload, 1) := by decide +kernel
theorem dL_law_1028 : decode cL_law 1028 = .ok (.aload_n 3, 1) := by decide +kernel
theorem dL_law_1029 : decode cL_law 1029 = .ok (.invokestatic 132, 3) := by decide +kernel
theorem dL_law_1032 : decode cL_law 1032 = .ok (.istore 5, 2) := by decide +kernel
theorem dL_law_1034 : decode cL_law 1034 = .ok (.aload_n 2, 1) := by decide +kernel
theorem dL_law_1035 : decode cL_law 1035 = .ok (.aload_n 0, 1) := by decide +kernel
theorem dL_law_1036 : decode cL_law 1036 = .ok (.iload 4, 2) := by decide +kernel
theorem dL_law_1038 : decode cL_law 1038 = .ok (.iconst 1, 1) := by decide +kernel
theorem dL_law_1039 : decode cL_law 1039 = .ok (.iadd, 1) := by decide +kernel
theorem dL_law_1040 : decode cL_law 1040 = .ok (.iaload, 1) := by decide +kernel
theorem dL_law_1041 : decode cL_law 1041 = .ok (.aload_n 0, 1) := by decide +kernel
theorem dL_law_1042 : decode cL_law 1042 = .ok (.iload 4, 2) := by decide +kernel
theorem dL_law_1044 : decode cL_law 1044 = .ok (.iconst 2, 1) := by decide +kernel
theorem dL_law_1045 : decode cL_law 1045 = .ok (.iadd, 1) := by decide +kernel
theorem dL_law_1046 : decode cL_law 1046 = .ok (.iaload, 1) := by decide +kernel
theorem dL_law_1047 : decode cL_law 1047 = .ok (.invokevirtual 134, 3) := by decide +kernel
theorem dL_law_1050 : decode cL_law 1050 = .ok (.istore 6, 2) := by decide +kernel
theorem dL_law_1052 : decode cL_law 1052 = .ok (.aload_n 2, 1) := by decide +kernel
theorem dL_law_1053 : decode cL_law 1053 = .ok (.invokevirtual 76, 3) := by decide +kernel
theorem dL_law_1056 : decode cL_law 1056 = .ok (.iload 5, 2) := by decide +kernel
theorem dL_law_1058 : decode cL_law 1058 = .ok (.if_icmp .eq 5, 3) := by decide +kernel
theorem dL_law_1061 : decode cL_law 1061 = .ok (.iconst 0, 1) := by decide +kernel
theorem dL_law_1062 : decode cL_law 1062 = .ok (.ireturn, 1) := by decide +kernel
theorem dL_law_1063 : decode cL_law 1063 = .ok (.iload 5, 2) := by decide +kernel
theorem dL_law_1065 : decode cL_law 1065 = .ok (.ifCond .ne 15, 3) := by decide +kernel
theorem dL_law_1068 : decode cL_law 1068 = .ok (.aload_n 3, 1) := by decide +kernel
theorem dL_law_1069 : decode cL_law 1069 = .ok (.iconst 0, 1) := by decide +kernel
theorem dL_law_1070 : decode cL_law 1070 = .ok (.laload, 1) := by decide +kernel
theorem dL_law_1071 : decode cL_law 1071 = .ok (.iload 6, 2) := by decide +kernel
theorem dL_law_1073 : decode cL_law 1073 = .ok (.i2l, 1) := by decide +kernel
theorem dL_law_1074 : decode cL_law 1074 = .ok (.lcmp, 1) := by decide +kernel
theorem dL_law_1075 : decode cL_law 1075 = .ok (.ifCond .eq 5, 3) := by decide +kernel
theorem dL_law_1078 : decode cL_law 1078 = .ok (.iconst 0, 1) := by decide +kernel
theorem dL_law_1079 : decode cL_law 1079 = .ok (.ireturn, 1) := by decide +kernel
theorem dL_law_1080 : decode cL_law 1080 = .ok (.goto 114, 3) := by decide +kernel
theorem dL_law_1083 : decode cL_law 1083 = .ok (.aload_n 1, 1) := by decide +kernel
theorem dL_law_1084 : decode cL_law 1084 = .ok (.aload_n 0, 1) := by decide +kernel
theorem dL_law_1085 : decode cL_law 1085 = .ok (.iload 4, 2) := by decide +kernel
theorem dL_law_1087 : decode cL_law 1087 = .ok (.iconst 1, 1) := by decide +kernel
theorem dL_law_1088 : decode cL_law 1088 = .ok (.iadd, 1) := by decide +kernel
theorem dL_law_1089 : decode cL_law 1089 = .ok (.iaload, 1) := by decide +kernel
theorem dL_law_1090 : decode cL_law 1090 = .ok (.aload_n 3, 1) := by decide +kernel
theorem dL_law_1091 : decode cL_law 1091 = .ok (.invokestatic 135, 3) := by decide +kernel
theorem dL_law_1094 : decode cL_law 1094 = .ok (.istore 5, 2) := by decide +kernel
theorem dL_law_1096 : decode cL_law 1096 = .ok (.aload_n 2, 1) := by decide +kernel
theorem dL_law_1097 : decode cL_law 1097 = .ok (.aload_n 0, 1) := by decide +kernel
theorem dL_law_1098 : decode cL_law 1098 = .ok (.iload 4, 2) := by decide +kernel
theorem dL_law_1100 : decode cL_law 1100 = .ok (.iconst 1, 1) := by decide +kernel
theorem dL_law_1101 : decode cL_law 1101 = .ok (.iadd, 1) := by decide +kernel
theorem dL_law_1102 : decode cL_law 1102 = .ok (.iaload, 1) := by decide +kernel
theorem dL_law_1103 : decode cL_law 1103 = .ok (.invokevirtual 137, 3) := by decide +kernel
theorem dL_law_1106 : decode cL_law 1106 = .ok (.istore 6, 2) := by decide +kernel
theorem dL_law_1108 : decode cL_law 1108 = .ok (.aload_n 2, 1) := by decide +kernel
theorem dL_law_1109 : decode cL_law 1109 = .ok (.invokevirtual 76, 3) := by decide +kernel
theorem dL_law_1112 : decode cL_law 1112 = .ok (.iload 5, 2) := by decide +kernel
theorem dL_law_1114 : decode cL_law 1114 = .ok (.if_icmp .eq 5, 3) := by decide +kernel
theorem dL_law_1117 : decode cL_law 1117 = .ok (.iconst 0, 1) := by decide +kernel
theorem dL_law_1118 : decode cL_law 1118 = .ok (.ireturn, 1) := by decide +kernel
theorem dL_law_1119 : decode cL_law 1119 = .ok (.iload 5, 2) := by decide +kernel
theorem dL_law_1121 : decode cL_law 1121 = .ok (.ifCond .ne 15, 3) := by decide +kernel
theorem dL_law_1124 : decode cL_law 1124 = .ok (.aload_n 3, 1) := by decide +kernel
theorem dL_law_1125 : decode cL_law 1125 = .ok (.iconst 0, 1) := by decide +kernel
theorem dL_law_1126 : decode cL_law 1126 = .ok (.laload, 1) := by decide +kernel
theorem dL_law_1127 : decode cL_law 1127 = .ok (.iload 6, 2) := by decide +kernel
theorem dL_law_1129 : decode cL_law 1129 = .ok (.i2l, 1) := by decide +kernel
theorem dL_law_1130 : decode cL_law 1130 = .ok (.lcmp, 1) := by decide +kernel
theorem dL_law_1131 : decode cL_law 1131 = .ok (.ifCond .eq 5, 3) := by decide +kernel
theorem dL_law_1134 : decode cL_law 1134 = .ok (.iconst 0, 1) := by decide +kernel
theorem dL_law_1135 : decode cL_law 1135 = .ok (.ireturn, 1) := by decide +kernel
theorem dL_law_1136 : decode cL_law 1136 = .ok (.goto 58, 3) := by decide +kernel
theorem dL_law_1139 : decode cL_law 1139 = .ok (.aload_n 1, 1) := by decide +kernel
theorem dL_law_1140 : decode cL_law 1140 = .ok (.invokevirtual 138, 3) := by decide +kernel
theorem dL_law_1143 : decode cL_law 1143 = .ok (.dstore 5, 2) := by decide +kernel
theorem dL_law_1145 : decode cL_law 1145 = .ok (.aload_n 2, 1) := by decide +kernel
theorem dL_law_1146 : decode cL_law 1146 = .ok (.invokevirtual 142, 3) := by decide +kernel
theorem dL_law_1149 : decode cL_law 1149 = .ok (.dstore 7, 2) := by decide +kernel
theorem dL_law_1151 : decode cL_law 1151 = .ok (.dload 5, 2) := by decide +kernel
theorem dL_law_1153 : decode cL_law 1153 = .ok (.dload 7, 2) := by decide +kernel
theorem dL_law_1155 : decode cL_law 1155 = .ok (.dcmp .l, 1) := by decide +kernel
theorem dL_law_1156 : decode cL_law 1156 = .ok (.ifCond .eq 21, 3) := by decide +kernel
theorem dL_law_1159 : decode cL_law 1159 = .ok (.dload 5, 2) := by decide +kernel
theorem dL_law_1161 : decode cL_law 1161 = .ok (.dload 5, 2) := by decide +kernel
theorem dL_law_1163 : decode cL_law 1163 = .ok (.dcmp .l, 1) := by decide +kernel
theorem dL_law_1164 : decode cL_law 1164 = .ok (.ifCond .eq 11, 3) := by decide +kernel
theorem dL_law_1167 : decode cL_law 1167 = .ok (.dload 7, 2) := by decide +kernel
theorem dL_law_1169 : decode cL_law 1169 = .ok (.dload 7, 2) := by decide +kernel
theorem dL_law_1171 : decode cL_law 1171 = .ok (.dcmp .l, 1) := by decide +kernel
theorem dL_law_1172 : decode cL_law 1172 = .ok (.ifCond .ne 5, 3) := by decide +kernel
theorem dL_law_1175 : decode cL_law 1175 = .ok (.iconst 0, 1) := by decide +kernel
theorem dL_law_1176 : decode cL_law 1176 = .ok (.ireturn, 1) := by decide +kernel
theorem dL_law_1177 : decode cL_law 1177 = .ok (.goto 17, 3) := by decide +kernel
theorem dL_law_1180 : decode cL_law 1180 = .ok (.aload_n 1, 1) := by decide +kernel
theorem dL_law_1181 : decode cL_law 1181 = .ok (.invokevirtual 143, 3) := by decide +kernel
theorem dL_law_1184 : decode cL_law 1184 = .ok (.aload_n 2, 1) := by decide +kernel
theorem dL_law_1185 : decode cL_law 1185 = .ok (.invokevirtual 147, 3) := by decide +kernel
theorem dL_law_1188 : decode cL_law 1188 = .ok (.lcmp, 1) := by decide +kernel
theorem dL_law_1189 : decode cL_law 1189 = .ok (.ifCond .eq 5, 3) := by decide +kernel
theorem dL_law_1192 : decode cL_law 1192 = .ok (.iconst 0, 1) := by decide +kernel
theorem dL_law_1193 : decode cL_law 1193 = .ok (.ireturn, 1) := by decide +kernel
theorem dL_law_1194 : decode cL_law 1194 = .ok (.iinc 4 6, 3) := by decide +kernel
theorem dL_law_1197 : decode cL_law 1197 = .ok (.goto (-1174), 3) := by decide +kernel
theorem dL_law_1200 : decode cL_law 1200 = .ok (.iconst 1, 1) := by decide +kernel
theorem dL_law_1201 : decode cL_law 1201 = .ok (.ireturn, 1) := by decide +kernel
end
