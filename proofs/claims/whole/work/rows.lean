section
-- ===== PART A: goes FIRST, ahead of the names: the tables' words, and 'selects' of the private methods out of them =====
/-- a private method of a class that the tables say can be made, by its rows of tables_1 -/
def lw_okq (q : MethodName × Nat) : Prop := (q.1.cls ≠ "java/lang/invoke/MethodHandle" ∧ q.1.cls ≠ "java/lang/invoke/VarHandle") ∧ Cond.instantiable q.1.cls q.2 ∈ tables_1 ∧ Cond.privateMethod q.1 ∈ tables_1 ∧ Cond.instanceMethod q.1 ∈ tables_1
theorem lw_p0 : lw_okq (⟨"EntryTree$Layout", "orderEntries", "(LEntryTree$Tree;)V"⟩, 19) := ⟨⟨by decide +kernel, by decide +kernel⟩, List.mem_of_getElem? (i := 72) (by decide +kernel), List.mem_of_getElem? (i := 418) (by decide +kernel), List.mem_of_getElem? (i := 419) (by decide +kernel)⟩
theorem lw_p1 : lw_okq (⟨"EntryTree$Layout", "climb", "(LEntryTree$Tree;I)I"⟩, 19) := ⟨⟨by decide +kernel, by decide +kernel⟩, List.mem_of_getElem? (i := 72) (by decide +kernel), List.mem_of_getElem? (i := 422) (by decide +kernel), List.mem_of_getElem? (i := 423) (by decide +kernel)⟩
theorem lw_p2 : lw_okq (⟨"EntryTree$Layout", "numberShapes", "(LEntryTree$Tree;)V"⟩, 19) := ⟨⟨by decide +kernel, by decide +kernel⟩, List.mem_of_getElem? (i := 72) (by decide +kernel), List.mem_of_getElem? (i := 426) (by decide +kernel), List.mem_of_getElem? (i := 427) (by decide +kernel)⟩
theorem lw_p3 : lw_okq (⟨"EntryTree$Layout", "knownShape", "(LEntryTree$Tree;II)I"⟩, 19) := ⟨⟨by decide +kernel, by decide +kernel⟩, List.mem_of_getElem? (i := 72) (by decide +kernel), List.mem_of_getElem? (i := 443) (by decide +kernel), List.mem_of_getElem? (i := 444) (by decide +kernel)⟩
theorem lw_p4 : lw_okq (⟨"EntryTree$Layout", "placeTexts", "(LEntryTree$Tree;LEntryTree$Store;)V"⟩, 19) := ⟨⟨by decide +kernel, by decide +kernel⟩, List.mem_of_getElem? (i := 72) (by decide +kernel), List.mem_of_getElem? (i := 471) (by decide +kernel), List.mem_of_getElem? (i := 472) (by decide +kernel)⟩
theorem lw_p5 : lw_okq (⟨"EntryTree$Layout", "placeText", "(LEntryTree$Tree;LEntryTree$Store;I)V"⟩, 19) := ⟨⟨by decide +kernel, by decide +kernel⟩, List.mem_of_getElem? (i := 72) (by decide +kernel), List.mem_of_getElem? (i := 475) (by decide +kernel), List.mem_of_getElem? (i := 476) (by decide +kernel)⟩
theorem lw_p6 : lw_okq (⟨"EntryTree$Layout", "knownText", "(LEntryTree$Tree;LEntryTree$Store;II)I"⟩, 19) := ⟨⟨by decide +kernel, by decide +kernel⟩, List.mem_of_getElem? (i := 72) (by decide +kernel), List.mem_of_getElem? (i := 491) (by decide +kernel), List.mem_of_getElem? (i := 492) (by decide +kernel)⟩
theorem lw_p7 : lw_okq (⟨"EntryTree$Layout", "placeEntries", "(LEntryTree$Tree;)V"⟩, 19) := ⟨⟨by decide +kernel, by decide +kernel⟩, List.mem_of_getElem? (i := 72) (by decide +kernel), List.mem_of_getElem? (i := 499) (by decide +kernel), List.mem_of_getElem? (i := 500) (by decide +kernel)⟩
theorem lw_p8 : lw_okq (⟨"EntryTree$Layout", "moveEntries", "(LEntryTree$Tree;I)Z"⟩, 19) := ⟨⟨by decide +kernel, by decide +kernel⟩, List.mem_of_getElem? (i := 72) (by decide +kernel), List.mem_of_getElem? (i := 514) (by decide +kernel), List.mem_of_getElem? (i := 515) (by decide +kernel)⟩
theorem lw_p9 : lw_okq (⟨"EntryTree$Layout", "referenceRowBytes", "(LEntryTree$Tree;I)I"⟩, 19) := ⟨⟨by decide +kernel, by decide +kernel⟩, List.mem_of_getElem? (i := 72) (by decide +kernel), List.mem_of_getElem? (i := 518) (by decide +kernel), List.mem_of_getElem? (i := 519) (by decide +kernel)⟩
theorem lw_p10 : lw_okq (⟨"EntryTree$Store", "addSevens", "(JI)V"⟩, 2) := ⟨⟨by decide +kernel, by decide +kernel⟩, List.mem_of_getElem? (i := 31) (by decide +kernel), List.mem_of_getElem? (i := 544) (by decide +kernel), List.mem_of_getElem? (i := 545) (by decide +kernel)⟩
theorem lw_p11 : lw_okq (⟨"java/lang/Throwable", "fillInStackTrace", "(I)Ljava/lang/Throwable;"⟩, 6) := ⟨⟨by decide +kernel, by decide +kernel⟩, List.mem_of_getElem? (i := 640) (by decide +kernel), List.mem_of_getElem? (i := 638) (by decide +kernel), List.mem_of_getElem? (i := 639) (by decide +kernel)⟩
theorem lw_p12 : lw_okq (⟨"EntryTree$Reader", "readHeader", "(LEntryTree$Sections;I)I"⟩, 7) := ⟨⟨by decide +kernel, by decide +kernel⟩, List.mem_of_getElem? (i := 168) (by decide +kernel), List.mem_of_getElem? (i := 669) (by decide +kernel), List.mem_of_getElem? (i := 670) (by decide +kernel)⟩
theorem lw_p13 : lw_okq (⟨"EntryTree$Reader", "readTable", "(LEntryTree$Sections;I)V"⟩, 7) := ⟨⟨by decide +kernel, by decide +kernel⟩, List.mem_of_getElem? (i := 168) (by decide +kernel), List.mem_of_getElem? (i := 681) (by decide +kernel), List.mem_of_getElem? (i := 682) (by decide +kernel)⟩
theorem lw_p14 : lw_okq (⟨"EntryTree$Table", "readShape", "(LEntryTree$Cursor;I)V"⟩, 8) := ⟨⟨by decide +kernel, by decide +kernel⟩, List.mem_of_getElem? (i := 310) (by decide +kernel), List.mem_of_getElem? (i := 707) (by decide +kernel), List.mem_of_getElem? (i := 708) (by decide +kernel)⟩
theorem lw_p15 : lw_okq (⟨"EntryTree$Table", "readAttribute", "(LEntryTree$Cursor;I)Z"⟩, 8) := ⟨⟨by decide +kernel, by decide +kernel⟩, List.mem_of_getElem? (i := 310) (by decide +kernel), List.mem_of_getElem? (i := 715) (by decide +kernel), List.mem_of_getElem? (i := 716) (by decide +kernel)⟩
def lw_privs_1 : List (MethodName × Nat) := [(⟨"EntryTree$Layout", "orderEntries", "(LEntryTree$Tree;)V"⟩, 19), (⟨"EntryTree$Layout", "climb", "(LEntryTree$Tree;I)I"⟩, 19), (⟨"EntryTree$Layout", "numberShapes", "(LEntryTree$Tree;)V"⟩, 19), (⟨"EntryTree$Layout", "knownShape", "(LEntryTree$Tree;II)I"⟩, 19), (⟨"EntryTree$Layout", "placeTexts", "(LEntryTree$Tree;LEntryTree$Store;)V"⟩, 19), (⟨"EntryTree$Layout", "placeText", "(LEntryTree$Tree;LEntryTree$Store;I)V"⟩, 19), (⟨"EntryTree$Layout", "knownText", "(LEntryTree$Tree;LEntryTree$Store;II)I"⟩, 19), (⟨"EntryTree$Layout", "placeEntries", "(LEntryTree$Tree;)V"⟩, 19), (⟨"EntryTree$Layout", "moveEntries", "(LEntryTree$Tree;I)Z"⟩, 19), (⟨"EntryTree$Layout", "referenceRowBytes", "(LEntryTree$Tree;I)I"⟩, 19), (⟨"EntryTree$Store", "addSevens", "(JI)V"⟩, 2), (⟨"java/lang/Throwable", "fillInStackTrace", "(I)Ljava/lang/Throwable;"⟩, 6), (⟨"EntryTree$Reader", "readHeader", "(LEntryTree$Sections;I)I"⟩, 7), (⟨"EntryTree$Reader", "readTable", "(LEntryTree$Sections;I)V"⟩, 7), (⟨"EntryTree$Table", "readShape", "(LEntryTree$Cursor;I)V"⟩, 8), (⟨"EntryTree$Table", "readAttribute", "(LEntryTree$Cursor;I)Z"⟩, 8)]
theorem lw_r1 : ∀ q ∈ lw_privs_1, lw_okq q := List.forall_mem_cons.mpr ⟨lw_p0, List.forall_mem_cons.mpr ⟨lw_p1, List.forall_mem_cons.mpr ⟨lw_p2, List.forall_mem_cons.mpr ⟨lw_p3, List.forall_mem_cons.mpr ⟨lw_p4, List.forall_mem_cons.mpr ⟨lw_p5, List.forall_mem_cons.mpr ⟨lw_p6, List.forall_mem_cons.mpr ⟨lw_p7, List.forall_mem_cons.mpr ⟨lw_p8, List.forall_mem_cons.mpr ⟨lw_p9, List.forall_mem_cons.mpr ⟨lw_p10, List.forall_mem_cons.mpr ⟨lw_p11, List.forall_mem_cons.mpr ⟨lw_p12, List.forall_mem_cons.mpr ⟨lw_p13, List.forall_mem_cons.mpr ⟨lw_p14, List.forall_mem_cons.mpr ⟨lw_p15, fun _ h => absurd h List.not_mem_nil⟩⟩⟩⟩⟩⟩⟩⟩⟩⟩⟩⟩⟩⟩⟩⟩
theorem lw_p16 : lw_okq (⟨"EntryTree$Table", "mayFollow", "(II)Z"⟩, 8) := ⟨⟨by decide +kernel, by decide +kernel⟩, List.mem_of_getElem? (i := 310) (by decide +kernel), List.mem_of_getElem? (i := 719) (by decide +kernel), List.mem_of_getElem? (i := 720) (by decide +kernel)⟩
theorem lw_p17 : lw_okq (⟨"EntryTree$Reader", "readEntries", "(LEntryTree$Sections;I)V"⟩, 7) := ⟨⟨by decide +kernel, by decide +kernel⟩, List.mem_of_getElem? (i := 168) (by decide +kernel), List.mem_of_getElem? (i := 740) (by decide +kernel), List.mem_of_getElem? (i := 741) (by decide +kernel)⟩
theorem lw_p18 : lw_okq (⟨"EntryTree$Reader", "readEntry", "(LEntryTree$Sections;III)I"⟩, 7) := ⟨⟨by decide +kernel, by decide +kernel⟩, List.mem_of_getElem? (i := 168) (by decide +kernel), List.mem_of_getElem? (i := 746) (by decide +kernel), List.mem_of_getElem? (i := 747) (by decide +kernel)⟩
theorem lw_p19 : lw_okq (⟨"EntryTree$Tree", "addEntry", "(I)I"⟩, 16) := ⟨⟨by decide +kernel, by decide +kernel⟩, List.mem_of_getElem? (i := 174) (by decide +kernel), List.mem_of_getElem? (i := 754) (by decide +kernel), List.mem_of_getElem? (i := 755) (by decide +kernel)⟩
theorem lw_p20 : lw_okq (⟨"EntryTree$Reader", "readLetters", "(LEntryTree$Sections;III)V"⟩, 7) := ⟨⟨by decide +kernel, by decide +kernel⟩, List.mem_of_getElem? (i := 168) (by decide +kernel), List.mem_of_getElem? (i := 764) (by decide +kernel), List.mem_of_getElem? (i := 765) (by decide +kernel)⟩
theorem lw_p21 : lw_okq (⟨"EntryTree$Reader", "readNumber", "(III)V"⟩, 7) := ⟨⟨by decide +kernel, by decide +kernel⟩, List.mem_of_getElem? (i := 168) (by decide +kernel), List.mem_of_getElem? (i := 789) (by decide +kernel), List.mem_of_getElem? (i := 790) (by decide +kernel)⟩
theorem lw_p22 : lw_okq (⟨"EntryTree$Reader", "resolveReferences", "(I)V"⟩, 7) := ⟨⟨by decide +kernel, by decide +kernel⟩, List.mem_of_getElem? (i := 168) (by decide +kernel), List.mem_of_getElem? (i := 795) (by decide +kernel), List.mem_of_getElem? (i := 796) (by decide +kernel)⟩
theorem lw_p23 : lw_okq (⟨"EntryTree$Reader", "entryAt", "(IJ)I"⟩, 7) := ⟨⟨by decide +kernel, by decide +kernel⟩, List.mem_of_getElem? (i := 168) (by decide +kernel), List.mem_of_getElem? (i := 800) (by decide +kernel), List.mem_of_getElem? (i := 801) (by decide +kernel)⟩
theorem lw_p24 : lw_okq (⟨"EntryTree", "keepLetters", "()V"⟩, 6) := ⟨⟨by decide +kernel, by decide +kernel⟩, List.mem_of_getElem? (i := 23) (by decide +kernel), List.mem_of_getElem? (i := 804) (by decide +kernel), List.mem_of_getElem? (i := 805) (by decide +kernel)⟩
theorem lw_p25 : lw_okq (⟨"EntryTree", "coversAddress", "(IJ)Z"⟩, 6) := ⟨⟨by decide +kernel, by decide +kernel⟩, List.mem_of_getElem? (i := 23) (by decide +kernel), List.mem_of_getElem? (i := 816) (by decide +kernel), List.mem_of_getElem? (i := 817) (by decide +kernel)⟩
theorem lw_p26 : lw_okq (⟨"EntryTree", "needCode", "(I)V"⟩, 6) := ⟨⟨by decide +kernel, by decide +kernel⟩, List.mem_of_getElem? (i := 23) (by decide +kernel), List.mem_of_getElem? (i := 879) (by decide +kernel), List.mem_of_getElem? (i := 880) (by decide +kernel)⟩
theorem lw_p27 : lw_okq (⟨"EntryTree", "needEntry", "(I)V"⟩, 6) := ⟨⟨by decide +kernel, by decide +kernel⟩, List.mem_of_getElem? (i := 23) (by decide +kernel), List.mem_of_getElem? (i := 910) (by decide +kernel), List.mem_of_getElem? (i := 911) (by decide +kernel)⟩
theorem lw_p28 : lw_okq (⟨"EntryTree", "needNewName", "(II)V"⟩, 6) := ⟨⟨by decide +kernel, by decide +kernel⟩, List.mem_of_getElem? (i := 23) (by decide +kernel), List.mem_of_getElem? (i := 939) (by decide +kernel), List.mem_of_getElem? (i := 940) (by decide +kernel)⟩
theorem lw_p29 : lw_okq (⟨"EntryTree", "needRoom", "(II)V"⟩, 6) := ⟨⟨by decide +kernel, by decide +kernel⟩, List.mem_of_getElem? (i := 23) (by decide +kernel), List.mem_of_getElem? (i := 951) (by decide +kernel), List.mem_of_getElem? (i := 952) (by decide +kernel)⟩
theorem lw_p30 : lw_okq (⟨"EntryTree", "needLetters", "(I)V"⟩, 6) := ⟨⟨by decide +kernel, by decide +kernel⟩, List.mem_of_getElem? (i := 23) (by decide +kernel), List.mem_of_getElem? (i := 964) (by decide +kernel), List.mem_of_getElem? (i := 965) (by decide +kernel)⟩
theorem lw_p31 : lw_okq (⟨"EntryTree", "needSection", "(I)V"⟩, 6) := ⟨⟨by decide +kernel, by decide +kernel⟩, List.mem_of_getElem? (i := 23) (by decide +kernel), List.mem_of_getElem? (i := 988) (by decide +kernel), List.mem_of_getElem? (i := 989) (by decide +kernel)⟩
def lw_privs_2 : List (MethodName × Nat) := [(⟨"EntryTree$Table", "mayFollow", "(II)Z"⟩, 8), (⟨"EntryTree$Reader", "readEntries", "(LEntryTree$Sections;I)V"⟩, 7), (⟨"EntryTree$Reader", "readEntry", "(LEntryTree$Sections;III)I"⟩, 7), (⟨"EntryTree$Tree", "addEntry", "(I)I"⟩, 16), (⟨"EntryTree$Reader", "readLetters", "(LEntryTree$Sections;III)V"⟩, 7), (⟨"EntryTree$Reader", "readNumber", "(III)V"⟩, 7), (⟨"EntryTree$Reader", "resolveReferences", "(I)V"⟩, 7), (⟨"EntryTree$Reader", "entryAt", "(IJ)I"⟩, 7), (⟨"EntryTree", "keepLetters", "()V"⟩, 6), (⟨"EntryTree", "coversAddress", "(IJ)Z"⟩, 6), (⟨"EntryTree", "needCode", "(I)V"⟩, 6), (⟨"EntryTree", "needEntry", "(I)V"⟩, 6), (⟨"EntryTree", "needNewName", "(II)V"⟩, 6), (⟨"EntryTree", "needRoom", "(II)V"⟩, 6), (⟨"EntryTree", "needLetters", "(I)V"⟩, 6), (⟨"EntryTree", "needSection", "(I)V"⟩, 6)]
theorem lw_r2 : ∀ q ∈ lw_privs_2, lw_okq q := List.forall_mem_cons.mpr ⟨lw_p16, List.forall_mem_cons.mpr ⟨lw_p17, List.forall_mem_cons.mpr ⟨lw_p18, List.forall_mem_cons.mpr ⟨lw_p19, List.forall_mem_cons.mpr ⟨lw_p20, List.forall_mem_cons.mpr ⟨lw_p21, List.forall_mem_cons.mpr ⟨lw_p22, List.forall_mem_cons.mpr ⟨lw_p23, List.forall_mem_cons.mpr ⟨lw_p24, List.forall_mem_cons.mpr ⟨lw_p25, List.forall_mem_cons.mpr ⟨lw_p26, List.forall_mem_cons.mpr ⟨lw_p27, List.forall_mem_cons.mpr ⟨lw_p28, List.forall_mem_cons.mpr ⟨lw_p29, List.forall_mem_cons.mpr ⟨lw_p30, List.forall_mem_cons.mpr ⟨lw_p31, fun _ h => absurd h List.not_mem_nil⟩⟩⟩⟩⟩⟩⟩⟩⟩⟩⟩⟩⟩⟩⟩⟩
theorem lw_p32 : lw_okq (⟨"EntryTree", "needByte", "(II)V"⟩, 6) := ⟨⟨by decide +kernel, by decide +kernel⟩, List.mem_of_getElem? (i := 23) (by decide +kernel), List.mem_of_getElem? (i := 1001) (by decide +kernel), List.mem_of_getElem? (i := 1002) (by decide +kernel)⟩
theorem lw_p33 : lw_okq (⟨"EntryTree", "neededSlot", "(II)I"⟩, 6) := ⟨⟨by decide +kernel, by decide +kernel⟩, List.mem_of_getElem? (i := 23) (by decide +kernel), List.mem_of_getElem? (i := 1080) (by decide +kernel), List.mem_of_getElem? (i := 1081) (by decide +kernel)⟩
theorem lw_p34 : lw_okq (⟨"EntryTree", "rootNamedByTape", "()I"⟩, 6) := ⟨⟨by decide +kernel, by decide +kernel⟩, List.mem_of_getElem? (i := 23) (by decide +kernel), List.mem_of_getElem? (i := 1108) (by decide +kernel), List.mem_of_getElem? (i := 1109) (by decide +kernel)⟩
theorem lw_p35 : lw_okq (⟨"EntryTree", "isNamedByTape", "(I)Z"⟩, 6) := ⟨⟨by decide +kernel, by decide +kernel⟩, List.mem_of_getElem? (i := 23) (by decide +kernel), List.mem_of_getElem? (i := 1112) (by decide +kernel), List.mem_of_getElem? (i := 1113) (by decide +kernel)⟩
theorem lw_p36 : lw_okq (⟨"EntryTree", "childNamedByTape", "(I)I"⟩, 6) := ⟨⟨by decide +kernel, by decide +kernel⟩, List.mem_of_getElem? (i := 23) (by decide +kernel), List.mem_of_getElem? (i := 1117) (by decide +kernel), List.mem_of_getElem? (i := 1118) (by decide +kernel)⟩
theorem lw_p37 : lw_okq (⟨"EntryTreeModel", "goes", "(Z)Z"⟩, 55) := ⟨⟨by decide +kernel, by decide +kernel⟩, List.mem_of_getElem? (i := 1121) (by decide +kernel), List.mem_of_getElem? (i := 1303) (by decide +kernel), List.mem_of_getElem? (i := 1304) (by decide +kernel)⟩
theorem lw_p38 : lw_okq (⟨"EntryTreeModel", "make", "(III)I"⟩, 55) := ⟨⟨by decide +kernel, by decide +kernel⟩, List.mem_of_getElem? (i := 1121) (by decide +kernel), List.mem_of_getElem? (i := 1322) (by decide +kernel), List.mem_of_getElem? (i := 1323) (by decide +kernel)⟩
theorem lw_p39 : lw_okq (⟨"EntryTreeModel", "at", "(I)I"⟩, 55) := ⟨⟨by decide +kernel, by decide +kernel⟩, List.mem_of_getElem? (i := 1121) (by decide +kernel), List.mem_of_getElem? (i := 1326) (by decide +kernel), List.mem_of_getElem? (i := 1327) (by decide +kernel)⟩
theorem lw_p40 : lw_okq (⟨"EntryTreeModel", "isEntry", "(I)Z"⟩, 55) := ⟨⟨by decide +kernel, by decide +kernel⟩, List.mem_of_getElem? (i := 1121) (by decide +kernel), List.mem_of_getElem? (i := 1334) (by decide +kernel), List.mem_of_getElem? (i := 1335) (by decide +kernel)⟩
theorem lw_p41 : lw_okq (⟨"EntryTreeModel", "depth", "(I)I"⟩, 55) := ⟨⟨by decide +kernel, by decide +kernel⟩, List.mem_of_getElem? (i := 1121) (by decide +kernel), List.mem_of_getElem? (i := 1338) (by decide +kernel), List.mem_of_getElem? (i := 1339) (by decide +kernel)⟩
theorem lw_p42 : lw_okq (⟨"EntryTreeModel", "isTold", "(II)Z"⟩, 55) := ⟨⟨by decide +kernel, by decide +kernel⟩, List.mem_of_getElem? (i := 1121) (by decide +kernel), List.mem_of_getElem? (i := 1355) (by decide +kernel), List.mem_of_getElem? (i := 1356) (by decide +kernel)⟩
theorem lw_p43 : lw_okq (⟨"EntryTreeModel", "isFull", "(I)Z"⟩, 55) := ⟨⟨by decide +kernel, by decide +kernel⟩, List.mem_of_getElem? (i := 1121) (by decide +kernel), List.mem_of_getElem? (i := 1359) (by decide +kernel), List.mem_of_getElem? (i := 1360) (by decide +kernel)⟩
theorem lw_p44 : lw_okq (⟨"EntryTreeModel", "add", "(IIIJ)I"⟩, 55) := ⟨⟨by decide +kernel, by decide +kernel⟩, List.mem_of_getElem? (i := 1121) (by decide +kernel), List.mem_of_getElem? (i := 1363) (by decide +kernel), List.mem_of_getElem? (i := 1364) (by decide +kernel)⟩
theorem lw_p45 : lw_okq (⟨"EntryTreeModel", "areBytes", "(I)Z"⟩, 55) := ⟨⟨by decide +kernel, by decide +kernel⟩, List.mem_of_getElem? (i := 1121) (by decide +kernel), List.mem_of_getElem? (i := 1374) (by decide +kernel), List.mem_of_getElem? (i := 1375) (by decide +kernel)⟩
theorem lw_p46 : lw_okq (⟨"EntryTreeModel", "layOut", "()V"⟩, 55) := ⟨⟨by decide +kernel, by decide +kernel⟩, List.mem_of_getElem? (i := 1121) (by decide +kernel), List.mem_of_getElem? (i := 1394) (by decide +kernel), List.mem_of_getElem? (i := 1395) (by decide +kernel)⟩
theorem lw_p47 : lw_okq (⟨"EntryTreeModel", "goThrough", "()V"⟩, 55) := ⟨⟨by decide +kernel, by decide +kernel⟩, List.mem_of_getElem? (i := 1121) (by decide +kernel), List.mem_of_getElem? (i := 1398) (by decide +kernel), List.mem_of_getElem? (i := 1399) (by decide +kernel)⟩
def lw_privs_3 : List (MethodName × Nat) := [(⟨"EntryTree", "needByte", "(II)V"⟩, 6), (⟨"EntryTree", "neededSlot", "(II)I"⟩, 6), (⟨"EntryTree", "rootNamedByTape", "()I"⟩, 6), (⟨"EntryTree", "isNamedByTape", "(I)Z"⟩, 6), (⟨"EntryTree", "childNamedByTape", "(I)I"⟩, 6), (⟨"EntryTreeModel", "goes", "(Z)Z"⟩, 55), (⟨"EntryTreeModel", "make", "(III)I"⟩, 55), (⟨"EntryTreeModel", "at", "(I)I"⟩, 55), (⟨"EntryTreeModel", "isEntry", "(I)Z"⟩, 55), (⟨"EntryTreeModel", "depth", "(I)I"⟩, 55), (⟨"EntryTreeModel", "isTold", "(II)Z"⟩, 55), (⟨"EntryTreeModel", "isFull", "(I)Z"⟩, 55), (⟨"EntryTreeModel", "add", "(IIIJ)I"⟩, 55), (⟨"EntryTreeModel", "areBytes", "(I)Z"⟩, 55), (⟨"EntryTreeModel", "layOut", "()V"⟩, 55), (⟨"EntryTreeModel", "goThrough", "()V"⟩, 55)]
theorem lw_r3 : ∀ q ∈ lw_privs_3, lw_okq q := List.forall_mem_cons.mpr ⟨lw_p32, List.forall_mem_cons.mpr ⟨lw_p33, List.forall_mem_cons.mpr ⟨lw_p34, List.forall_mem_cons.mpr ⟨lw_p35, List.forall_mem_cons.mpr ⟨lw_p36, List.forall_mem_cons.mpr ⟨lw_p37, List.forall_mem_cons.mpr ⟨lw_p38, List.forall_mem_cons.mpr ⟨lw_p39, List.forall_mem_cons.mpr ⟨lw_p40, List.forall_mem_cons.mpr ⟨lw_p41, List.forall_mem_cons.mpr ⟨lw_p42, List.forall_mem_cons.mpr ⟨lw_p43, List.forall_mem_cons.mpr ⟨lw_p44, List.forall_mem_cons.mpr ⟨lw_p45, List.forall_mem_cons.mpr ⟨lw_p46, List.forall_mem_cons.mpr ⟨lw_p47, fun _ h => absurd h List.not_mem_nil⟩⟩⟩⟩⟩⟩⟩⟩⟩⟩⟩⟩⟩⟩⟩⟩
theorem lw_p48 : lw_okq (⟨"EntryTreeModel", "firstChild", "(I)I"⟩, 55) := ⟨⟨by decide +kernel, by decide +kernel⟩, List.mem_of_getElem? (i := 1121) (by decide +kernel), List.mem_of_getElem? (i := 1402) (by decide +kernel), List.mem_of_getElem? (i := 1403) (by decide +kernel)⟩
theorem lw_p49 : lw_okq (⟨"EntryTreeModel", "nextChild", "(I)I"⟩, 55) := ⟨⟨by decide +kernel, by decide +kernel⟩, List.mem_of_getElem? (i := 1121) (by decide +kernel), List.mem_of_getElem? (i := 1406) (by decide +kernel), List.mem_of_getElem? (i := 1407) (by decide +kernel)⟩
theorem lw_p50 : lw_okq (⟨"EntryTreeModel", "findShapes", "()V"⟩, 55) := ⟨⟨by decide +kernel, by decide +kernel⟩, List.mem_of_getElem? (i := 1121) (by decide +kernel), List.mem_of_getElem? (i := 1410) (by decide +kernel), List.mem_of_getElem? (i := 1411) (by decide +kernel)⟩
theorem lw_p51 : lw_okq (⟨"EntryTreeModel", "sameShape", "(II)Z"⟩, 55) := ⟨⟨by decide +kernel, by decide +kernel⟩, List.mem_of_getElem? (i := 1121) (by decide +kernel), List.mem_of_getElem? (i := 1414) (by decide +kernel), List.mem_of_getElem? (i := 1415) (by decide +kernel)⟩
theorem lw_p52 : lw_okq (⟨"EntryTreeModel", "findTexts", "()V"⟩, 55) := ⟨⟨by decide +kernel, by decide +kernel⟩, List.mem_of_getElem? (i := 1121) (by decide +kernel), List.mem_of_getElem? (i := 1418) (by decide +kernel), List.mem_of_getElem? (i := 1419) (by decide +kernel)⟩
theorem lw_p53 : lw_okq (⟨"EntryTreeModel", "textOf", "(I)I"⟩, 55) := ⟨⟨by decide +kernel, by decide +kernel⟩, List.mem_of_getElem? (i := 1121) (by decide +kernel), List.mem_of_getElem? (i := 1422) (by decide +kernel), List.mem_of_getElem? (i := 1423) (by decide +kernel)⟩
theorem lw_p54 : lw_okq (⟨"EntryTreeModel", "sameText", "(II)Z"⟩, 55) := ⟨⟨by decide +kernel, by decide +kernel⟩, List.mem_of_getElem? (i := 1121) (by decide +kernel), List.mem_of_getElem? (i := 1426) (by decide +kernel), List.mem_of_getElem? (i := 1427) (by decide +kernel)⟩
theorem lw_p55 : lw_okq (⟨"EntryTreeModel", "reckon", "()V"⟩, 55) := ⟨⟨by decide +kernel, by decide +kernel⟩, List.mem_of_getElem? (i := 1121) (by decide +kernel), List.mem_of_getElem? (i := 1430) (by decide +kernel), List.mem_of_getElem? (i := 1431) (by decide +kernel)⟩
theorem lw_p56 : lw_okq (⟨"EntryTreeModel", "sizeOf", "(I)I"⟩, 55) := ⟨⟨by decide +kernel, by decide +kernel⟩, List.mem_of_getElem? (i := 1121) (by decide +kernel), List.mem_of_getElem? (i := 1439) (by decide +kernel), List.mem_of_getElem? (i := 1440) (by decide +kernel)⟩
theorem lw_p57 : lw_okq (⟨"EntryTreeModel", "shapeBytes", "()I"⟩, 55) := ⟨⟨by decide +kernel, by decide +kernel⟩, List.mem_of_getElem? (i := 1121) (by decide +kernel), List.mem_of_getElem? (i := 1448) (by decide +kernel), List.mem_of_getElem? (i := 1449) (by decide +kernel)⟩
theorem lw_p58 : lw_okq (⟨"EntryTreeModel", "putText", "(I)V"⟩, 55) := ⟨⟨by decide +kernel, by decide +kernel⟩, List.mem_of_getElem? (i := 1121) (by decide +kernel), List.mem_of_getElem? (i := 1458) (by decide +kernel), List.mem_of_getElem? (i := 1459) (by decide +kernel)⟩
theorem lw_p59 : lw_okq (⟨"EntryTreeModel", "put", "(I)V"⟩, 55) := ⟨⟨by decide +kernel, by decide +kernel⟩, List.mem_of_getElem? (i := 1121) (by decide +kernel), List.mem_of_getElem? (i := 1462) (by decide +kernel), List.mem_of_getElem? (i := 1463) (by decide +kernel)⟩
theorem lw_p60 : lw_okq (⟨"EntryTreeModel", "putRow", "(J)V"⟩, 55) := ⟨⟨by decide +kernel, by decide +kernel⟩, List.mem_of_getElem? (i := 1121) (by decide +kernel), List.mem_of_getElem? (i := 1466) (by decide +kernel), List.mem_of_getElem? (i := 1467) (by decide +kernel)⟩
theorem lw_p61 : lw_okq (⟨"EntryTreeModel", "putNumber", "(JI)V"⟩, 55) := ⟨⟨by decide +kernel, by decide +kernel⟩, List.mem_of_getElem? (i := 1121) (by decide +kernel), List.mem_of_getElem? (i := 1470) (by decide +kernel), List.mem_of_getElem? (i := 1471) (by decide +kernel)⟩
theorem lw_p62 : lw_okq (⟨"EntryTreeModel", "putValue", "(I)V"⟩, 55) := ⟨⟨by decide +kernel, by decide +kernel⟩, List.mem_of_getElem? (i := 1121) (by decide +kernel), List.mem_of_getElem? (i := 1475) (by decide +kernel), List.mem_of_getElem? (i := 1476) (by decide +kernel)⟩
theorem lw_p63 : lw_okq (⟨"EntryTreeModel", "putSigned", "(J)V"⟩, 55) := ⟨⟨by decide +kernel, by decide +kernel⟩, List.mem_of_getElem? (i := 1121) (by decide +kernel), List.mem_of_getElem? (i := 1479) (by decide +kernel), List.mem_of_getElem? (i := 1480) (by decide +kernel)⟩
def lw_privs_4 : List (MethodName × Nat) := [(⟨"EntryTreeModel", "firstChild", "(I)I"⟩, 55), (⟨"EntryTreeModel", "nextChild", "(I)I"⟩, 55), (⟨"EntryTreeModel", "findShapes", "()V"⟩, 55), (⟨"EntryTreeModel", "sameShape", "(II)Z"⟩, 55), (⟨"EntryTreeModel", "findTexts", "()V"⟩, 55), (⟨"EntryTreeModel", "textOf", "(I)I"⟩, 55), (⟨"EntryTreeModel", "sameText", "(II)Z"⟩, 55), (⟨"EntryTreeModel", "reckon", "()V"⟩, 55), (⟨"EntryTreeModel", "sizeOf", "(I)I"⟩, 55), (⟨"EntryTreeModel", "shapeBytes", "()I"⟩, 55), (⟨"EntryTreeModel", "putText", "(I)V"⟩, 55), (⟨"EntryTreeModel", "put", "(I)V"⟩, 55), (⟨"EntryTreeModel", "putRow", "(J)V"⟩, 55), (⟨"EntryTreeModel", "putNumber", "(JI)V"⟩, 55), (⟨"EntryTreeModel", "putValue", "(I)V"⟩, 55), (⟨"EntryTreeModel", "putSigned", "(J)V"⟩, 55)]
theorem lw_r4 : ∀ q ∈ lw_privs_4, lw_okq q := List.forall_mem_cons.mpr ⟨lw_p48, List.forall_mem_cons.mpr ⟨lw_p49, List.forall_mem_cons.mpr ⟨lw_p50, List.forall_mem_cons.mpr ⟨lw_p51, List.forall_mem_cons.mpr ⟨lw_p52, List.forall_mem_cons.mpr ⟨lw_p53, List.forall_mem_cons.mpr ⟨lw_p54, List.forall_mem_cons.mpr ⟨lw_p55, List.forall_mem_cons.mpr ⟨lw_p56, List.forall_mem_cons.mpr ⟨lw_p57, List.forall_mem_cons.mpr ⟨lw_p58, List.forall_mem_cons.mpr ⟨lw_p59, List.forall_mem_cons.mpr ⟨lw_p60, List.forall_mem_cons.mpr ⟨lw_p61, List.forall_mem_cons.mpr ⟨lw_p62, List.forall_mem_cons.mpr ⟨lw_p63, fun _ h => absurd h List.not_mem_nil⟩⟩⟩⟩⟩⟩⟩⟩⟩⟩⟩⟩⟩⟩⟩⟩
theorem lw_p64 : lw_okq (⟨"EntryTreeModel", "isOctet", "(II)Z"⟩, 55) := ⟨⟨by decide +kernel, by decide +kernel⟩, List.mem_of_getElem? (i := 1121) (by decide +kernel), List.mem_of_getElem? (i := 1495) (by decide +kernel), List.mem_of_getElem? (i := 1496) (by decide +kernel)⟩
theorem lw_p65 : lw_okq (⟨"EntryTreeModel", "keep", "(II)I"⟩, 55) := ⟨⟨by decide +kernel, by decide +kernel⟩, List.mem_of_getElem? (i := 1121) (by decide +kernel), List.mem_of_getElem? (i := 1511) (by decide +kernel), List.mem_of_getElem? (i := 1512) (by decide +kernel)⟩
theorem lw_p66 : lw_okq (⟨"EntryTreeModel", "readUnit", "(I)V"⟩, 55) := ⟨⟨by decide +kernel, by decide +kernel⟩, List.mem_of_getElem? (i := 1121) (by decide +kernel), List.mem_of_getElem? (i := 1515) (by decide +kernel), List.mem_of_getElem? (i := 1516) (by decide +kernel)⟩
theorem lw_p67 : lw_okq (⟨"EntryTreeModel", "bad", "(III)V"⟩, 55) := ⟨⟨by decide +kernel, by decide +kernel⟩, List.mem_of_getElem? (i := 1121) (by decide +kernel), List.mem_of_getElem? (i := 1519) (by decide +kernel), List.mem_of_getElem? (i := 1520) (by decide +kernel)⟩
theorem lw_p68 : lw_okq (⟨"EntryTreeModel", "fixed", "(I)J"⟩, 55) := ⟨⟨by decide +kernel, by decide +kernel⟩, List.mem_of_getElem? (i := 1121) (by decide +kernel), List.mem_of_getElem? (i := 1523) (by decide +kernel), List.mem_of_getElem? (i := 1524) (by decide +kernel)⟩
theorem lw_p69 : lw_okq (⟨"EntryTreeModel", "has", "(I)Z"⟩, 55) := ⟨⟨by decide +kernel, by decide +kernel⟩, List.mem_of_getElem? (i := 1121) (by decide +kernel), List.mem_of_getElem? (i := 1527) (by decide +kernel), List.mem_of_getElem? (i := 1528) (by decide +kernel)⟩
theorem lw_p70 : lw_okq (⟨"EntryTreeModel", "byteAt", "(I)I"⟩, 55) := ⟨⟨by decide +kernel, by decide +kernel⟩, List.mem_of_getElem? (i := 1121) (by decide +kernel), List.mem_of_getElem? (i := 1531) (by decide +kernel), List.mem_of_getElem? (i := 1532) (by decide +kernel)⟩
theorem lw_p71 : lw_okq (⟨"EntryTreeModel", "readTable", "(I)V"⟩, 55) := ⟨⟨by decide +kernel, by decide +kernel⟩, List.mem_of_getElem? (i := 1121) (by decide +kernel), List.mem_of_getElem? (i := 1536) (by decide +kernel), List.mem_of_getElem? (i := 1537) (by decide +kernel)⟩
theorem lw_p72 : lw_okq (⟨"EntryTreeModel", "readShape", "()Z"⟩, 55) := ⟨⟨by decide +kernel, by decide +kernel⟩, List.mem_of_getElem? (i := 1121) (by decide +kernel), List.mem_of_getElem? (i := 1540) (by decide +kernel), List.mem_of_getElem? (i := 1541) (by decide +kernel)⟩
theorem lw_p73 : lw_okq (⟨"EntryTreeModel", "row", "(ZJ)J"⟩, 55) := ⟨⟨by decide +kernel, by decide +kernel⟩, List.mem_of_getElem? (i := 1121) (by decide +kernel), List.mem_of_getElem? (i := 1545) (by decide +kernel), List.mem_of_getElem? (i := 1546) (by decide +kernel)⟩
theorem lw_p74 : lw_okq (⟨"EntryTreeModel", "readPair", "()Z"⟩, 55) := ⟨⟨by decide +kernel, by decide +kernel⟩, List.mem_of_getElem? (i := 1121) (by decide +kernel), List.mem_of_getElem? (i := 1550) (by decide +kernel), List.mem_of_getElem? (i := 1551) (by decide +kernel)⟩
theorem lw_p75 : lw_okq (⟨"EntryTreeModel", "readEntries", "()V"⟩, 55) := ⟨⟨by decide +kernel, by decide +kernel⟩, List.mem_of_getElem? (i := 1121) (by decide +kernel), List.mem_of_getElem? (i := 1559) (by decide +kernel), List.mem_of_getElem? (i := 1560) (by decide +kernel)⟩
theorem lw_p76 : lw_okq (⟨"EntryTreeModel", "readEntry", "(II)I"⟩, 55) := ⟨⟨by decide +kernel, by decide +kernel⟩, List.mem_of_getElem? (i := 1121) (by decide +kernel), List.mem_of_getElem? (i := 1563) (by decide +kernel), List.mem_of_getElem? (i := 1564) (by decide +kernel)⟩
theorem lw_p77 : lw_okq (⟨"EntryTreeModel", "shapeNumbered", "(J)I"⟩, 55) := ⟨⟨by decide +kernel, by decide +kernel⟩, List.mem_of_getElem? (i := 1121) (by decide +kernel), List.mem_of_getElem? (i := 1567) (by decide +kernel), List.mem_of_getElem? (i := 1568) (by decide +kernel)⟩
theorem lw_p78 : lw_okq (⟨"EntryTreeModel", "readValue", "(I)V"⟩, 55) := ⟨⟨by decide +kernel, by decide +kernel⟩, List.mem_of_getElem? (i := 1121) (by decide +kernel), List.mem_of_getElem? (i := 1571) (by decide +kernel), List.mem_of_getElem? (i := 1572) (by decide +kernel)⟩
theorem lw_p79 : lw_okq (⟨"EntryTreeModel", "readText8", "(I)V"⟩, 55) := ⟨⟨by decide +kernel, by decide +kernel⟩, List.mem_of_getElem? (i := 1121) (by decide +kernel), List.mem_of_getElem? (i := 1576) (by decide +kernel), List.mem_of_getElem? (i := 1577) (by decide +kernel)⟩
def lw_privs_5 : List (MethodName × Nat) := [(⟨"EntryTreeModel", "isOctet", "(II)Z"⟩, 55), (⟨"EntryTreeModel", "keep", "(II)I"⟩, 55), (⟨"EntryTreeModel", "readUnit", "(I)V"⟩, 55), (⟨"EntryTreeModel", "bad", "(III)V"⟩, 55), (⟨"EntryTreeModel", "fixed", "(I)J"⟩, 55), (⟨"EntryTreeModel", "has", "(I)Z"⟩, 55), (⟨"EntryTreeModel", "byteAt", "(I)I"⟩, 55), (⟨"EntryTreeModel", "readTable", "(I)V"⟩, 55), (⟨"EntryTreeModel", "readShape", "()Z"⟩, 55), (⟨"EntryTreeModel", "row", "(ZJ)J"⟩, 55), (⟨"EntryTreeModel", "readPair", "()Z"⟩, 55), (⟨"EntryTreeModel", "readEntries", "()V"⟩, 55), (⟨"EntryTreeModel", "readEntry", "(II)I"⟩, 55), (⟨"EntryTreeModel", "shapeNumbered", "(J)I"⟩, 55), (⟨"EntryTreeModel", "readValue", "(I)V"⟩, 55), (⟨"EntryTreeModel", "readText8", "(I)V"⟩, 55)]
theorem lw_r5 : ∀ q ∈ lw_privs_5, lw_okq q := List.forall_mem_cons.mpr ⟨lw_p64, List.forall_mem_cons.mpr ⟨lw_p65, List.forall_mem_cons.mpr ⟨lw_p66, List.forall_mem_cons.mpr ⟨lw_p67, List.forall_mem_cons.mpr ⟨lw_p68, List.forall_mem_cons.mpr ⟨lw_p69, List.forall_mem_cons.mpr ⟨lw_p70, List.forall_mem_cons.mpr ⟨lw_p71, List.forall_mem_cons.mpr ⟨lw_p72, List.forall_mem_cons.mpr ⟨lw_p73, List.forall_mem_cons.mpr ⟨lw_p74, List.forall_mem_cons.mpr ⟨lw_p75, List.forall_mem_cons.mpr ⟨lw_p76, List.forall_mem_cons.mpr ⟨lw_p77, List.forall_mem_cons.mpr ⟨lw_p78, List.forall_mem_cons.mpr ⟨lw_p79, fun _ h => absurd h List.not_mem_nil⟩⟩⟩⟩⟩⟩⟩⟩⟩⟩⟩⟩⟩⟩⟩⟩
theorem lw_p80 : lw_okq (⟨"EntryTreeModel", "textIs", "(III)V"⟩, 55) := ⟨⟨by decide +kernel, by decide +kernel⟩, List.mem_of_getElem? (i := 1121) (by decide +kernel), List.mem_of_getElem? (i := 1580) (by decide +kernel), List.mem_of_getElem? (i := 1581) (by decide +kernel)⟩
theorem lw_p81 : lw_okq (⟨"EntryTreeModel", "readText14", "(I)V"⟩, 55) := ⟨⟨by decide +kernel, by decide +kernel⟩, List.mem_of_getElem? (i := 1121) (by decide +kernel), List.mem_of_getElem? (i := 1584) (by decide +kernel), List.mem_of_getElem? (i := 1585) (by decide +kernel)⟩
theorem lw_p82 : lw_okq (⟨"EntryTreeModel", "resolve", "(II)V"⟩, 55) := ⟨⟨by decide +kernel, by decide +kernel⟩, List.mem_of_getElem? (i := 1121) (by decide +kernel), List.mem_of_getElem? (i := 1588) (by decide +kernel), List.mem_of_getElem? (i := 1589) (by decide +kernel)⟩
theorem lw_p83 : lw_okq (⟨"EntryTreeModel", "isAttribute", "(II)Z"⟩, 55) := ⟨⟨by decide +kernel, by decide +kernel⟩, List.mem_of_getElem? (i := 1121) (by decide +kernel), List.mem_of_getElem? (i := 1618) (by decide +kernel), List.mem_of_getElem? (i := 1619) (by decide +kernel)⟩
theorem lw_p84 : lw_okq (⟨"EntryTreeModel", "isNamed", "(II)Z"⟩, 55) := ⟨⟨by decide +kernel, by decide +kernel⟩, List.mem_of_getElem? (i := 1121) (by decide +kernel), List.mem_of_getElem? (i := 1634) (by decide +kernel), List.mem_of_getElem? (i := 1635) (by decide +kernel)⟩
theorem lw_p85 : lw_okq (⟨"EntryTreeModel", "numberNamed", "(II)I"⟩, 55) := ⟨⟨by decide +kernel, by decide +kernel⟩, List.mem_of_getElem? (i := 1121) (by decide +kernel), List.mem_of_getElem? (i := 1642) (by decide +kernel), List.mem_of_getElem? (i := 1643) (by decide +kernel)⟩
def lw_privs_6 : List (MethodName × Nat) := [(⟨"EntryTreeModel", "textIs", "(III)V"⟩, 55), (⟨"EntryTreeModel", "readText14", "(I)V"⟩, 55), (⟨"EntryTreeModel", "resolve", "(II)V"⟩, 55), (⟨"EntryTreeModel", "isAttribute", "(II)Z"⟩, 55), (⟨"EntryTreeModel", "isNamed", "(II)Z"⟩, 55), (⟨"EntryTreeModel", "numberNamed", "(II)I"⟩, 55)]
theorem lw_r6 : ∀ q ∈ lw_privs_6, lw_okq q := List.forall_mem_cons.mpr ⟨lw_p80, List.forall_mem_cons.mpr ⟨lw_p81, List.forall_mem_cons.mpr ⟨lw_p82, List.forall_mem_cons.mpr ⟨lw_p83, List.forall_mem_cons.mpr ⟨lw_p84, List.forall_mem_cons.mpr ⟨lw_p85, fun _ h => absurd h List.not_mem_nil⟩⟩⟩⟩⟩⟩
def lw_privs : List (MethodName × Nat) := lw_privs_1 ++ (lw_privs_2 ++ (lw_privs_3 ++ (lw_privs_4 ++ (lw_privs_5 ++ (lw_privs_6)))))
def lw_tbl : List Cond := k2_sels lw_privs ++ tables_1
theorem lw_privs_ok : ∀ q ∈ lw_privs, lw_okq q := by
  show ∀ q ∈ lw_privs_1 ++ (lw_privs_2 ++ (lw_privs_3 ++ (lw_privs_4 ++ (lw_privs_5 ++ (lw_privs_6))))), lw_okq q
  exact List.forall_mem_append.mpr ⟨lw_r1, List.forall_mem_append.mpr ⟨lw_r2, List.forall_mem_append.mpr ⟨lw_r3, List.forall_mem_append.mpr ⟨lw_r4, List.forall_mem_append.mpr ⟨lw_r5, lw_r6⟩⟩⟩⟩⟩
end
section
/-! ===== BEGIN words of one list among another's, by their places ===== -/
theorem goodIn_r {big : List Cond} (ws : List Cond) (ps : List Nat) (hp : ws = ps.filterMap (fun i => big[i]?)) (h : ws.all goodWord = true) : GoodIn big ws := by
  intro w hw
  have h1 := List.all_eq_true.mp h w hw
  rw [hp] at hw
  obtain ⟨i, -, hi⟩ := List.mem_filterMap.mp hw
  have hm : w ∈ big := by first | exact List.mem_of_getElem? hi | exact List.getElem?_mem hi
  exact ⟨hm, good_of_word h1⟩
theorem goodIn_app {big a b : List Cond} (ha : GoodIn big a) (hb : GoodIn big b) : GoodIn big (a ++ b) := fun w h => (List.mem_append.mp h).elim (ha w) (hb w)
theorem goodIn_ca {big a b : List Cond} {c : Cond} (ha : GoodIn big (c :: a)) (hb : GoodIn big b) : GoodIn big (c :: (a ++ b)) := fun w h => (List.mem_cons.mp h).elim (fun e => ha w (List.mem_cons.mpr (Or.inl e))) (fun h => (List.mem_append.mp h).elim (fun h => ha w (List.mem_cons.mpr (Or.inr h))) (hb w))
theorem goodIn_sub {big ws : List Cond} (hm : ∀ w ∈ ws, w ∈ big) (h : ws.all goodWord = true) : GoodIn big ws := fun w hw => ⟨hm w hw, good_of_word (List.all_eq_true.mp h w hw)⟩
/-! ===== END ===== -/

/-! ===== BEGIN exceptions that leave a method, and their catching by the caller (launches without stack traces) ===== -/
section VXA
/-! The laws vx_back, vx_callV, vx_callS, vx_callSW, vx_throw0, vx_throwS follow proofs of the library, with one case more: JvmDerived/Free/Laws.lean (Back.of_free), Shelf42/LK1.lean (callV, callS), Shelf/KitTraced.lean (throwNew0V, throwNewS). -/
/-- where a method has thrown q: the class by its name, the cell, what was written, the world -/
def vx_T (XC : String → State → State → Prop) (st : State) (q : Addr) (t : State) (mc ms : Nat) (free : Addr → Prop) : Prop :=
  ∃ (E : String) (ce : Cell) (L : List Loc), XC E st t ∧ t.heap[q]? = some ce ∧ ce.vm = .none ∧ st.vm.findClass E = some ce.cls ∧ st.WarmedH t.vm ∧ st.sameButNew ({ t with vm := st.vm } : State) L mc ms ∧ ∀ z ∈ L, free z.base
def vx_Q (Qc : Array Value → State → Outcome → State → Prop) (XC : String → State → State → Prop) (mc ms : Nat) (free : Addr → Prop) : Array Value → State → Outcome → State → Prop := fun a st o t =>
  (Qc a st o t ∧ ∃ L, FrameEnd st o t L mc ms ∧ ∀ q ∈ L, free q.base) ∨ ∃ q, o = .threw q ∧ vx_T XC st q t mc ms free
/-- a callee that returns or throws -/
def vx_Met (l : Launch) (y : MethodName) (ws : List Cond) (rm : Room) (Pc : Array Value → State → Prop) (Qc : Array Value → State → Outcome → State → Prop) (XC : String → State → State → Prop) (mc ms : Nat) (free : Addr → Prop) : Prop :=
  MetFree l y (headSpec ws rm) Pc (fun _ _ _ _ _ => True) (vx_Q Qc XC mc ms free)
def vx_Post (XC : String → State → State → Prop) (mc ms : Nat) (free : Addr → Prop) : Pt → Array Value → Addr → Pt → Prop := fun A a q B =>
  ∃ (g : JFrame) (mk : MethodId) (t : State) (L : List Loc) (E : String) (ce : Cell), B.U.heap = t.heap ∧ B.U.vm = t.vm ∧ XC E (A.U.calling g mk a) t ∧ t.heap[q]? = some ce ∧ ce.vm = .none ∧ A.U.vm.findClass E = some ce.cls ∧ B.locs = A.locs ++ L ∧ (∀ z ∈ L, free z.base) ∧ B.cells = A.cells + mc ∧ B.slots = A.slots + ms
def vx_Back (l : Launch) (R : Room) (p : Program) (e : Env) (below : List Frame) (s : State) (sargs : Array Value) (y : MethodName) (len W9 : Nat)
    (Pre : Pt → Array Value → Prop) (Post : Pt → Array Value → Option Value → Pt → Prop) (PostX : Pt → Array Value → Addr → Pt → Prop) : Prop :=
  ∀ (m : MethodId) (meth : Method) (c : Code) (A : Pt) (g : JFrame) (ig : Instr) (mk : MethodId) (a : Array Value),
    Stand p l e R s m sargs below meth c A.U A.locs A.cells A.slots → g.method = m → g.locals.size = c.maxLocals → decode c.code g.pc = .ok (ig, len) →
    2 * g.monitorRoom + (g.stack.map fun v => v.category).sum ≤ W9 → A.U.methodNamed? y = some mk → Pre A a →
    (∃ (v : Option Value) (B : Pt), Stand p l e R s m sargs below meth c B.U B.locs B.cells B.slots ∧ Post A a v B ∧
      Steps p.tables e below (doInvoke e (A.U.setTop g) [] mk a).1 (B.U.setTop { g with pc := g.pc + len, stack := v.toList ++ g.stack })) ∨
    (∃ (q : Addr) (B : Pt), Stand p l e R s m sargs below meth c B.U B.locs B.cells B.slots ∧ PostX A a q B ∧
      Steps p.tables e below (doInvoke e (A.U.setTop g) [] mk a).1 ((B.U.setTop g).pushFrame (.throwing q)))
section Payer
variable {l : Launch} {R : Room} {p : Program} {e : Env} {below : List Frame} {s : State} {sargs : Array Value} {y : MethodName} {len W9 : Nat}
theorem vx_back {ws : List Cond} {rm : Room} {Pc : Array Value → State → Prop} {Qc : Array Value → State → Outcome → State → Prop} {XC : String → State → State → Prop} {mc ms : Nat} {free : Addr → Prop} {bytes : ByteArray} {maxL : Nat} {ret : Option FieldType}
    (hM : vx_Met l y ws rm Pc Qc XC mc ms free) (hblind : FrameBlind Pc) (hrc : rm.cells = mc) (hrs : rm.slots = ms)
    (hframes : rm.frames + 1 ≤ R.frames) (hlocals : W9 + (maxL + 11) + rm.locals ≤ R.locals)
    (hws : ∀ w ∈ ws, ∀ a' U, s.WarmedH U.vm → w.before a' U = true) (hcode : Cond.code y bytes maxL ret ∈ ws) (hinit : ∀ a' U, s.WarmedH U.vm → (Cond.initialized y.cls).before a' U = true) :
    vx_Back l R p e below s sargs y len W9 (PreOf R mc ms Pc) (PostOf Qc mc ms free) (vx_Post XC mc ms free) := by
  intro m meth c A g ig mk a X hg hsize hdg hW hn hp
  have h1 : (headSpec ws rm).pre.before a A.U = true := atoms_intro fun w hw => hws w hw _ _ X.warmed
  have h2 : (Cond.code y bytes maxL ret).before a A.U = true := hws _ hcode _ _ X.warmed
  have h3 : (Cond.initialized y.cls).before a A.U = true := hinit _ _ X.warmed
  have h4 : A.cells + (headSpec ws rm).room.cells ≤ R.cells := by rw [show (headSpec ws rm).room.cells = mc from hrc]; exact hp.1
  have h5 : A.slots + (headSpec ws rm).room.slots ≤ R.slots := by rw [show (headSpec ws rm).room.slots = ms from hrs]; exact hp.2.1
  have hPc : Pc a (A.U.calling g mk a) := hblind _ _ _ _ hp.2.2
  obtain ⟨U, Ls, c0, s0⟩ := A
  dsimp only [Pt.U, Pt.locs, Pt.cells, Pt.slots] at h1 h2 h3 h4 h5 X hn hPc ⊢
  obtain ⟨methY, cY, hmY, hcY, -, hlY, -, -, -, -⟩ := Cond.code_spec hn h2
  obtain ⟨kY, hkY, -⟩ := className_of_methodNamed hn
  have hinitY : kY.init = .initialized := Cond.initialized_spec (findClass_of_methodNamed hn) hkY h3
  have h : At U g.method c below := by rw [hg]; exact X.here
  have hlocals9 : W9 + (maxL + 11) + (headSpec ws rm).room.locals ≤ R.locals := hlocals
  have happ : (headSpec ws rm).appliesLoose y e.platform (U.calling g mk a) = true :=
    Spec.appliesLoose_calling (g := g) h hdg hn hkY hinitY
      (X.room_calling (g := g) (R' := (headSpec ws rm).room) hsize hmY hcY hframes (by rw [hlY]; omega) h4 h5) h1
  obtain ⟨mid, hmid⟩ := h.above
  have hfr : (U.setTop g).frames = (.java g :: mid) ++ below := by rw [State.frames_setTop' g h.top, hmid]; rfl
  obtain ⟨o, s₂, hsteps, -, hend, hq⟩ := Steps.callFree hM p X.admits X.cas X.clock (acts := []) hfr happ hPc trivial
  have hq' : vx_Q Qc XC mc ms free a (U.calling g mk a) o s₂ := hq
  rw [State.frames_setTop' g h.top] at hend
  obtain ⟨g₀, hg0⟩ := Option.isSome_iff_exists.mp h.top
  obtain ⟨r, hr⟩ := State.topJava?_eq_some.mp hg0
  have hr' : (({ U with heap := s₂.heap, slotsUsed := s₂.slotsUsed } : State).setVm s₂.vm).frames = .java g₀ :: r := hr
  rcases hq' with ⟨hqc, L, hfe, hL⟩ | ⟨q, rfl, E, ce, L, hx, hce, hcv, hcl, hW₂, hsm, hL⟩
  · obtain ⟨⟨v, rfl⟩, hW₂, e2, q2, q3, q4, q5, q6⟩ := id hfe
    have e3 : s₂ = ({ (U.calling g mk a).setFrames s₂.frames with heap := s₂.heap, slotsUsed := s₂.slotsUsed } : State).setVm s₂.vm := by
      have : s₂ = ({ s₂ with vm := (U.calling g mk a).vm } : State).setVm s₂.vm := rfl
      rw [e2] at this
      exact this
    obtain ⟨c₂, i₂, len₂, hc₂, hd₂, hf₂⟩ := hend
    have hW' : U.WarmedH s₂.vm := hW₂
    have hcc : c₂ = c := by
      have h1 : s₂.code? g.method = U.code? g.method := by
        rw [State.code?_eq, State.code?_eq, hW'.alike.method?]
      exact Option.some.inj (hc₂.symm.trans (h1.trans h.code))
    subst hcc
    have hlen : len₂ = len := by rw [hdg] at hd₂; cases hd₂; rfl
    subst hlen
    have hs₂ : s₂ = (({ U with heap := s₂.heap, slotsUsed := s₂.slotsUsed } : State).setVm s₂.vm).setTop { g with pc := g.pc + len₂, stack := v.toList ++ g.stack } := by
      refine e3.trans ?_
      rw [hf₂, State.calling_eq h.top, State.setFrames_setFrames, State.setTop_of_frames _ hr', hr]
      rfl
    have hsame : U.sameButNew ({ U with heap := s₂.heap, slotsUsed := s₂.slotsUsed } : State) L mc ms := by
      refine ⟨?_, q2, q3, q4, q5, q6⟩
      obtain ⟨t, ht, -⟩ := State.frames_cons hr
      show ({ U with heap := s₂.heap, slotsUsed := s₂.slotsUsed } : State) = { U.setFrames U.frames with heap := s₂.heap, slotsUsed := s₂.slotsUsed }
      rw [State.setFrames_self ht]
    subst hg
    refine Or.inl ⟨v, ⟨(({ U with heap := s₂.heap, slotsUsed := s₂.slotsUsed } : State).setVm s₂.vm), Ls ++ L, c0 + mc, s0 + ms⟩,
      ⟨X.admits, X.cas, X.clock, X.frames, X.room, X.hears, X.method, X.code, (X.here.setHeapUsed s₂.heap s₂.slotsUsed).setVm hW'.alike, X.tail, State.WarmedH.trans X.warmed hW', X.limits, X.bytes, X.same.trans (hsame.setVm s.vm)⟩,
      ⟨g, mk, s₂, L, rfl, rfl, hqc, rfl, hL, rfl, rfl⟩, ?_⟩
    show Steps p.tables e below _ ((({ U with heap := s₂.heap, slotsUsed := s₂.slotsUsed } : State).setVm s₂.vm).setTop { g with pc := g.pc + len₂, stack := v.toList ++ g.stack })
    rw [← hs₂]
    exact hsteps
  · obtain ⟨e2, q2, q3, q4, q5, q6⟩ := id hsm
    have e3 : s₂ = ({ (U.calling g mk a).setFrames s₂.frames with heap := s₂.heap, slotsUsed := s₂.slotsUsed } : State).setVm s₂.vm := by
      have : s₂ = ({ s₂ with vm := (U.calling g mk a).vm } : State).setVm s₂.vm := rfl
      rw [e2] at this
      exact this
    have hf₂ : s₂.frames = .throwing q :: .java g :: U.frames.tail := hend
    have hW' : U.WarmedH s₂.vm := hW₂
    have hs₂ : s₂ = ((({ U with heap := s₂.heap, slotsUsed := s₂.slotsUsed } : State).setVm s₂.vm).setTop g).pushFrame (.throwing q) := by
      refine e3.trans ?_
      rw [hf₂, State.calling_eq h.top, State.setFrames_setFrames, State.pushFrame, State.frames_setTop _ hr', State.setTop_of_frames _ hr', State.setFrames_setFrames, hr]
      rfl
    have hsame : U.sameButNew ({ U with heap := s₂.heap, slotsUsed := s₂.slotsUsed } : State) L mc ms := by
      refine ⟨?_, q2, q3, q4, q5, q6⟩
      obtain ⟨t, ht, -⟩ := State.frames_cons hr
      show ({ U with heap := s₂.heap, slotsUsed := s₂.slotsUsed } : State) = { U.setFrames U.frames with heap := s₂.heap, slotsUsed := s₂.slotsUsed }
      rw [State.setFrames_self ht]
    subst hg
    refine Or.inr ⟨q, ⟨(({ U with heap := s₂.heap, slotsUsed := s₂.slotsUsed } : State).setVm s₂.vm), Ls ++ L, c0 + mc, s0 + ms⟩,
      ⟨X.admits, X.cas, X.clock, X.frames, X.room, X.hears, X.method, X.code, (X.here.setHeapUsed s₂.heap s₂.slotsUsed).setVm hW'.alike, X.tail, State.WarmedH.trans X.warmed hW', X.limits, X.bytes, X.same.trans (hsame.setVm s.vm)⟩,
      ⟨g, mk, s₂, L, E, ce, rfl, rfl, hx, hce, hcv, hcl, rfl, hL, rfl, rfl⟩, ?_⟩
    show Steps p.tables e below _ (((({ U with heap := s₂.heap, slotsUsed := s₂.slotsUsed } : State).setVm s₂.vm).setTop g).pushFrame (.throwing q))
    rw [← hs₂]
    exact hsteps
end Payer
section Calls
variable {p : Program} {l : Launch} {e : Env} {R : Room} {s : State} {m : MethodId} {args : Array Value} {below : List Frame} {meth : Method} {c : Code} {T : State} {locs : List Loc} {cells slots : Nat}
theorem vx_callV (X : Stand p l e R s m args below meth c T locs cells slots) (hexec : p.tables.exec = Jvm.exec) {own C : String} {index : Nat} {y : MethodName} {bytes : ByteArray} {maxL : Nat} {ret : Option FieldType}
    (hown : s.vm.findClass own = some m.cls) (hlink : (Cond.methodLink own index y).before args s = true) (hinst : (Cond.instanceMethod y).before args s = true) (hsel : (Cond.selects C y y).before args s = true)
    (hcode : (Cond.code y bytes maxL ret).before args s = true) (hy : y.cls ≠ "java/lang/invoke/MethodHandle" ∧ y.cls ≠ "java/lang/invoke/VarHandle")
    {W9 : Nat} {Pre : Pt → Array Value → Prop} {Post : Pt → Array Value → Option Value → Pt → Prop} {PostX : Pt → Array Value → Addr → Pt → Prop} (hK : vx_Back l R p e below s args y 3 W9 Pre Post PostX)
    {b : Addr} {cellB : Cell} (hcell : T.heap[b]? = some cellB) (hobj : cellB.vm.isStatics = false) (hcls : s.vm.findClass C = some cellB.cls)
    {g : JFrame} (hg : g.method = m) (hsize : g.locals.size = c.maxLocals) {argsL rest : List Value} (hlen : ∀ sig, parseMethodDescriptor y.desc = some sig → argsL.length = sig.parameters.length)
    (hstack : g.stack = argsL.reverse ++ .ref b :: rest) (hW : 2 * g.monitorRoom + (rest.map fun v => v.category).sum ≤ W9) (hdg : decode c.code g.pc = .ok (.invokevirtual index, 3))
    (hpre : ∀ vm₁, s.WarmedH vm₁ → Pre ⟨T.setVm vm₁, locs, cells, slots⟩ (Value.ref b :: argsL).toArray) :
    (∃ (v : Option Value) (vm₁ : Vm) (B : Pt), s.WarmedH vm₁ ∧ Stand p l e R s m args below meth c B.U B.locs B.cells B.slots ∧ Post ⟨T.setVm vm₁, locs, cells, slots⟩ (Value.ref b :: argsL).toArray v B ∧
      ∀ target, Steps p.tables e below (B.U.setTop { g with pc := g.pc + 3, stack := v.toList ++ rest }) target → Steps p.tables e below (T.setTop g) target) ∨
    (∃ (q : Addr) (vm₁ : Vm) (B : Pt), s.WarmedH vm₁ ∧ Stand p l e R s m args below meth c B.U B.locs B.cells B.slots ∧ PostX ⟨T.setVm vm₁, locs, cells, slots⟩ (Value.ref b :: argsL).toArray q B ∧
      Steps p.tables e below (T.setTop g) ((B.U.setTop { g with stack := rest }).pushFrame (.throwing q))) := by
  obtain ⟨mk, methM, hnamed, hmethM, hstM, habM⟩ := Cond.instanceMethod_spec hinst
  obtain ⟨methM', cM, hmethM', -, -, -, -, -, -, hsigM⟩ := Cond.code_spec hnamed hcode
  cases hmethM.symm.trans hmethM'
  obtain ⟨c2, r2, m2, q1, q2, q3, q4, kP, hkP, hkPi⟩ := Cond.selects_spec hsel
  cases hcls.symm.trans q1
  cases (State.methodFound?_of_named hnamed hy).symm.trans q2
  cases hnamed.symm.trans q3
  have hselP : selectMethod e.platform s.vm cellB.cls mk = .method mk := by rw [Launch.admits_selectMethod X.admits]; exact q4
  obtain ⟨vm₁, X₁, hstep₁⟩ := X.invokevirtual hexec hown hlink hnamed hmethM hstM hkP hkPi hy (a := b) (cell := cellB) hcell
    (fun z h => by rw [h] at hobj; cases hobj) hselP hmethM habM hkP hkPi (g := g) hg (argsL := argsL) (rest := rest) (hlen _ hsigM) hstack hdg
  rcases hK m meth c ⟨T.setVm vm₁, locs, cells, slots⟩ { g with stack := rest } (.invokevirtual index) mk (Value.ref b :: argsL).toArray X₁ hg hsize hdg hW (X₁.named hnamed) (hpre vm₁ X₁.warmed) with ⟨v, B, X', hpost, hsteps⟩ | ⟨q, B, X', hpost, hsteps⟩
  · exact Or.inl ⟨v, vm₁, B, X₁.warmed, X', hpost, fun target h => hstep₁ _ fun acts => by rw [doInvoke_state]; exact hsteps.trans h⟩
  · exact Or.inr ⟨q, vm₁, B, X₁.warmed, X', hpost, hstep₁ _ fun acts => by rw [doInvoke_state]; exact hsteps⟩
theorem vx_callS (X : Stand p l e R s m args below meth c T locs cells slots) (hexec : p.tables.exec = Jvm.exec) {own : String} {index : Nat} {y : MethodName} {bytes : ByteArray} {maxL : Nat} {ret : Option FieldType}
    (hown : s.vm.findClass own = some m.cls) (hlink : (Cond.methodLink own index y).before args s = true) (hstat : (Cond.static y).before args s = true) (hinit : (Cond.initialized y.cls).before args s = true)
    (hcode : (Cond.code y bytes maxL ret).before args s = true) (hy : y.cls ≠ "java/lang/invoke/MethodHandle" ∧ y.cls ≠ "java/lang/invoke/VarHandle")
    {W9 : Nat} {Pre : Pt → Array Value → Prop} {Post : Pt → Array Value → Option Value → Pt → Prop} {PostX : Pt → Array Value → Addr → Pt → Prop} (hK : vx_Back l R p e below s args y 3 W9 Pre Post PostX)
    {g : JFrame} (hg : g.method = m) (hsize : g.locals.size = c.maxLocals) {argsL rest : List Value} (hlen : ∀ sig, parseMethodDescriptor y.desc = some sig → argsL.length = sig.parameters.length)
    (hstack : g.stack = argsL.reverse ++ rest) (hW : 2 * g.monitorRoom + (rest.map fun v => v.category).sum ≤ W9) (hdg : decode c.code g.pc = .ok (.invokestatic index, 3))
    (hpre : ∀ vm₁, s.WarmedH vm₁ → Pre ⟨T.setVm vm₁, locs, cells, slots⟩ argsL.toArray) :
    (∃ (v : Option Value) (vm₁ : Vm) (B : Pt), s.WarmedH vm₁ ∧ Stand p l e R s m args below meth c B.U B.locs B.cells B.slots ∧ Post ⟨T.setVm vm₁, locs, cells, slots⟩ argsL.toArray v B ∧
      ∀ target, Steps p.tables e below (B.U.setTop { g with pc := g.pc + 3, stack := v.toList ++ rest }) target → Steps p.tables e below (T.setTop g) target) ∨
    (∃ (q : Addr) (vm₁ : Vm) (B : Pt), s.WarmedH vm₁ ∧ Stand p l e R s m args below meth c B.U B.locs B.cells B.slots ∧ PostX ⟨T.setVm vm₁, locs, cells, slots⟩ argsL.toArray q B ∧
      Steps p.tables e below (T.setTop g) ((B.U.setTop { g with stack := rest }).pushFrame (.throwing q))) := by
  obtain ⟨mk, hnamed⟩ := Cond.code_named hcode
  obtain ⟨methM, cM, hmethM, -, -, -, -, -, -, hsigM⟩ := Cond.code_spec hnamed hcode
  have hstatic : methM.isStatic = true := Cond.static_spec hnamed hmethM hstat
  obtain ⟨kP, hkP, -⟩ := className_of_methodNamed hnamed
  have hinitP : kP.init = .initialized := Cond.initialized_spec (findClass_of_methodNamed hnamed) hkP hinit
  obtain ⟨vm₁, X₁, hstep₁⟩ := X.invokestatic hexec hown hlink hnamed hmethM hstatic hkP hinitP hy (g := g) hg (argsL := argsL) (rest := rest) (hlen _ hsigM) hstack hdg
  rcases hK m meth c ⟨T.setVm vm₁, locs, cells, slots⟩ { g with stack := rest } (.invokestatic index) mk argsL.toArray X₁ hg hsize hdg hW (X₁.named hnamed) (hpre vm₁ X₁.warmed) with ⟨v, B, X', hpost, hsteps⟩ | ⟨q, B, X', hpost, hsteps⟩
  · exact Or.inl ⟨v, vm₁, B, X₁.warmed, X', hpost, fun target h => hstep₁ _ fun acts => by rw [doInvoke_state]; exact hsteps.trans h⟩
  · exact Or.inr ⟨q, vm₁, B, X₁.warmed, X', hpost, hstep₁ _ fun acts => by rw [doInvoke_state]; exact hsteps⟩
end Calls
theorem vx_cls {s : State} {T : State} {vm₁ : Vm} {E : String} {k : ClassId} (hW : s.WarmedH vm₁) (h : (T.setVm vm₁).vm.findClass E = some k) : s.vm.findClass E = some k := by
  have h1 : vm₁.findClass E = some k := h
  rw [hW.alike.findClass] at h1
  exact h1
/-- the method's frame g, with q thrown over it -/
def vx_W (p : Program) (l : Launch) (e : Env) (R : Room) (s : State) (m : MethodId) (args : Array Value) (below : List Frame) (meth : Method) (c : Code) (H : Heap) (locs : List Loc) (cells slots : Nat) (Q : State → Prop) (g : JFrame) (q : Addr) : Prop :=
  ∀ T : State, T.heap = H → Stand p l e R s m args below meth c T locs cells slots → ∃ t, Steps p.tables e below ((T.setTop g).pushFrame (.throwing q)) t ∧ Q t
def vx_Run (p : Program) (l : Launch) (e : Env) (R : Room) (s : State) (m : MethodId) (args : Array Value) (below : List Frame) (meth : Method) (c : Code) (H : Heap) (locs : List Loc) (cells slots mc ms : Nat) (g : JFrame) (rest : List Value) (Qa : State → Outcome → State → Prop) (XC : String → State → State → Prop) (free : Addr → Prop) : Prop :=
  ∀ T : State, T.heap = H → Stand p l e R s m args below meth c T locs cells slots →
    (∃ (v : Option Value) (st₀ t T' : State) (L : List Loc), st₀.heap = H ∧ Stand p l e R s m args below meth c T' (locs ++ L) (cells + mc) (slots + ms) ∧ (∀ q ∈ L, free q.base) ∧ T'.heap = t.heap ∧ T'.vm = t.vm ∧ Qa st₀ (.returned v) t ∧
      Goes p e below T g T' { g with pc := g.pc + 3, stack := v.toList ++ rest }) ∨
    (∃ (q : Addr) (st₀ t T' : State) (L : List Loc) (E : String) (ce : Cell), st₀.heap = H ∧ Stand p l e R s m args below meth c T' (locs ++ L) (cells + mc) (slots + ms) ∧ (∀ z ∈ L, free z.base) ∧ T'.heap = t.heap ∧ T'.vm = t.vm ∧ XC E st₀ t ∧ t.heap[q]? = some ce ∧ ce.vm = .none ∧ s.vm.findClass E = some ce.cls ∧
      Steps p.tables e below (T.setTop g) ((T'.setTop { g with stack := rest }).pushFrame (.throwing q)))
def vx_X {S : Type} (px : S → Prop) (B : String → S → State → Prop) (A : Nat → Prop) : String → State → State → Prop := fun E st t => ∃ u : S, px u ∧ B E u t ∧ va_F A st t
section Runs
variable {p : Program} {l : Launch} {e : Env} {R : Room} {s : State} {m : MethodId} {args : Array Value} {below : List Frame} {meth : Method} {c : Code} {H : Heap} {locs : List Loc} {cells slots : Nat}
variable {y : MethodName} {bytes cc : ByteArray} {maxL nL mc ms n index : Nat} {ret : Option FieldType} {ws : List Cond} {rm : Room} {Pc : Array Value → State → Prop} {Qc : Array Value → State → Outcome → State → Prop} {XC : String → State → State → Prop} {free : Addr → Prop} {Ts : List Cond} {own C : String} {b : Addr} {As rest : List Value} {g : JFrame}
theorem vx_callBack (cb : CallB R s args own index y bytes maxL ret ws rm mc ms n) (hM : vx_Met l y ws rm Pc Qc XC mc ms free) (hbl : FrameBlind Pc) : vx_Back l R p e below s args y 3 8 (PreOf R mc ms Pc) (PostOf Qc mc ms free) (vx_Post XC mc ms free) := by
  obtain ⟨hrc, hrs, hfr, hlo, hws, hcw, -, hini, -⟩ := cb
  exact vx_back (bytes := bytes) (maxL := maxL) (ret := ret) hM hbl hrc hrs hfr hlo hws hcw (fun a' U hW => word_at hW (Or.inl (by first | rfl | simp [Cond.onTables, Cond.keeps, Cond.steady])) hini)
theorem vx_runV (S : CallFix p m c cc nL s args Ts own) (hM : vx_Met l y ws rm Pc Qc XC mc ms free) (cw : CallW R s args own C index y bytes maxL ret ws rm mc ms n) (hp : PreV s H C b Pc As)
    (hg : g.method = m) (hn : As.length = n) (hsize : g.locals.size = nL) (hstack : g.stack = As.reverse ++ .ref b :: rest) (hW : 2 * g.monitorRoom + (rest.map fun v => v.category).sum ≤ 8) (hdg : decode cc g.pc = .ok (.invokevirtual index, 3)) (hf : cells + mc ≤ R.cells ∧ slots + ms ≤ R.slots) :
    vx_Run p l e R s m args below meth c H locs cells slots mc ms g rest (Qc (Value.ref b :: As).toArray) XC free := by
  have hK : vx_Back l R p e below s args y 3 8 (PreOf R mc ms Pc) (PostOf Qc mc ms free) (vx_Post XC mc ms free) := vx_callBack cw.1 hM hp.1
  obtain ⟨⟨-, -, -, -, -, -, hcode, -, hy, hlen, hl⟩, hin, hse⟩ := cw
  obtain ⟨hx, hb, hml, ho, -⟩ := S
  obtain ⟨-, ⟨cellB, hcB, hoB, hclB⟩, hPc⟩ := hp
  intro T hT X
  rcases vx_callV X hx (C := C) (bytes := bytes) (maxL := maxL) (ret := ret) ho hl hin hse hcode hy hK (by rw [hT]; exact hcB) hoB hclB hg (hsize.trans hml.symm) (argsL := As) (rest := rest) (fun sig h => hn.trans (hlen sig h)) hstack hW (by rw [hb]; exact hdg)
    (fun vm₁ hW₁ => ⟨hf.1, hf.2, hPc (T.setVm vm₁) hT hW₁⟩) with ⟨v, vm₁, ⟨U', l2, c2, s2⟩, hW₁, X', ⟨g', mk, t, L, e1, e2, hq, h1, hL, h2, h3⟩, st⟩ | ⟨q, vm₁, ⟨U', l2, c2, s2⟩, hW₁, X', ⟨g', mk, t, L, E, ce, e1, e2, hq, hce, hcv, hcl, h1, hL, h2, h3⟩, st⟩
  · dsimp only [Pt.U, Pt.locs, Pt.cells, Pt.slots] at X' e1 e2 h1 h2 h3 st
    subst h1; subst h2; subst h3
    exact Or.inl ⟨v, (T.setVm vm₁).calling g' mk (Value.ref b :: As).toArray, t, U', L, hT, X', hL, e1, e2, hq, st⟩
  · dsimp only [Pt.U, Pt.locs, Pt.cells, Pt.slots] at X' e1 e2 h1 h2 h3 st hcl
    subst h1; subst h2; subst h3
    exact Or.inr ⟨q, (T.setVm vm₁).calling g' mk (Value.ref b :: As).toArray, t, U', L, E, ce, hT, X', hL, e1, e2, hq, hce, hcv, vx_cls hW₁ hcl, st⟩
theorem vx_runS (S : CallFix p m c cc nL s args Ts own) (hM : vx_Met l y ws rm Pc Qc XC mc ms free) (cw : CallB R s args own index y bytes maxL ret ws rm mc ms n ∧ (Cond.static y).before args s = true) (hp : PreS s H Pc As)
    (hg : g.method = m) (hn : As.length = n) (hsize : g.locals.size = nL) (hstack : g.stack = As.reverse ++ rest) (hW : 2 * g.monitorRoom + (rest.map fun v => v.category).sum ≤ 8) (hdg : decode cc g.pc = .ok (.invokestatic index, 3)) (hf : cells + mc ≤ R.cells ∧ slots + ms ≤ R.slots) :
    vx_Run p l e R s m args below meth c H locs cells slots mc ms g rest (Qc As.toArray) XC free := by
  have hK : vx_Back l R p e below s args y 3 8 (PreOf R mc ms Pc) (PostOf Qc mc ms free) (vx_Post XC mc ms free) := vx_callBack cw.1 hM hp.1
  obtain ⟨⟨-, -, -, -, -, -, hcode, hini, hy, hlen, hl⟩, hstt⟩ := cw
  obtain ⟨hx, hb, hml, ho, -⟩ := S
  intro T hT X
  rcases vx_callS X hx (bytes := bytes) (maxL := maxL) (ret := ret) ho hl hstt hini hcode hy hK hg (hsize.trans hml.symm) (argsL := As) (rest := rest) (fun sig h => hn.trans (hlen sig h)) hstack hW (by rw [hb]; exact hdg)
    (fun vm₁ hW₁ => ⟨hf.1, hf.2, hp.2 (T.setVm vm₁) hT hW₁⟩) with ⟨v, vm₁, ⟨U', l2, c2, s2⟩, hW₁, X', ⟨g', mk, t, L, e1, e2, hq, h1, hL, h2, h3⟩, st⟩ | ⟨q, vm₁, ⟨U', l2, c2, s2⟩, hW₁, X', ⟨g', mk, t, L, E, ce, e1, e2, hq, hce, hcv, hcl, h1, hL, h2, h3⟩, st⟩
  · dsimp only [Pt.U, Pt.locs, Pt.cells, Pt.slots] at X' e1 e2 h1 h2 h3 st
    subst h1; subst h2; subst h3
    exact Or.inl ⟨v, (T.setVm vm₁).calling g' mk As.toArray, t, U', L, hT, X', hL, e1, e2, hq, st⟩
  · dsimp only [Pt.U, Pt.locs, Pt.cells, Pt.slots] at X' e1 e2 h1 h2 h3 st hcl
    subst h1; subst h2; subst h3
    exact Or.inr ⟨q, (T.setVm vm₁).calling g' mk As.toArray, t, U', L, E, ce, hT, X', hL, e1, e2, hq, hce, hcv, vx_cls hW₁ hcl, st⟩
end Runs
section Rows
variable {p : Program} {l : Launch} {e : Env} {R : Room} {s : State} {m : MethodId} {args : Array Value} {below : List Frame} {meth : Method} {c : Code} {H : Heap} {locs : List Loc} {cells slots : Nat} {Q : State → Prop}
variable {mc ms : Nat} {free : Addr → Prop} {A0 A1 : Nat → Prop} {H0 : Heap} {a : Array Value} {pc : Nat} {ls : Array Slot} {st0 rest : List Value}
theorem vx_keep {st₀ t T' : State} {L : List Loc} (h0 : st₀.heap = H) (e1 : T'.heap = t.heap) (hS : va_S A0 H0 H locs) (hA : ∀ q, q < H.size → A1 q → A0 q) (hf : ∀ q, free q → A0 q) (hL : ∀ q ∈ L, free q.base) (hF : va_F A1 st₀ t) :
    H.size ≤ T'.heap.size ∧ (∀ q : Nat, q < H.size → ¬ A1 q → T'.heap[q]? = H[q]?) ∧ va_S A0 H0 T'.heap (locs ++ L) := by
  obtain ⟨hz, hk⟩ := hF
  rw [h0] at hz hk
  exact ⟨by rw [e1]; exact hz, fun q h1 h2 => by rw [e1]; exact hk q h1 h2,
    ⟨Nat.le_trans hS.1 (by rw [e1]; exact hz), fun q h1 h2 => by rw [e1, hk q (Nat.lt_of_lt_of_le h1 hS.1) (fun z => h2 (hA q (Nat.lt_of_lt_of_le h1 hS.1) z))]; exact hS.2.1 q h1 h2, fun q hq => by
      rcases List.mem_append.mp hq with h | h
      · exact hS.2.2 q h
      · exact hf _ (hL q h)⟩⟩
theorem vx_calli {S SX : Type} {post : Int32 → S → Prop} {px : SX → Prop} {B : S → State → Prop} {BX : String → SX → State → Prop} {AX : Nat → Prop} (hr : vx_Run p l e R s m args below meth c H locs cells slots mc ms (F0 m pc ls st0) rest (va_Qi post B A1 a) (vx_X px BX AX) free) (hS : va_S A0 H0 H locs) (hA : ∀ q, q < H.size → A1 q → A0 q) (hf : ∀ q, free q → A0 q) (hAX : ∀ q, q < H.size → AX q → A0 q)
    (kx : ∀ (E : String) (ce : Cell) (q9 : Addr) (u : SX) (t : State) (H1 : Heap) (locs1 : List Loc), t.heap = H1 → s.vm.Alike t.vm → px u → BX E u t → H.size ≤ H1.size → (∀ q : Nat, q < H.size → ¬ AX q → H1[q]? = H[q]?) → va_S A0 H0 H1 locs1 → H1[q9]? = some ce → ce.vm = .none → s.vm.findClass E = some ce.cls → vx_W p l e R s m args below meth c H1 locs1 (cells + mc) (slots + ms) Q (F0 m pc ls rest) q9)
    (kk : ∀ (r : Int32) (u : S) (t : State) (H1 : Heap) (locs1 : List Loc), t.heap = H1 → s.vm.Alike t.vm → post r u → B u t → H.size ≤ H1.size → (∀ q : Nat, q < H.size → ¬ A1 q → H1[q]? = H[q]?) → va_S A0 H0 H1 locs1 → W p l e R s m args below meth c H1 locs1 (cells + mc) (slots + ms) Q (F0 m (pc + 3) ls (.int r :: rest))) : W p l e R s m args below meth c H locs cells slots Q (F0 m pc ls st0) := by
  intro T hT X
  rcases hr T hT X with ⟨v, st₀, t, T', L, h0, X', hL, e1, e2, ⟨⟨r, u, hv, hp, hb⟩, hF⟩, st⟩ | ⟨q, st₀, t, T', L, E, ce, h0, X', hL, e1, e2, ⟨u, hp, hb, hF⟩, hce, hcv, hcl, st⟩
  · cases hv
    obtain ⟨k1, k2, k3⟩ := vx_keep h0 e1 hS hA hf hL hF
    obtain ⟨t2, a1, b1⟩ := kk r u t T'.heap (locs ++ L) e1.symm (by rw [← e2]; exact X'.warmed.alike) hp hb k1 k2 k3 T' rfl X'
    exact ⟨t2, st t2 a1, b1⟩
  · obtain ⟨k1, k2, k3⟩ := vx_keep h0 e1 hS hAX hf hL hF
    obtain ⟨t2, a1, b1⟩ := kx E ce q u t T'.heap (locs ++ L) e1.symm (by rw [← e2]; exact X'.warmed.alike) hp hb k1 k2 k3 (by rw [e1]; exact hce) hcv hcl T' rfl X'
    exact ⟨t2, st.trans a1, b1⟩
theorem vx_calll {S SX : Type} {post : Int64 → S → Prop} {px : SX → Prop} {B : S → State → Prop} {BX : String → SX → State → Prop} {AX : Nat → Prop} (hr : vx_Run p l e R s m args below meth c H locs cells slots mc ms (F0 m pc ls st0) rest (va_Ql post B A1 a) (vx_X px BX AX) free) (hS : va_S A0 H0 H locs) (hA : ∀ q, q < H.size → A1 q → A0 q) (hf : ∀ q, free q → A0 q) (hAX : ∀ q, q < H.size → AX q → A0 q)
    (kx : ∀ (E : String) (ce : Cell) (q9 : Addr) (u : SX) (t : State) (H1 : Heap) (locs1 : List Loc), t.heap = H1 → s.vm.Alike t.vm → px u → BX E u t → H.size ≤ H1.size → (∀ q : Nat, q < H.size → ¬ AX q → H1[q]? = H[q]?) → va_S A0 H0 H1 locs1 → H1[q9]? = some ce → ce.vm = .none → s.vm.findClass E = some ce.cls → vx_W p l e R s m args below meth c H1 locs1 (cells + mc) (slots + ms) Q (F0 m pc ls rest) q9)
    (kk : ∀ (r : Int64) (u : S) (t : State) (H1 : Heap) (locs1 : List Loc), t.heap = H1 → s.vm.Alike t.vm → post r u → B u t → H.size ≤ H1.size → (∀ q : Nat, q < H.size → ¬ A1 q → H1[q]? = H[q]?) → va_S A0 H0 H1 locs1 → W p l e R s m args below meth c H1 locs1 (cells + mc) (slots + ms) Q (F0 m (pc + 3) ls (.long r :: rest))) : W p l e R s m args below meth c H locs cells slots Q (F0 m pc ls st0) := by
  intro T hT X
  rcases hr T hT X with ⟨v, st₀, t, T', L, h0, X', hL, e1, e2, ⟨⟨r, u, hv, hp, hb⟩, hF⟩, st⟩ | ⟨q, st₀, t, T', L, E, ce, h0, X', hL, e1, e2, ⟨u, hp, hb, hF⟩, hce, hcv, hcl, st⟩
  · cases hv
    obtain ⟨k1, k2, k3⟩ := vx_keep h0 e1 hS hA hf hL hF
    obtain ⟨t2, a1, b1⟩ := kk r u t T'.heap (locs ++ L) e1.symm (by rw [← e2]; exact X'.warmed.alike) hp hb k1 k2 k3 T' rfl X'
    exact ⟨t2, st t2 a1, b1⟩
  · obtain ⟨k1, k2, k3⟩ := vx_keep h0 e1 hS hAX hf hL hF
    obtain ⟨t2, a1, b1⟩ := kx E ce q u t T'.heap (locs ++ L) e1.symm (by rw [← e2]; exact X'.warmed.alike) hp hb k1 k2 k3 (by rw [e1]; exact hce) hcv hcl T' rfl X'
    exact ⟨t2, st.trans a1, b1⟩
theorem vx_callf {S SX : Type} {post : UInt32 → S → Prop} {px : SX → Prop} {B : S → State → Prop} {BX : String → SX → State → Prop} {AX : Nat → Prop} (hr : vx_Run p l e R s m args below meth c H locs cells slots mc ms (F0 m pc ls st0) rest (va_Qf post B A1 a) (vx_X px BX AX) free) (hS : va_S A0 H0 H locs) (hA : ∀ q, q < H.size → A1 q → A0 q) (hf : ∀ q, free q → A0 q) (hAX : ∀ q, q < H.size → AX q → A0 q)
    (kx : ∀ (E : String) (ce : Cell) (q9 : Addr) (u : SX) (t : State) (H1 : Heap) (locs1 : List Loc), t.heap = H1 → s.vm.Alike t.vm → px u → BX E u t → H.size ≤ H1.size → (∀ q : Nat, q < H.size → ¬ AX q → H1[q]? = H[q]?) → va_S A0 H0 H1 locs1 → H1[q9]? = some ce → ce.vm = .none → s.vm.findClass E = some ce.cls → vx_W p l e R s m args below meth c H1 locs1 (cells + mc) (slots + ms) Q (F0 m pc ls rest) q9)
    (kk : ∀ (r : UInt32) (u : S) (t : State) (H1 : Heap) (locs1 : List Loc), t.heap = H1 → s.vm.Alike t.vm → post r u → B u t → H.size ≤ H1.size → (∀ q : Nat, q < H.size → ¬ A1 q → H1[q]? = H[q]?) → va_S A0 H0 H1 locs1 → W p l e R s m args below meth c H1 locs1 (cells + mc) (slots + ms) Q (F0 m (pc + 3) ls (.float r :: rest))) : W p l e R s m args below meth c H locs cells slots Q (F0 m pc ls st0) := by
  intro T hT X
  rcases hr T hT X with ⟨v, st₀, t, T', L, h0, X', hL, e1, e2, ⟨⟨r, u, hv, hp, hb⟩, hF⟩, st⟩ | ⟨q, st₀, t, T', L, E, ce, h0, X', hL, e1, e2, ⟨u, hp, hb, hF⟩, hce, hcv, hcl, st⟩
  · cases hv
    obtain ⟨k1, k2, k3⟩ := vx_keep h0 e1 hS hA hf hL hF
    obtain ⟨t2, a1, b1⟩ := kk r u t T'.heap (locs ++ L) e1.symm (by rw [← e2]; exact X'.warmed.alike) hp hb k1 k2 k3 T' rfl X'
    exact ⟨t2, st t2 a1, b1⟩
  · obtain ⟨k1, k2, k3⟩ := vx_keep h0 e1 hS hAX hf hL hF
    obtain ⟨t2, a1, b1⟩ := kx E ce q u t T'.heap (locs ++ L) e1.symm (by rw [← e2]; exact X'.warmed.alike) hp hb k1 k2 k3 (by rw [e1]; exact hce) hcv hcl T' rfl X'
    exact ⟨t2, st.trans a1, b1⟩
theorem vx_calld {S SX : Type} {post : UInt64 → S → Prop} {px : SX → Prop} {B : S → State → Prop} {BX : String → SX → State → Prop} {AX : Nat → Prop} (hr : vx_Run p l e R s m args below meth c H locs cells slots mc ms (F0 m pc ls st0) rest (va_Qd post B A1 a) (vx_X px BX AX) free) (hS : va_S A0 H0 H locs) (hA : ∀ q, q < H.size → A1 q → A0 q) (hf : ∀ q, free q → A0 q) (hAX : ∀ q, q < H.size → AX q → A0 q)
    (kx : ∀ (E : String) (ce : Cell) (q9 : Addr) (u : SX) (t : State) (H1 : Heap) (locs1 : List Loc), t.heap = H1 → s.vm.Alike t.vm → px u → BX E u t → H.size ≤ H1.size → (∀ q : Nat, q < H.size → ¬ AX q → H1[q]? = H[q]?) → va_S A0 H0 H1 locs1 → H1[q9]? = some ce → ce.vm = .none → s.vm.findClass E = some ce.cls → vx_W p l e R s m args below meth c H1 locs1 (cells + mc) (slots + ms) Q (F0 m pc ls rest) q9)
    (kk : ∀ (r : UInt64) (u : S) (t : State) (H1 : Heap) (locs1 : List Loc), t.heap = H1 → s.vm.Alike t.vm → post r u → B u t → H.size ≤ H1.size → (∀ q : Nat, q < H.size → ¬ A1 q → H1[q]? = H[q]?) → va_S A0 H0 H1 locs1 → W p l e R s m args below meth c H1 locs1 (cells + mc) (slots + ms) Q (F0 m (pc + 3) ls (.double r :: rest))) : W p l e R s m args below meth c H locs cells slots Q (F0 m pc ls st0) := by
  intro T hT X
  rcases hr T hT X with ⟨v, st₀, t, T', L, h0, X', hL, e1, e2, ⟨⟨r, u, hv, hp, hb⟩, hF⟩, st⟩ | ⟨q, st₀, t, T', L, E, ce, h0, X', hL, e1, e2, ⟨u, hp, hb, hF⟩, hce, hcv, hcl, st⟩
  · cases hv
    obtain ⟨k1, k2, k3⟩ := vx_keep h0 e1 hS hA hf hL hF
    obtain ⟨t2, a1, b1⟩ := kk r u t T'.heap (locs ++ L) e1.symm (by rw [← e2]; exact X'.warmed.alike) hp hb k1 k2 k3 T' rfl X'
    exact ⟨t2, st t2 a1, b1⟩
  · obtain ⟨k1, k2, k3⟩ := vx_keep h0 e1 hS hAX hf hL hF
    obtain ⟨t2, a1, b1⟩ := kx E ce q u t T'.heap (locs ++ L) e1.symm (by rw [← e2]; exact X'.warmed.alike) hp hb k1 k2 k3 (by rw [e1]; exact hce) hcv hcl T' rfl X'
    exact ⟨t2, st.trans a1, b1⟩
theorem vx_callv {S SX : Type} {post : S → Prop} {px : SX → Prop} {B : S → State → Prop} {BX : String → SX → State → Prop} {AX : Nat → Prop} (hr : vx_Run p l e R s m args below meth c H locs cells slots mc ms (F0 m pc ls st0) rest (va_Qv post B A1 a) (vx_X px BX AX) free) (hS : va_S A0 H0 H locs) (hA : ∀ q, q < H.size → A1 q → A0 q) (hf : ∀ q, free q → A0 q) (hAX : ∀ q, q < H.size → AX q → A0 q)
    (kx : ∀ (E : String) (ce : Cell) (q9 : Addr) (u : SX) (t : State) (H1 : Heap) (locs1 : List Loc), t.heap = H1 → s.vm.Alike t.vm → px u → BX E u t → H.size ≤ H1.size → (∀ q : Nat, q < H.size → ¬ AX q → H1[q]? = H[q]?) → va_S A0 H0 H1 locs1 → H1[q9]? = some ce → ce.vm = .none → s.vm.findClass E = some ce.cls → vx_W p l e R s m args below meth c H1 locs1 (cells + mc) (slots + ms) Q (F0 m pc ls rest) q9)
    (kk : ∀ (u : S) (t : State) (H1 : Heap) (locs1 : List Loc), t.heap = H1 → s.vm.Alike t.vm → post u → B u t → H.size ≤ H1.size → (∀ q : Nat, q < H.size → ¬ A1 q → H1[q]? = H[q]?) → va_S A0 H0 H1 locs1 → W p l e R s m args below meth c H1 locs1 (cells + mc) (slots + ms) Q (F0 m (pc + 3) ls (rest))) : W p l e R s m args below meth c H locs cells slots Q (F0 m pc ls st0) := by
  intro T hT X
  rcases hr T hT X with ⟨v, st₀, t, T', L, h0, X', hL, e1, e2, ⟨⟨u, hv, hp, hb⟩, hF⟩, st⟩ | ⟨q, st₀, t, T', L, E, ce, h0, X', hL, e1, e2, ⟨u, hp, hb, hF⟩, hce, hcv, hcl, st⟩
  · cases hv
    obtain ⟨k1, k2, k3⟩ := vx_keep h0 e1 hS hA hf hL hF
    obtain ⟨t2, a1, b1⟩ := kk u t T'.heap (locs ++ L) e1.symm (by rw [← e2]; exact X'.warmed.alike) hp hb k1 k2 k3 T' rfl X'
    exact ⟨t2, st t2 a1, b1⟩
  · obtain ⟨k1, k2, k3⟩ := vx_keep h0 e1 hS hAX hf hL hF
    obtain ⟨t2, a1, b1⟩ := kx E ce q u t T'.heap (locs ++ L) e1.symm (by rw [← e2]; exact X'.warmed.alike) hp hb k1 k2 k3 (by rw [e1]; exact hce) hcv hcl T' rfl X'
    exact ⟨t2, st.trans a1, b1⟩
end Rows
section Ends
variable {p : Program} {l : Launch} {e : Env} {R : Room} {s : State} {m : MethodId} {args : Array Value} {below : List Frame} {meth : Method} {c : Code} {H : Heap} {locs : List Loc} {cells slots : Nat} {Q : State → Prop}
variable {mc ms : Nat} {free : Addr → Prop} {A0 A1 : Nat → Prop} {H0 : Heap} {a : Array Value} {ls : Array Slot} {st0 rest : List Value}
variable {Qc : Array Value → State → Outcome → State → Prop} {XC : String → State → State → Prop}
/-- what a body that may throw owes at its end -/
def vx_MQ (below : List Frame) (Qc : Array Value → State → Outcome → State → Prop) (XC : String → State → State → Prop) (a : Array Value) (s : State) (mc ms : Nat) (free : Addr → Prop) : State → Prop := fun t =>
  ∃ o, t.status = .running ∧ Ended t below o ∧ vx_Q Qc XC mc ms free a s o t
theorem vx_ret {g : JFrame} {mc ms : Nat} (k : W p l e R s m args below meth c H locs cells slots (MQ below Qc args s mc ms free) g) : W p l e R s m args below meth c H locs cells slots (vx_MQ below Qc XC args s mc ms free) g := by
  intro T hT X
  obtain ⟨t, a1, o, b1, b2, b3, b4⟩ := k T hT X
  exact ⟨t, a1, o, b1, b2, Or.inl ⟨b3, b4⟩⟩
/-- not caught here: it goes on to the caller -/
theorem vx_widen {g : JFrame} {q : Addr} {k n : Nat} (h1 : cells ≤ k) (h2 : slots ≤ n) (kk : vx_W p l e R s m args below meth c H locs k n Q g q) : vx_W p l e R s m args below meth c H locs cells slots Q g q := fun T hT X => kk T hT (stand_widen X h1 h2)
theorem vx_out {pc : Nat} {E : String} {ce : Cell} {q : Addr} {mc ms : Nat} (hout : ∀ x ∈ c.exceptionTable.toList, covers x pc = false) (hlocks : meth.locks = false) (hcell : H[q]? = some ce) (hv : ce.vm = .none) (hcl : s.vm.findClass E = some ce.cls)
    (hx : ∀ t : State, t.heap = H → s.vm.Alike t.vm → XC E s t) (hf : ∀ z ∈ locs, free z.base) (hc : cells ≤ mc) (hs : slots ≤ ms) :
    vx_W p l e R s m args below meth c H locs cells slots (vx_MQ below Qc XC args s mc ms free) (F0 m pc ls rest) q := by
  intro T hT X
  obtain ⟨st1, hrun, hend, hW, hsm⟩ := X.leaveThrown q (g := F0 m pc ls rest) rfl rfl rfl hout hlocks
  have hcell9 : (T.setFrames (.throwing q :: below)).heap[q]? = some ce := by
    show T.heap[q]? = some ce
    rw [hT]; exact hcell
  exact ⟨_, st1, .threw q, hrun, hend, Or.inr ⟨q, rfl, E, ce, locs, hx _ hT hW.alike, hcell9, hv, hcl, hW, hsm.mono hc hs, hf⟩⟩
theorem vx_frame {U : State} {k n : Nat} (h : s.sameButNew ({ U with vm := s.vm } : State) locs k n) : s.heap.size ≤ U.heap.size ∧ ∀ q : Nat, q < s.heap.size → (∀ z ∈ locs, z.base ≠ q) → U.heap[q]? = s.heap[q]? := by
  obtain ⟨-, h2, -, -, -, h6⟩ := h
  refine ⟨h2, fun q hq hz => ?_⟩
  obtain ⟨c9, e1, e2, e3, e4⟩ := h6 q _ (Array.getElem?_eq_getElem hq)
  have hs : c9.slots = (s.heap[q]).slots := Array.ext_getElem? fun i => e4 i fun hm => hz _ hm rfl
  have h9 : c9 = s.heap[q] := by
    rw [hs] at e2
    exact e2
  have e5 : U.heap[q]? = some c9 := e1
  rw [e5, h9, Array.getElem?_eq_getElem hq]
/-- the words of a throw but the four that speak of the heap -/
def vx_no (w : Cond) : Bool := decide (w ≠ .isRef (.static Bundle.tN "UNASSIGNED_STACK" Bundle.steD)) && decide (w ≠ .isRef (.static Bundle.tN "SUPPRESSED_SENTINEL" Bundle.listD)) && decide (w ≠ .laysStatic Bundle.tN "UNASSIGNED_STACK" Bundle.steD) && decide (w ≠ .laysStatic Bundle.tN "SUPPRESSED_SENTINEL" Bundle.listD)
def vx_at0 (own : String) (ic : Nat) (X : String) (names : List String) : List Cond := (Bundle.ownAtoms0 own ic X names).filter vx_no
def vx_atS (own : String) (ic : Nat) (X : String) (names : List String) : List Cond := (Bundle.ownAtoms own ic X names).filter vx_no
/-- a word that the tables alone decide, or a good one -/
def vx_ot (w : Cond) : Bool := w.onTables || goodWord w
theorem vx_ot_at {args a' : Array Value} {s U : State} {w : Cond} (hW : s.WarmedH U.vm) (hvm : s.vm = U.vm) (hg : vx_ot w = true) (h : w.before args s = true) : w.before a' U = true := by
  simp only [vx_ot, Bool.or_eq_true] at hg
  rcases hg with hg | hg
  · exact va_tabs hg hvm h
  · exact word_at hW (good_of_word hg) h
/-- a list's words: the good ones out of the method's own list, the others by premises of their own -/
theorem vx_hat {args : Array Value} {s : State} {L B : List Cond} (h1 : ∀ w ∈ L.filter goodWord, w.before args s = true) (h2 : ∀ w ∈ L.filter (fun w => !goodWord w), w ∈ B) (h3 : ∀ w ∈ B, w.before args s = true) : ∀ w ∈ L, w.before args s = true := by
  intro w hw
  by_cases g : goodWord w = true
  · exact h1 w (List.mem_filter.mpr ⟨hw, g⟩)
  · refine h3 w (h2 w (List.mem_filter.mpr ⟨hw, ?_⟩))
    show (!goodWord w) = true
    cases hgw : goodWord w
    · rfl
    · exact absurd hgw g
theorem vx_c {args : Array Value} {s : State} {w : Cond} {B : List Cond} (h : w.before args s = true) (t : ∀ w ∈ B, w.before args s = true) : ∀ w' ∈ w :: B, w'.before args s = true := fun w' h' => (List.mem_cons.mp h').elim (fun e => by rw [e]; exact h) (t w')
theorem vx_n {args : Array Value} {s : State} : ∀ w ∈ ([] : List Cond), w.before args s = true := fun _ h => nomatch h
theorem vx_own {args : Array Value} {s : State} {L : List Cond} (h1 : ∀ w ∈ L.filter vx_no, w.before args s = true)
    (hU : (Cond.isRef (.static Bundle.tN "UNASSIGNED_STACK" Bundle.steD)).before args s = true) (hN : (Cond.isRef (.static Bundle.tN "SUPPRESSED_SENTINEL" Bundle.listD)).before args s = true)
    (lU : (Cond.laysStatic Bundle.tN "UNASSIGNED_STACK" Bundle.steD).before args s = true) (lN : (Cond.laysStatic Bundle.tN "SUPPRESSED_SENTINEL" Bundle.listD).before args s = true) : ∀ w ∈ L, w.before args s = true := by
  intro w hw
  by_cases e1 : w = .isRef (.static Bundle.tN "UNASSIGNED_STACK" Bundle.steD)
  · rw [e1]; exact hU
  · by_cases e2 : w = .isRef (.static Bundle.tN "SUPPRESSED_SENTINEL" Bundle.listD)
    · rw [e2]; exact hN
    · by_cases e3 : w = .laysStatic Bundle.tN "UNASSIGNED_STACK" Bundle.steD
      · rw [e3]; exact lU
      · by_cases e4 : w = .laysStatic Bundle.tN "SUPPRESSED_SENTINEL" Bundle.listD
        · rw [e4]; exact lN
        · exact h1 w (List.mem_filter.mpr ⟨hw, by unfold vx_no; rw [decide_eq_true e1, decide_eq_true e2, decide_eq_true e3, decide_eq_true e4]; rfl⟩)
/-- where a static field lies, its class's statics cell in H -/
def vx_L (C n d : String) (A : Nat → Prop) (U : State) (H : Heap) : Prop := ∃ (c : ClassId) (k : Class) (i : Nat) (f : Field) (a : Nat) (cell : Cell), U.vm.findClass C = some c ∧ U.fieldFound? C n d = some (c, k, i, f) ∧ f.isStatic = true ∧ k.statics = some a ∧ H[a]? = some cell ∧ cell.vm.isStatics = true ∧ cell.cls = c ∧ f.slot < cell.slots.size ∧ k.staticTypes[f.slot]? = some f.type ∧ ¬ A a
theorem vx_L.moved {C n d : String} {A : Nat → Prop} {u U : State} {H : Heap} (hvm : u.vm.Alike U.vm) (h : vx_L C n d A u H) : vx_L C n d A U H := by
  obtain ⟨c, k, i, f, a, cell, h1, h2, h3, h4, h5, h6, h7, h8, h9, h10⟩ := h
  obtain ⟨k', hi', he⟩ := State.fieldFound?_setVm hvm h2
  exact ⟨c, k', i, f, a, cell, by rw [hvm.findClass]; exact h1, hi', h3, by rw [he]; exact h4, h5, h6, h7, h8, by rw [he]; exact h9, h10⟩
theorem vx_L.kept {C n d : String} {A : Nat → Prop} {U : State} {H H1 : Heap} (h : vx_L C n d A U H) (hq : ∀ a : Nat, a < H.size → ¬ A a → H1[a]? = H[a]?) : vx_L C n d A U H1 := by
  obtain ⟨c, k, i, f, a, cell, h1, h2, h3, h4, h5, h6, h7, h8, h9, h10⟩ := h
  exact ⟨c, k, i, f, a, cell, h1, h2, h3, h4, by rw [hq a (Array.getElem?_eq_some_iff.mp h5).1 h10]; exact h5, h6, h7, h8, h9, h10⟩
theorem vx_L.narrow {C n d : String} {A B : Nat → Prop} {U : State} {H : Heap} (h : vx_L C n d A U H) (hAB : ∀ q, B q → A q) : vx_L C n d B U H := by
  obtain ⟨c, k, i, f, a, cell, h1, h2, h3, h4, h5, h6, h7, h8, h9, h10⟩ := h
  exact ⟨c, k, i, f, a, cell, h1, h2, h3, h4, h5, h6, h7, h8, h9, fun z => h10 (hAB _ z)⟩
theorem vx_L.word {C n d : String} {A : Nat → Prop} {s : State} {args : Array Value} (h : vx_L C n d A s s.heap) : (Cond.laysStatic C n d).before args s = true := by
  obtain ⟨c, k, i, f, a, cell, h1, h2, h3, h4, h5, h6, h7, h8, h9, -⟩ := h
  show (Cond.laysStatic C n d).holds args s none s [] = true
  exact Cond.laysStatic_of h1 h2 h3 h4 h5 h6 h7 h8 h9
/-- .. and what it holds: null or some reference -/
def vx_Zq (C n d : String) (A : Nat → Prop) (U : State) (H : Heap) : Prop := va_Zq C n d A U H ∧ vx_L C n d A U H
theorem vx_Zq.moved {C n d : String} {A : Nat → Prop} {u U : State} {H : Heap} (hvm : u.vm.Alike U.vm) (h : vx_Zq C n d A u H) : vx_Zq C n d A U H := ⟨va_Zq.moved hvm h.1, vx_L.moved hvm h.2⟩
theorem vx_Zq.kept {C n d : String} {A : Nat → Prop} {U : State} {H H1 : Heap} (h : vx_Zq C n d A U H) (hq : ∀ a : Nat, a < H.size → ¬ A a → H1[a]? = H[a]?) : vx_Zq C n d A U H1 := ⟨va_Zq.kept h.1 hq, vx_L.kept h.2 hq⟩
theorem vx_Zq.narrow {C n d : String} {A B : Nat → Prop} {U : State} {H : Heap} (h : vx_Zq C n d A U H) (hAB : ∀ q, B q → A q) : vx_Zq C n d B U H := ⟨va_Zq.narrow h.1 hAB, vx_L.narrow h.2 hAB⟩
theorem vx_Zqof {args : Array Value} {s : State} {C n d : String} {A : Nat → Prop} (hl : (Cond.laysStatic C n d).before args s = true) (hini : (Cond.initialized C).before args s = true) (h : (Cond.isRef (.static C n d)).before args s = true) (hA : ∀ a : Nat, a < s.heap.size → ¬ A a) : vx_Zq C n d A s s.heap := by
  refine ⟨va_Zqof hl hini h hA, ?_⟩
  obtain ⟨c, k, i, f, a, cell, h1, h2, h3, h4, h5, h6, h7, h8, h9⟩ := Cond.laysStatic_spec hl
  exact ⟨c, k, i, f, a, cell, h1, h2, h3, h4, h5, h6, h7, h8, h9, hA a (Array.getElem?_eq_some_iff.mp h5).1⟩
theorem vx_isRef {C n d : String} {v : Value} {A : Nat → Prop} {s : State} {args : Array Value} (h : va_Z C n d v A s s.heap) (hv : v.isRef = true) : (Cond.isRef (.static C n d)).before args s = true := by
  obtain ⟨cf, kf, fi, f, a, cell, h1, h2, h3, h4, h5, h6, h7, -⟩ := h
  have he : (Term.static C n d).eval args s none [] s = some v := by
    simp [Term.eval, State.fieldNamed?, h1, h2, h4, h5, h6, h7]
  simp only [Cond.before, Cond.holds, Cond.value, he]
  cases v <;> simp_all [Value.isRef]
theorem vx_isRefq {C n d : String} {A : Nat → Prop} {s : State} {args : Array Value} (h : va_Zq C n d A s s.heap) : (Cond.isRef (.static C n d)).before args s = true := by
  rcases h with h | ⟨t, h⟩
  · exact vx_isRef h rfl
  · exact vx_isRef h rfl
/-- the same frame, seen from here: as if the method were called anew in this heap -/
theorem vx_rebase {T : State} (X : Stand p l e R s m args below meth c T locs cells slots) {R' : Room} (hf : R'.frames ≤ R.frames) (hl : R'.locals ≤ R.locals) (hc : cells + R'.cells ≤ R.cells) (hs : slots + R'.slots ≤ R.slots) :
    Stand p l e R' ((T.setVm s.vm).setFrames (.invoking m args :: below)) m args below meth c T [] 0 0 := by
  have htop : (T.setVm s.vm).topJava?.isSome := X.here.top
  have hF : ((T.setVm s.vm).setFrames (.invoking m args :: below)).frames = .invoking m args :: below := State.frames_setFrames _ (State.cur_lt_of_top htop)
  obtain ⟨g₀, hg0⟩ := Option.isSome_iff_exists.mp htop
  obtain ⟨r, hr⟩ := State.topJava?_eq_some.mp hg0
  have hl9 : e.platform.stackLimits (T.setVm s.vm).me = e.platform.stackLimits s.me := X.limits
  have hb9 : (T.setVm s.vm).me.stackBytes = s.me.stackBytes := X.bytes
  refine ⟨X.admits, X.cas, X.clock, hF, ?_, X.hears, X.method, X.code, X.here, X.tail, X.warmed, ?_, ?_, ?_⟩
  · have h := X.room
    have hU : ((T.setVm s.vm).setFrames (.invoking m args :: below)).localsInUse = s.localsInUse := by
      rw [State.localsInUse_invoking hF (meth := meth) (c := c) X.method X.code, State.localsInUse_invoking X.frames X.method X.code]
    simp only [State.hasRoom, Bool.and_eq_true, decide_eq_true_eq] at h ⊢
    obtain ⟨⟨⟨⟨h1, h2, h3, h4, h5, h6⟩, h7⟩, h8⟩, h9⟩ := h
    rw [X.frames, List.length_cons] at h2 h3
    have q1 := X.heapSize
    have q2 := X.used
    simp only [hF, hU, List.length_cons, State.stackLimits_setFrames, State.stackBytes_setFrames, hl9, hb9]
    refine ⟨⟨⟨⟨by omega, by omega, by omega, by omega, by omega, h6⟩, ?_⟩, ?_⟩, X.book⟩
    · show T.heap.size + R'.cells ≤ e.platform.maxCells
      omega
    · show T.slotsUsed + R'.slots ≤ e.platform.maxSlots
      omega
  · rw [State.stackLimits_setFrames]; rfl
  · rw [State.stackBytes_setFrames]; rfl
  · refine ⟨?_, Nat.le_refl _, Nat.le_refl _, ?_, ?_, fun a c9 h9 => ⟨c9, h9, rfl, rfl, fun _ _ => rfl⟩⟩
    · obtain ⟨t, ht, -⟩ := State.frames_cons hr
      show T.setVm s.vm = { ((T.setVm s.vm).setFrames (.invoking m args :: below)).setFrames (T.setVm s.vm).frames with heap := T.heap, slotsUsed := T.slotsUsed }
      rw [State.setFrames_setFrames, State.setFrames_self ht]
      rfl
    · show T.slotsUsed = T.slotsUsed + ((T.heap.toList.drop T.heap.size).map (·.slots.size)).sum
      rw [List.drop_eq_nil_of_le (Nat.le_of_eq Array.length_toList)]
      rfl
    · show ((T.heap.toList.drop T.heap.size).map (·.slots.size)).sum ≤ 0
      rw [List.drop_eq_nil_of_le (Nat.le_of_eq Array.length_toList)]
      exact Nat.le_refl _
/-- 'throw new E()': new; dup; invokespecial; athrow -/
theorem vx_throw0 {cc : ByteArray} {pc : Nat} (hexec : p.tables.exec = Jvm.exec) (hb : c.code = cc) (hl : l.stackTraces = false) {own cls : String} {names : List String} {ik ic mc ms : Nat} {A : Nat → Prop}
    (hown : s.vm.findClass own = some m.cls) (hcls : Bundle.fit cls = true) (hnames : ∀ n ∈ names, Bundle.fit n = true)
    (hk : (Cond.classLink own ik cls).before args s = true) (hini : (Cond.initialized cls).before args s = true) (hat : ∀ w ∈ vx_at0 own ic cls names, w.before args s = true)
    (hgood : ∀ w ∈ Cond.classLink own ik cls :: Cond.initialized cls :: vx_at0 own ic cls names, vx_ot w = true)
    (hU : vx_Zq Bundle.tN "UNASSIGNED_STACK" Bundle.steD A s s.heap) (hN : vx_Zq Bundle.tN "SUPPRESSED_SENTINEL" Bundle.listD A s s.heap) (hS : va_S A s.heap H locs) (hsize : ls.size = c.maxLocals)
    (d0 : decode cc pc = .ok (.new ik, 3)) (d3 : decode cc (pc + 3) = .ok (.dup, 1)) (d4 : decode cc (pc + 4) = .ok (.invokespecial ic, 3)) (d7 : decode cc (pc + 7) = .ok (.athrow, 1))
    (hout : ∀ x ∈ c.exceptionTable.toList, covers x (pc + 7) = false)
    (hRframes : names.length + 3 < R.frames) (hRlocals : (rest.map fun v => v.category).sum + (13 * (names.length + 1) + 42) ≤ R.locals) (hRcells : cells + 1 ≤ R.cells) (hRslots : slots + 6 ≤ R.slots) (hlocks : meth.locks = false)
    (hx : ∀ t : State, s.vm.Alike t.vm → H.size ≤ t.heap.size → (∀ q : Nat, q < H.size → t.heap[q]? = H[q]?) → XC cls s t)
    (hf : ∀ z ∈ locs, free z.base) (hc : cells + 1 ≤ mc) (hs : slots + 6 ≤ ms) :
    W p l e R s m args below meth c H locs cells slots (vx_MQ below Qc XC args s mc ms free) (F0 m pc ls rest) := by
  intro T hT X
  have htr : e.platform.stackTraces = false := (show e.platform.stackTraces = l.stackTraces by rw [X.admits.platform]).trans hl
  have Y := vx_rebase X (R' := { frames := R.frames, locals := R.locals, cells := 1, slots := 6 }) (Nat.le_refl _) (Nat.le_refl _) hRcells hRslots
  obtain ⟨s', hA⟩ : ∃ z, z = (T.setVm s.vm).setFrames (.invoking m args :: below) := ⟨_, rfl⟩
  rw [← hA] at Y
  have hvm : s'.vm = s.vm := by rw [hA]; rfl
  have hhp : s'.heap = H := by rw [hA]; exact hT
  have hW0 : s.WarmedH s'.vm := by rw [hvm]; exact State.WarmedH.refl s
  have hat' : ∀ w ∈ vx_at0 own ic cls names, w.before args s' = true := fun w hw => vx_ot_at hW0 hvm.symm (hgood w (List.mem_cons_of_mem _ (List.mem_cons_of_mem _ hw))) (hat w hw)
  have hk' : (Cond.classLink own ik cls).before args s' = true := vx_ot_at hW0 hvm.symm (hgood _ List.mem_cons_self) hk
  have hini' : (Cond.initialized cls).before args s' = true := vx_ot_at hW0 hvm.symm (hgood _ (List.mem_cons_of_mem _ List.mem_cons_self)) hini
  have hU' : vx_Zq Bundle.tN "UNASSIGNED_STACK" Bundle.steD A s' s'.heap := by rw [hhp]; exact vx_Zq.moved hW0.alike (hU.kept hS.2.1)
  have hN' : vx_Zq Bundle.tN "SUPPRESSED_SENTINEL" Bundle.listD A s' s'.heap := by rw [hhp]; exact vx_Zq.moved hW0.alike (hN.kept hS.2.1)
  have h : ∀ w ∈ Bundle.ownAtoms0 own ic cls names, w.before args s' = true := vx_own hat' (vx_isRefq hU'.1) (vx_isRefq hN'.1) hU'.2.word hN'.2.word
  have hown' : s'.vm.findClass own = some m.cls := by rw [hvm]; exact hown
  have hins : (Cond.instantiable cls 6).before args s' = true := h _ (by simp [Bundle.ownAtoms0])
  obtain ⟨vm₁, cX, kX, hfX, hkX, -, -, X₁, st1⟩ := Y.newCold hexec (own := own) (C := cls) (index := ik) (n := 6) hown' hk' hins hini'
    (g := F0 m pc ls rest) rfl (by rw [hb]; exact d0) (Nat.le_refl _) (Nat.le_refl _)
  generalize hT1 : (T.setVm vm₁).pushCell { cls := cX, slots := kX.instanceTypes.map defaultValue, vm := .none } = T1 at X₁ st1
  have hcat : (Value.ref T.heap.size).category = 1 := rfl
  have hcellA : T1.heap[T.heap.size]? = some (freshCell cX kX) := by rw [← hT1]; exact State.heap_pushCell_size _ _
  have d3' : decode c.code (pc + 3) = .ok (.dup, 1) := by rw [hb]; exact d3
  obtain ⟨U, hsteps, hrun, hend, hW, hsame, ce, hce, hO⟩ := X₁.ctorThrow0 hexec htr (own := own) (cls := cls) (names := names) (ic := ic) hown' hcls hnames h (fun x hx => nomatch hx) hfX hkX hcellA (by rw [hhp, hT]; exact Nat.le_refl _)
    (g := { method := m, pc := pc + 4, locals := ls, stack := .ref T.heap.size :: .ref T.heap.size :: rest, locked := none }) rfl hsize rfl rfl (rest := rest) rfl
    (by rw [hb]; exact d4) (by rw [hb]; exact d7) hout hRframes (by simp only [List.map_cons, List.sum_cons, hcat]; omega) hlocks
  obtain ⟨f1, f2⟩ := vx_frame hsame
  rw [hhp] at f1 f2
  have hWs : s.WarmedH U.vm := State.WarmedH.trans hW0 hW
  have hcl : s.vm.findClass cls = some ce.cls := by
    have h9 := hO.cls
    rw [hvm] at h9
    exact h9
  have hall : s.sameButNew ({ U with vm := s.vm } : State) locs mc ms := by
    subst hA
    obtain ⟨e1, e2⟩ := hsame
    rw [State.setFrames_setFrames] at e1
    have h2 : (T.setVm s.vm).sameButNew ({ U with vm := s.vm } : State) [] (0 + 1) (0 + 6) := ⟨e1, e2⟩
    have h3 := X.same.trans h2
    rw [List.append_nil] at h3
    exact h3.mono hc hs
  refine ⟨U, ?_, .threw T.heap.size, hrun, hend, Or.inr ⟨T.heap.size, rfl, cls, ce, locs, hx U hWs.alike f1 (fun q hq => f2 q hq (fun z hz => nomatch hz)), hce, hO.vm, hcl, hWs, hall, hf⟩⟩
  refine st1 _ ?_
  show Steps p.tables e below (T1.setTop { method := m, pc := pc + 3, locals := ls, stack := .ref T.heap.size :: rest, locked := none }) _
  jvm_step X₁.here [X₁.here.top, hexec, d3', Value.category]
  exact hsteps
/-- 'throw new E("text")': new; dup; ldc; invokespecial; athrow -/
theorem vx_throwS {cc : ByteArray} {pc : Nat} (hexec : p.tables.exec = Jvm.exec) (hb : c.code = cc) (hl : l.stackTraces = false) {own cls text : String} {names : List String} {ik is ic mc ms sa : Nat} {A : Nat → Prop}
    (hown : s.vm.findClass own = some m.cls) (hcls : Bundle.fit cls = true) (hnames : ∀ n ∈ names, Bundle.fit n = true)
    (hk : (Cond.classLink own ik cls).before args s = true) (hini : (Cond.initialized cls).before args s = true) (hstr : vk_R own is text sa s) (hat : ∀ w ∈ vx_atS own ic cls names, w.before args s = true)
    (hgood : ∀ w ∈ Cond.classLink own ik cls :: Cond.initialized cls :: vx_atS own ic cls names, vx_ot w = true)
    (hU : vx_Zq Bundle.tN "UNASSIGNED_STACK" Bundle.steD A s s.heap) (hN : vx_Zq Bundle.tN "SUPPRESSED_SENTINEL" Bundle.listD A s s.heap) (hS : va_S A s.heap H locs) (hsize : ls.size = c.maxLocals)
    (d0 : decode cc pc = .ok (.new ik, 3)) (d3 : decode cc (pc + 3) = .ok (.dup, 1)) (d4 : decode cc (pc + 4) = .ok (.ldc is, 2)) (d6 : decode cc (pc + 6) = .ok (.invokespecial ic, 3)) (d9 : decode cc (pc + 9) = .ok (.athrow, 1))
    (hout : ∀ x ∈ c.exceptionTable.toList, covers x (pc + 9) = false)
    (hRframes : names.length + 3 < R.frames) (hRlocals : (rest.map fun v => v.category).sum + (13 * (names.length + 1) + 43) ≤ R.locals) (hRcells : cells + 1 ≤ R.cells) (hRslots : slots + 6 ≤ R.slots) (hlocks : meth.locks = false)
    (hx : ∀ t : State, s.vm.Alike t.vm → H.size ≤ t.heap.size → (∀ q : Nat, q < H.size → t.heap[q]? = H[q]?) → XC cls s t)
    (hf : ∀ z ∈ locs, free z.base) (hc : cells + 1 ≤ mc) (hs : slots + 6 ≤ ms) :
    W p l e R s m args below meth c H locs cells slots (vx_MQ below Qc XC args s mc ms free) (F0 m pc ls rest) := by
  intro T hT X
  have htr : e.platform.stackTraces = false := (show e.platform.stackTraces = l.stackTraces by rw [X.admits.platform]).trans hl
  have Y := vx_rebase X (R' := { frames := R.frames, locals := R.locals, cells := 1, slots := 6 }) (Nat.le_refl _) (Nat.le_refl _) hRcells hRslots
  obtain ⟨s', hA⟩ : ∃ z, z = (T.setVm s.vm).setFrames (.invoking m args :: below) := ⟨_, rfl⟩
  rw [← hA] at Y
  have hvm : s'.vm = s.vm := by rw [hA]; rfl
  have hhp : s'.heap = H := by rw [hA]; exact hT
  have hW0 : s.WarmedH s'.vm := by rw [hvm]; exact State.WarmedH.refl s
  have hat' : ∀ w ∈ vx_atS own ic cls names, w.before args s' = true := fun w hw => vx_ot_at hW0 hvm.symm (hgood w (List.mem_cons_of_mem _ (List.mem_cons_of_mem _ hw))) (hat w hw)
  have hk' : (Cond.classLink own ik cls).before args s' = true := vx_ot_at hW0 hvm.symm (hgood _ List.mem_cons_self) hk
  have hini' : (Cond.initialized cls).before args s' = true := vx_ot_at hW0 hvm.symm (hgood _ (List.mem_cons_of_mem _ List.mem_cons_self)) hini
  have hU' : vx_Zq Bundle.tN "UNASSIGNED_STACK" Bundle.steD A s' s'.heap := by rw [hhp]; exact vx_Zq.moved hW0.alike (hU.kept hS.2.1)
  have hN' : vx_Zq Bundle.tN "SUPPRESSED_SENTINEL" Bundle.listD A s' s'.heap := by rw [hhp]; exact vx_Zq.moved hW0.alike (hN.kept hS.2.1)
  have h : ∀ w ∈ Bundle.ownAtoms own ic cls names, w.before args s' = true := vx_own hat' (vx_isRefq hU'.1) (vx_isRefq hN'.1) hU'.2.word hN'.2.word
  have hown' : s'.vm.findClass own = some m.cls := by rw [hvm]; exact hown
  have hins : (Cond.instantiable cls 6).before args s' = true := h _ (by simp [Bundle.ownAtoms])
  obtain ⟨vm₁, cX, kX, hfX, hkX, -, -, X₁, st1⟩ := Y.newCold hexec (own := own) (C := cls) (index := ik) (n := 6) hown' hk' hins hini'
    (g := F0 m pc ls rest) rfl (by rw [hb]; exact d0) (Nat.le_refl _) (Nat.le_refl _)
  generalize hT1 : (T.setVm vm₁).pushCell { cls := cX, slots := kX.instanceTypes.map defaultValue, vm := .none } = T1 at X₁ st1
  have hcat : (Value.ref T.heap.size).category = 1 := rfl
  have hcellA : T1.heap[T.heap.size]? = some (freshCell cX kX) := by rw [← hT1]; exact State.heap_pushCell_size _ _
  have d3' : decode c.code (pc + 3) = .ok (.dup, 1) := by rw [hb]; exact d3
  have d4' : decode c.code (pc + 4) = .ok (.ldc is, 2) := by rw [hb]; exact d4
  have hstr' : vk_R own is text sa s' := vk_R.warm hW0 hstr
  obtain ⟨U, hsteps, hrun, hend, hW, hsame, ce, hce, hO⟩ := X₁.ctorThrowS hexec htr (own := own) (cls := cls) (names := names) (ic := ic) hown' hcls hnames h (fun x hx => nomatch hx) hfX hkX hcellA (by rw [hhp, hT]; exact Nat.le_refl _) (msg := .ref sa) rfl
    (g := { method := m, pc := pc + 6, locals := ls, stack := .ref sa :: .ref T.heap.size :: .ref T.heap.size :: rest, locked := none }) rfl hsize rfl rfl (rest := rest) rfl
    (by rw [hb]; exact d6) (by rw [hb]; exact d9) hout hRframes (by simp only [List.map_cons, List.sum_cons, hcat]; omega) hlocks
  obtain ⟨f1, f2⟩ := vx_frame hsame
  rw [hhp] at f1 f2
  have hWs : s.WarmedH U.vm := State.WarmedH.trans hW0 hW
  have hcl : s.vm.findClass cls = some ce.cls := by
    have h9 := hO.cls
    rw [hvm] at h9
    exact h9
  have hall : s.sameButNew ({ U with vm := s.vm } : State) locs mc ms := by
    subst hA
    obtain ⟨e1, e2⟩ := hsame
    rw [State.setFrames_setFrames] at e1
    have h2 : (T.setVm s.vm).sameButNew ({ U with vm := s.vm } : State) [] (0 + 1) (0 + 6) := ⟨e1, e2⟩
    have h3 := X.same.trans h2
    rw [List.append_nil] at h3
    exact h3.mono hc hs
  refine ⟨U, ?_, .threw T.heap.size, hrun, hend, Or.inr ⟨T.heap.size, rfl, cls, ce, locs, hx U hWs.alike f1 (fun q hq => f2 q hq (fun z hz => nomatch hz)), hce, hO.vm, hcl, hWs, hall, hf⟩⟩
  refine st1 _ ?_
  show Steps p.tables e below (T1.setTop { method := m, pc := pc + 3, locals := ls, stack := .ref T.heap.size :: rest, locked := none }) _
  jvm_step X₁.here [X₁.here.top, hexec, d3', Value.category]
  exact X₁.ldcString hexec (own := own) (text := text) (index := is) (a := sa) hown' hstr'.1 hstr'.2
    (g := { method := m, pc := pc + 4, locals := ls, stack := .ref T.heap.size :: .ref T.heap.size :: rest, locked := none }) rfl d4' _ hsteps
/-- 'throw new E("text")', the text by a wide index -/
theorem vx_throwSW {cc : ByteArray} {pc : Nat} (hexec : p.tables.exec = Jvm.exec) (hb : c.code = cc) (hl : l.stackTraces = false) {own cls text : String} {names : List String} {ik is ic mc ms sa : Nat} {A : Nat → Prop}
    (hown : s.vm.findClass own = some m.cls) (hcls : Bundle.fit cls = true) (hnames : ∀ n ∈ names, Bundle.fit n = true)
    (hk : (Cond.classLink own ik cls).before args s = true) (hini : (Cond.initialized cls).before args s = true) (hstr : vk_R own is text sa s) (hat : ∀ w ∈ vx_atS own ic cls names, w.before args s = true)
    (hgood : ∀ w ∈ Cond.classLink own ik cls :: Cond.initialized cls :: vx_atS own ic cls names, vx_ot w = true)
    (hU : vx_Zq Bundle.tN "UNASSIGNED_STACK" Bundle.steD A s s.heap) (hN : vx_Zq Bundle.tN "SUPPRESSED_SENTINEL" Bundle.listD A s s.heap) (hS : va_S A s.heap H locs) (hsize : ls.size = c.maxLocals)
    (d0 : decode cc pc = .ok (.new ik, 3)) (d3 : decode cc (pc + 3) = .ok (.dup, 1)) (d4 : decode cc (pc + 4) = .ok (.ldc_w is, 3)) (d7 : decode cc (pc + 7) = .ok (.invokespecial ic, 3)) (d10 : decode cc (pc + 10) = .ok (.athrow, 1))
    (hout : ∀ x ∈ c.exceptionTable.toList, covers x (pc + 10) = false)
    (hRframes : names.length + 3 < R.frames) (hRlocals : (rest.map fun v => v.category).sum + (13 * (names.length + 1) + 43) ≤ R.locals) (hRcells : cells + 1 ≤ R.cells) (hRslots : slots + 6 ≤ R.slots) (hlocks : meth.locks = false)
    (hx : ∀ t : State, s.vm.Alike t.vm → H.size ≤ t.heap.size → (∀ q : Nat, q < H.size → t.heap[q]? = H[q]?) → XC cls s t)
    (hf : ∀ z ∈ locs, free z.base) (hc : cells + 1 ≤ mc) (hs : slots + 6 ≤ ms) :
    W p l e R s m args below meth c H locs cells slots (vx_MQ below Qc XC args s mc ms free) (F0 m pc ls rest) := by
  intro T hT X
  have htr : e.platform.stackTraces = false := (show e.platform.stackTraces = l.stackTraces by rw [X.admits.platform]).trans hl
  have Y := vx_rebase X (R' := { frames := R.frames, locals := R.locals, cells := 1, slots := 6 }) (Nat.le_refl _) (Nat.le_refl _) hRcells hRslots
  obtain ⟨s', hA⟩ : ∃ z, z = (T.setVm s.vm).setFrames (.invoking m args :: below) := ⟨_, rfl⟩
  rw [← hA] at Y
  have hvm : s'.vm = s.vm := by rw [hA]; rfl
  have hhp : s'.heap = H := by rw [hA]; exact hT
  have hW0 : s.WarmedH s'.vm := by rw [hvm]; exact State.WarmedH.refl s
  have hat' : ∀ w ∈ vx_atS own ic cls names, w.before args s' = true := fun w hw => vx_ot_at hW0 hvm.symm (hgood w (List.mem_cons_of_mem _ (List.mem_cons_of_mem _ hw))) (hat w hw)
  have hk' : (Cond.classLink own ik cls).before args s' = true := vx_ot_at hW0 hvm.symm (hgood _ List.mem_cons_self) hk
  have hini' : (Cond.initialized cls).before args s' = true := vx_ot_at hW0 hvm.symm (hgood _ (List.mem_cons_of_mem _ List.mem_cons_self)) hini
  have hU' : vx_Zq Bundle.tN "UNASSIGNED_STACK" Bundle.steD A s' s'.heap := by rw [hhp]; exact vx_Zq.moved hW0.alike (hU.kept hS.2.1)
  have hN' : vx_Zq Bundle.tN "SUPPRESSED_SENTINEL" Bundle.listD A s' s'.heap := by rw [hhp]; exact vx_Zq.moved hW0.alike (hN.kept hS.2.1)
  have h : ∀ w ∈ Bundle.ownAtoms own ic cls names, w.before args s' = true := vx_own hat' (vx_isRefq hU'.1) (vx_isRefq hN'.1) hU'.2.word hN'.2.word
  have hown' : s'.vm.findClass own = some m.cls := by rw [hvm]; exact hown
  have hins : (Cond.instantiable cls 6).before args s' = true := h _ (by simp [Bundle.ownAtoms])
  obtain ⟨vm₁, cX, kX, hfX, hkX, -, -, X₁, st1⟩ := Y.newCold hexec (own := own) (C := cls) (index := ik) (n := 6) hown' hk' hins hini'
    (g := F0 m pc ls rest) rfl (by rw [hb]; exact d0) (Nat.le_refl _) (Nat.le_refl _)
  generalize hT1 : (T.setVm vm₁).pushCell { cls := cX, slots := kX.instanceTypes.map defaultValue, vm := .none } = T1 at X₁ st1
  have hcat : (Value.ref T.heap.size).category = 1 := rfl
  have hcellA : T1.heap[T.heap.size]? = some (freshCell cX kX) := by rw [← hT1]; exact State.heap_pushCell_size _ _
  have d3' : decode c.code (pc + 3) = .ok (.dup, 1) := by rw [hb]; exact d3
  have d4' : decode c.code (pc + 4) = .ok (.ldc_w is, 3) := by rw [hb]; exact d4
  have hstr' : vk_R own is text sa s' := vk_R.warm hW0 hstr
  obtain ⟨U, hsteps, hrun, hend, hW, hsame, ce, hce, hO⟩ := X₁.ctorThrowS hexec htr (own := own) (cls := cls) (names := names) (ic := ic) hown' hcls hnames h (fun x hx => nomatch hx) hfX hkX hcellA (by rw [hhp, hT]; exact Nat.le_refl _) (msg := .ref sa) rfl
    (g := { method := m, pc := pc + 7, locals := ls, stack := .ref sa :: .ref T.heap.size :: .ref T.heap.size :: rest, locked := none }) rfl hsize rfl rfl (rest := rest) rfl
    (by rw [hb]; exact d7) (by rw [hb]; exact d10) hout hRframes (by simp only [List.map_cons, List.sum_cons, hcat]; omega) hlocks
  obtain ⟨f1, f2⟩ := vx_frame hsame
  rw [hhp] at f1 f2
  have hWs : s.WarmedH U.vm := State.WarmedH.trans hW0 hW
  have hcl : s.vm.findClass cls = some ce.cls := by
    have h9 := hO.cls
    rw [hvm] at h9
    exact h9
  have hall : s.sameButNew ({ U with vm := s.vm } : State) locs mc ms := by
    subst hA
    obtain ⟨e1, e2⟩ := hsame
    rw [State.setFrames_setFrames] at e1
    have h2 : (T.setVm s.vm).sameButNew ({ U with vm := s.vm } : State) [] (0 + 1) (0 + 6) := ⟨e1, e2⟩
    have h3 := X.same.trans h2
    rw [List.append_nil] at h3
    exact h3.mono hc hs
  refine ⟨U, ?_, .threw T.heap.size, hrun, hend, Or.inr ⟨T.heap.size, rfl, cls, ce, locs, hx U hWs.alike f1 (fun q hq => f2 q hq (fun z hz => nomatch hz)), hce, hO.vm, hcl, hWs, hall, hf⟩⟩
  refine st1 _ ?_
  show Steps p.tables e below (T1.setTop { method := m, pc := pc + 3, locals := ls, stack := .ref T.heap.size :: rest, locked := none }) _
  jvm_step X₁.here [X₁.here.top, hexec, d3', Value.category]
  exact X₁.ldcStringW hexec (own := own) (text := text) (index := is) (a := sa) hown' hstr'.1 hstr'.2
    (g := { method := m, pc := pc + 4, locals := ls, stack := .ref T.heap.size :: .ref T.heap.size :: rest, locked := none }) rfl d4' _ hsteps
end Ends
section Bodies
variable {l : Launch}
theorem vx_ofW {y : MethodName} {ws ws' : List Cond} {rm : Room} {Pc : Array Value → State → Prop} {Qc : Array Value → State → Outcome → State → Prop} {XC : String → State → State → Prop} {mc ms : Nat} {free : Addr → Prop} {cc : ByteArray} {maxL : Nat} {ret : Option FieldType}
    (hy : plainName y.cls = true) (hw : ws = Cond.code y cc maxL ret :: ws')
    (body : ∀ p e s m args below meth c s₁, BodyLoose p l y (headSpec ws rm) cc maxL ret e s m args below meth c s₁ → c.maxLocals = maxL → (∀ x ∈ c.exceptionTable.toList, False) → Pc args s →
      W p l e (headSpec ws rm).room s m args below meth c s.heap [] 0 0 (vx_MQ below Qc XC args s mc ms free) (entryFrame m args maxL)) : vx_Met l y ws rm Pc Qc XC mc ms free := by
  refine MetFree.of_bodyS (code := cc) (maxLocals := maxL) (ret := ret) hy ?_ ?_
  · intro args s m h hn
    obtain ⟨meth, c, h1, h2, h3, h4, h5, h6, -, -⟩ := Cond.code_spec hn (atoms_spec (ws := ws) h _ (by rw [hw]; exact List.mem_cons_self))
    exact ⟨meth, c, h1, h2, h3, h4, h5, h6⟩
  · intro p e s m args below meth c s₁ B hml hP _
    have hh0 : s₁.heap = s.heap := by rw [B.state]; rfl
    have ht : ∀ x ∈ c.exceptionTable.toList, False := by
      obtain ⟨meth9, c9, h1, h2, -, -, -, -, h7, -⟩ := Cond.code_spec B.named (atoms_spec (ws := ws) B.pre _ (by rw [hw]; exact List.mem_cons_self))
      cases Option.some.inj (h1.symm.trans B.method)
      cases Option.some.inj (h2.symm.trans (Stand.of_body B).code)
      intro x hx
      rw [Array.isEmpty_iff.mp h7] at hx
      cases hx
    obtain ⟨t, a1, o, b1, b2, b3⟩ := body p e s m args below meth c s₁ B hml ht hP s₁ hh0 (Stand.of_body B)
    exact ⟨t, o, a1, b1, b2, b3⟩
/-- the table of a body with handlers -/
theorem vx_table {p : Program} {x y : MethodName} {S : Spec} {cc bytes : ByteArray} {maxL maxL' : Nat} {ret ret' : Option FieldType} {e : Env} {s s₁ : State} {m : MethodId} {args : Array Value} {below : List Frame} {meth : Method} {c : Code} {hh : List (Nat × Nat × Nat × Nat)}
    (B : BodyLoose p l y S cc maxL ret e s m args below meth c s₁) (h : (Cond.codeWith y bytes maxL' ret' hh).before args s = true) : c.exceptionTable.toList = tableOf hh := by
  obtain ⟨m9, meth9, c9, hn9, h1, h2, -, -, h6, -⟩ := Cond.codeWith_spec h
  cases Option.some.inj (hn9.symm.trans B.named)
  cases Option.some.inj (h1.symm.trans B.method)
  cases Option.some.inj (h2.symm.trans (Stand.of_body B).code)
  rw [← h6, table_eq]
end Bodies
end VXA
/-! ===== END ===== -/
/-! ===== BEGIN a static call of a method with an exception table ===== -/
section VXS
variable {p : Program} {l : Launch} {e : Env} {R : Room} {s : State} {m : MethodId} {args : Array Value} {below : List Frame} {meth : Method} {c : Code} {T : State} {H : Heap} {locs : List Loc} {cells slots : Nat}
abbrev vx_CSW (R : Room) (s : State) (args : Array Value) (own : String) (index : Nat) (y : MethodName) (bytes : ByteArray) (maxL : Nat) (ret : Option FieldType) (hh : List (Nat × Nat × Nat × Nat)) (ws : List Cond) (rm : Room) (mc ms n : Nat) : Prop :=
  (rm.cells = mc ∧ rm.slots = ms ∧ rm.frames + 1 ≤ R.frames ∧ 8 + (maxL + 11) + rm.locals ≤ R.locals ∧ (∀ w ∈ ws, ∀ (a' : Array Value) (U : State), s.WarmedH U.vm → w.before a' U = true) ∧ Cond.codeWith y bytes maxL ret hh ∈ ws) ∧
  (Cond.codeWith y bytes maxL ret hh).before args s = true ∧ (Cond.initialized y.cls).before args s = true ∧ (y.cls ≠ "java/lang/invoke/MethodHandle" ∧ y.cls ≠ "java/lang/invoke/VarHandle") ∧
  (∀ sig, parseMethodDescriptor y.desc = some sig → n = sig.parameters.length) ∧ (Cond.methodLink own index y).before args s = true ∧ (Cond.static y).before args s = true
theorem vx_cwSW {own : String} {index maxL mc ms : Nat} {y : MethodName} {bytes : ByteArray} {ret : Option FieldType} {hh : List (Nat × Nat × Nat × Nat)} {Ts ws ws' : List Cond} {rm : Room} (n : Nat) (ht : ∀ w ∈ Ts, w.before args s = true) (hT : GoodIn Ts (va_wsS own index y ws)) (hw : ws = Cond.codeWith y bytes maxL ret hh :: ws') (hrc : rm.cells = mc) (hrs : rm.slots = ms)
    (hd : y.cls ≠ "java/lang/invoke/MethodHandle" ∧ y.cls ≠ "java/lang/invoke/VarHandle" ∧ (parseMethodDescriptor y.desc).map (fun d => d.parameters.length) = some n) (hR : rm.frames + 1 ≤ R.frames ∧ 8 + (maxL + 11) + rm.locals ≤ R.locals) :
    vx_CSW R s args own index y bytes maxL ret hh ws rm mc ms n := by
  have ok : ∀ w ∈ va_wsS own index y ws, w.before args s = true := fun w h => ht w (hT w h).1
  have hG : GoodIn Ts ws := fun w h => hT w (by unfold va_wsS; exact List.mem_append_right _ h)
  have hc : Cond.codeWith y bytes maxL ret hh ∈ ws := by rw [hw]; exact List.mem_cons_self
  refine ⟨⟨hrc, hrs, hR.1, hR.2, pay_in ht hG, hc⟩, ht _ (hG _ hc).1, ok _ (by simp [va_wsS]), ⟨hd.1, hd.2.1⟩, fun sig h => ?_, ok _ (by simp [va_wsS]), ok _ (by simp [va_wsS])⟩
  have h2 := hd.2.2
  rw [h] at h2
  exact (Option.some.inj h2).symm
theorem vx_callSW (X : Stand p l e R s m args below meth c T locs cells slots) (hexec : p.tables.exec = Jvm.exec) {own : String} {index : Nat} {y : MethodName} {bytes : ByteArray} {maxL : Nat} {ret : Option FieldType} {hh : List (Nat × Nat × Nat × Nat)}
    (hown : s.vm.findClass own = some m.cls) (hlink : (Cond.methodLink own index y).before args s = true) (hstat : (Cond.static y).before args s = true) (hinit : (Cond.initialized y.cls).before args s = true)
    (hcode : (Cond.codeWith y bytes maxL ret hh).before args s = true) (hy : y.cls ≠ "java/lang/invoke/MethodHandle" ∧ y.cls ≠ "java/lang/invoke/VarHandle")
    {W9 : Nat} {Pre : Pt → Array Value → Prop} {Post : Pt → Array Value → Option Value → Pt → Prop} (hK : Back l R p e below s args y 3 W9 Pre Post)
    {g : JFrame} (hg : g.method = m) (hsize : g.locals.size = c.maxLocals) {argsL rest : List Value} (hlen : ∀ sig, parseMethodDescriptor y.desc = some sig → argsL.length = sig.parameters.length)
    (hstack : g.stack = argsL.reverse ++ rest) (hW : 2 * g.monitorRoom + (rest.map fun v => v.category).sum ≤ W9) (hdg : decode c.code g.pc = .ok (.invokestatic index, 3))
    (hpre : ∀ vm₁, s.WarmedH vm₁ → Pre ⟨T.setVm vm₁, locs, cells, slots⟩ argsL.toArray) :
    ∃ (v : Option Value) (vm₁ : Vm) (B : Pt), s.WarmedH vm₁ ∧ Stand p l e R s m args below meth c B.U B.locs B.cells B.slots ∧ Post ⟨T.setVm vm₁, locs, cells, slots⟩ argsL.toArray v B ∧
      ∀ target, Steps p.tables e below (B.U.setTop { g with pc := g.pc + 3, stack := v.toList ++ rest }) target → Steps p.tables e below (T.setTop g) target := by
  obtain ⟨mk, methM, cM, hnamed, hmethM, -, -, -, -, -, -, hsigM⟩ := Cond.codeWith_spec hcode
  have hstatic : methM.isStatic = true := Cond.static_spec hnamed hmethM hstat
  obtain ⟨kP, hkP, -⟩ := className_of_methodNamed hnamed
  have hinitP : kP.init = .initialized := Cond.initialized_spec (findClass_of_methodNamed hnamed) hkP hinit
  obtain ⟨vm₁, X₁, hstep₁⟩ := X.invokestatic hexec hown hlink hnamed hmethM hstatic hkP hinitP hy (g := g) hg (argsL := argsL) (rest := rest) (hlen _ hsigM) hstack hdg
  obtain ⟨v, B, X', hpost, hsteps⟩ := hK m meth c ⟨T.setVm vm₁, locs, cells, slots⟩ { g with stack := rest } (.invokestatic index) mk argsL.toArray X₁ hg hsize hdg hW (X₁.named hnamed) (hpre vm₁ X₁.warmed)
  exact ⟨v, vm₁, B, X₁.warmed, X', hpost, fun target h => hstep₁ _ fun acts => by rw [doInvoke_state]; exact hsteps.trans h⟩
theorem vx_runSW {y : MethodName} {bytes cc : ByteArray} {maxL nL mc ms n index : Nat} {ret : Option FieldType} {hh : List (Nat × Nat × Nat × Nat)} {ws : List Cond} {rm : Room} {Pc : Array Value → State → Prop} {Qc : Array Value → State → Outcome → State → Prop} {free : Addr → Prop} {Ts : List Cond} {own : String} {As rest : List Value} {g : JFrame}
    (S : CallFix p m c cc nL s args Ts own) (hM : Met l y ws rm Pc Qc mc ms free) (cw : vx_CSW R s args own index y bytes maxL ret hh ws rm mc ms n) (hp : PreS s H Pc As)
    (hg : g.method = m) (hn : As.length = n) (hsize : g.locals.size = nL) (hstack : g.stack = As.reverse ++ rest) (hW : 2 * g.monitorRoom + (rest.map fun v => v.category).sum ≤ 8) (hdg : decode cc g.pc = .ok (.invokestatic index, 3)) (hf : cells + mc ≤ R.cells ∧ slots + ms ≤ R.slots) :
    va_Run p l e R s m args below meth c H locs cells slots mc ms g rest (Qc As.toArray) (free) := by
  obtain ⟨⟨hrc, hrs, hfr, hlo, hws, hcw⟩, hcode, hini, hy, hlen, hl, hstt⟩ := cw
  have hK : Back l R p e below s args y 3 8 (PreOf R mc ms Pc) (PostOf Qc mc ms free) := va_backW (hh := hh) (bytes := bytes) (maxL := maxL) (ret := ret) hM hp.1 hrc hrs hfr hlo hws hcw (fun a' U hW => word_at hW (Or.inl (by first | rfl | simp [Cond.onTables, Cond.keeps, Cond.steady])) hini)
  obtain ⟨hx, hb, hml, ho, -⟩ := S
  intro T hT X
  obtain ⟨v, vm₁, ⟨U', l2, c2, s2⟩, hW₁, X', ⟨g', mk, t, L, e1, e2, hq, h1, hL, h2, h3⟩, st⟩ := vx_callSW X hx (hh := hh) (bytes := bytes) (maxL := maxL) (ret := ret) ho hl hstt hini hcode hy hK hg (hsize.trans hml.symm) (argsL := As) (rest := rest) (fun sig h => hn.trans (hlen sig h)) hstack hW (by rw [hb]; exact hdg)
    (fun vm₁ hW₁ => ⟨hf.1, hf.2, hp.2 (T.setVm vm₁) hT hW₁⟩)
  dsimp only [Pt.U, Pt.locs, Pt.cells, Pt.slots] at X' e1 e2 h1 h2 h3 st
  subst h1; subst h2; subst h3
  exact ⟨v, (T.setVm vm₁).calling g' mk As.toArray, t, U', L, hT, X', hL, e1, e2, hq, st⟩
/-- a thing of a world lies in the heap -/
theorem vx_lt {D : va_G} {cl : List vw_C} {ws : va_W} {H1 : Heap} (h : va_P D cl ws H1) {k : Nat} {q : Nat × va_E} (hk : ws[k]? = some q) : q.1 < H1.size := (h k q hk).lt
end VXS
/-! ===== END ===== -/
/-! ===== BEGIN methods with a table of their own: called by a name, returning or throwing ===== -/
section VXH
/-! vx_backW, vx_callVX, vx_callSX, vx_callVW, vx_runVW, vx_runVX, vx_runSX, vx_ofWH follow the same proofs as their sisters above (Free/Laws.lean, Shelf42/LK1.lean); vx_outP calls Shelf42/NT130.lean (outThrough). -/
section
variable {l : Launch} {R : Room} {p : Program} {e : Env} {below : List Frame} {s : State} {sargs : Array Value} {y : MethodName} {len W9 : Nat}
theorem vx_backW {ws : List Cond} {rm : Room} {Pc : Array Value → State → Prop} {Qc : Array Value → State → Outcome → State → Prop} {XC : String → State → State → Prop} {mc ms : Nat} {free : Addr → Prop} {bytes : ByteArray} {maxL : Nat} {ret : Option FieldType} {hh : List (Nat × Nat × Nat × Nat)}
    (hM : vx_Met l y ws rm Pc Qc XC mc ms free) (hblind : FrameBlind Pc) (hrc : rm.cells = mc) (hrs : rm.slots = ms)
    (hframes : rm.frames + 1 ≤ R.frames) (hlocals : W9 + (maxL + 11) + rm.locals ≤ R.locals)
    (hws : ∀ w ∈ ws, ∀ a' U, s.WarmedH U.vm → w.before a' U = true) (hcode : Cond.codeWith y bytes maxL ret hh ∈ ws) (hinit : ∀ a' U, s.WarmedH U.vm → (Cond.initialized y.cls).before a' U = true) :
    vx_Back l R p e below s sargs y len W9 (PreOf R mc ms Pc) (PostOf Qc mc ms free) (vx_Post XC mc ms free) := by
  intro m meth c A g ig mk a X hg hsize hdg hW hn hp
  have h1 : (headSpec ws rm).pre.before a A.U = true := atoms_intro fun w hw => hws w hw _ _ X.warmed
  have h2 : (Cond.codeWith y bytes maxL ret hh).before a A.U = true := hws _ hcode _ _ X.warmed
  have h3 : (Cond.initialized y.cls).before a A.U = true := hinit _ _ X.warmed
  have h4 : A.cells + (headSpec ws rm).room.cells ≤ R.cells := by rw [show (headSpec ws rm).room.cells = mc from hrc]; exact hp.1
  have h5 : A.slots + (headSpec ws rm).room.slots ≤ R.slots := by rw [show (headSpec ws rm).room.slots = ms from hrs]; exact hp.2.1
  have hPc : Pc a (A.U.calling g mk a) := hblind _ _ _ _ hp.2.2
  obtain ⟨U, Ls, c0, s0⟩ := A
  dsimp only [Pt.U, Pt.locs, Pt.cells, Pt.slots] at h1 h2 h3 h4 h5 X hn hPc ⊢
  obtain ⟨m9, methY, cY, hn9, hmY, hcY, -, hlY, -⟩ := Cond.codeWith_spec h2
  cases Option.some.inj (hn9.symm.trans hn)
  obtain ⟨kY, hkY, -⟩ := className_of_methodNamed hn
  have hinitY : kY.init = .initialized := Cond.initialized_spec (findClass_of_methodNamed hn) hkY h3
  have h : At U g.method c below := by rw [hg]; exact X.here
  have hlocals9 : W9 + (maxL + 11) + (headSpec ws rm).room.locals ≤ R.locals := hlocals
  have happ : (headSpec ws rm).appliesLoose y e.platform (U.calling g mk a) = true :=
    Spec.appliesLoose_calling (g := g) h hdg hn hkY hinitY
      (X.room_calling (g := g) (R' := (headSpec ws rm).room) hsize hmY hcY hframes (by rw [hlY]; omega) h4 h5) h1
  obtain ⟨mid, hmid⟩ := h.above
  have hfr : (U.setTop g).frames = (.java g :: mid) ++ below := by rw [State.frames_setTop' g h.top, hmid]; rfl
  obtain ⟨o, s₂, hsteps, -, hend, hq⟩ := Steps.callFree hM p X.admits X.cas X.clock (acts := []) hfr happ hPc trivial
  have hq' : vx_Q Qc XC mc ms free a (U.calling g mk a) o s₂ := hq
  rw [State.frames_setTop' g h.top] at hend
  obtain ⟨g₀, hg0⟩ := Option.isSome_iff_exists.mp h.top
  obtain ⟨r, hr⟩ := State.topJava?_eq_some.mp hg0
  have hr' : (({ U with heap := s₂.heap, slotsUsed := s₂.slotsUsed } : State).setVm s₂.vm).frames = .java g₀ :: r := hr
  rcases hq' with ⟨hqc, L, hfe, hL⟩ | ⟨q, rfl, E, ce, L, hx, hce, hcv, hcl, hW₂, hsm, hL⟩
  · obtain ⟨⟨v, rfl⟩, hW₂, e2, q2, q3, q4, q5, q6⟩ := id hfe
    have e3 : s₂ = ({ (U.calling g mk a).setFrames s₂.frames with heap := s₂.heap, slotsUsed := s₂.slotsUsed } : State).setVm s₂.vm := by
      have : s₂ = ({ s₂ with vm := (U.calling g mk a).vm } : State).setVm s₂.vm := rfl
      rw [e2] at this
      exact this
    obtain ⟨c₂, i₂, len₂, hc₂, hd₂, hf₂⟩ := hend
    have hW' : U.WarmedH s₂.vm := hW₂
    have hcc : c₂ = c := by
      have h1 : s₂.code? g.method = U.code? g.method := by
        rw [State.code?_eq, State.code?_eq, hW'.alike.method?]
      exact Option.some.inj (hc₂.symm.trans (h1.trans h.code))
    subst hcc
    have hlen : len₂ = len := by rw [hdg] at hd₂; cases hd₂; rfl
    subst hlen
    have hs₂ : s₂ = (({ U with heap := s₂.heap, slotsUsed := s₂.slotsUsed } : State).setVm s₂.vm).setTop { g with pc := g.pc + len₂, stack := v.toList ++ g.stack } := by
      refine e3.trans ?_
      rw [hf₂, State.calling_eq h.top, State.setFrames_setFrames, State.setTop_of_frames _ hr', hr]
      rfl
    have hsame : U.sameButNew ({ U with heap := s₂.heap, slotsUsed := s₂.slotsUsed } : State) L mc ms := by
      refine ⟨?_, q2, q3, q4, q5, q6⟩
      obtain ⟨t, ht, -⟩ := State.frames_cons hr
      show ({ U with heap := s₂.heap, slotsUsed := s₂.slotsUsed } : State) = { U.setFrames U.frames with heap := s₂.heap, slotsUsed := s₂.slotsUsed }
      rw [State.setFrames_self ht]
    subst hg
    refine Or.inl ⟨v, ⟨(({ U with heap := s₂.heap, slotsUsed := s₂.slotsUsed } : State).setVm s₂.vm), Ls ++ L, c0 + mc, s0 + ms⟩,
      ⟨X.admits, X.cas, X.clock, X.frames, X.room, X.hears, X.method, X.code, (X.here.setHeapUsed s₂.heap s₂.slotsUsed).setVm hW'.alike, X.tail, State.WarmedH.trans X.warmed hW', X.limits, X.bytes, X.same.trans (hsame.setVm s.vm)⟩,
      ⟨g, mk, s₂, L, rfl, rfl, hqc, rfl, hL, rfl, rfl⟩, ?_⟩
    show Steps p.tables e below _ ((({ U with heap := s₂.heap, slotsUsed := s₂.slotsUsed } : State).setVm s₂.vm).setTop { g with pc := g.pc + len₂, stack := v.toList ++ g.stack })
    rw [← hs₂]
    exact hsteps
  · obtain ⟨e2, q2, q3, q4, q5, q6⟩ := id hsm
    have e3 : s₂ = ({ (U.calling g mk a).setFrames s₂.frames with heap := s₂.heap, slotsUsed := s₂.slotsUsed } : State).setVm s₂.vm := by
      have : s₂ = ({ s₂ with vm := (U.calling g mk a).vm } : State).setVm s₂.vm := rfl
      rw [e2] at this
      exact this
    have hf₂ : s₂.frames = .throwing q :: .java g :: U.frames.tail := hend
    have hW' : U.WarmedH s₂.vm := hW₂
    have hs₂ : s₂ = ((({ U with heap := s₂.heap, slotsUsed := s₂.slotsUsed } : State).setVm s₂.vm).setTop g).pushFrame (.throwing q) := by
      refine e3.trans ?_
      rw [hf₂, State.calling_eq h.top, State.setFrames_setFrames, State.pushFrame, State.frames_setTop _ hr', State.setTop_of_frames _ hr', State.setFrames_setFrames, hr]
      rfl
    have hsame : U.sameButNew ({ U with heap := s₂.heap, slotsUsed := s₂.slotsUsed } : State) L mc ms := by
      refine ⟨?_, q2, q3, q4, q5, q6⟩
      obtain ⟨t, ht, -⟩ := State.frames_cons hr
      show ({ U with heap := s₂.heap, slotsUsed := s₂.slotsUsed } : State) = { U.setFrames U.frames with heap := s₂.heap, slotsUsed := s₂.slotsUsed }
      rw [State.setFrames_self ht]
    subst hg
    refine Or.inr ⟨q, ⟨(({ U with heap := s₂.heap, slotsUsed := s₂.slotsUsed } : State).setVm s₂.vm), Ls ++ L, c0 + mc, s0 + ms⟩,
      ⟨X.admits, X.cas, X.clock, X.frames, X.room, X.hears, X.method, X.code, (X.here.setHeapUsed s₂.heap s₂.slotsUsed).setVm hW'.alike, X.tail, State.WarmedH.trans X.warmed hW', X.limits, X.bytes, X.same.trans (hsame.setVm s.vm)⟩,
      ⟨g, mk, s₂, L, E, ce, rfl, rfl, hx, hce, hcv, hcl, rfl, hL, rfl, rfl⟩, ?_⟩
    show Steps p.tables e below _ (((({ U with heap := s₂.heap, slotsUsed := s₂.slotsUsed } : State).setVm s₂.vm).setTop g).pushFrame (.throwing q))
    rw [← hs₂]
    exact hsteps
end
variable {p : Program} {l : Launch} {e : Env} {R : Room} {s : State} {m : MethodId} {args : Array Value} {below : List Frame} {meth : Method} {c : Code} {T : State} {H : Heap} {locs : List Loc} {cells slots : Nat}
theorem vx_callVX (X : Stand p l e R s m args below meth c T locs cells slots) (hexec : p.tables.exec = Jvm.exec) {own C : String} {index : Nat} {y : MethodName} {bytes : ByteArray} {maxL : Nat} {ret : Option FieldType} {hh : List (Nat × Nat × Nat × Nat)}
    (hown : s.vm.findClass own = some m.cls) (hlink : (Cond.methodLink own index y).before args s = true) (hinst : (Cond.instanceMethod y).before args s = true) (hsel : (Cond.selects C y y).before args s = true)
    (hcode : (Cond.codeWith y bytes maxL ret hh).before args s = true) (hy : y.cls ≠ "java/lang/invoke/MethodHandle" ∧ y.cls ≠ "java/lang/invoke/VarHandle")
    {W9 : Nat} {Pre : Pt → Array Value → Prop} {Post : Pt → Array Value → Option Value → Pt → Prop} {PostX : Pt → Array Value → Addr → Pt → Prop} (hK : vx_Back l R p e below s args y 3 W9 Pre Post PostX)
    {b : Addr} {cellB : Cell} (hcell : T.heap[b]? = some cellB) (hobj : cellB.vm.isStatics = false) (hcls : s.vm.findClass C = some cellB.cls)
    {g : JFrame} (hg : g.method = m) (hsize : g.locals.size = c.maxLocals) {argsL rest : List Value} (hlen : ∀ sig, parseMethodDescriptor y.desc = some sig → argsL.length = sig.parameters.length)
    (hstack : g.stack = argsL.reverse ++ .ref b :: rest) (hW : 2 * g.monitorRoom + (rest.map fun v => v.category).sum ≤ W9) (hdg : decode c.code g.pc = .ok (.invokevirtual index, 3))
    (hpre : ∀ vm₁, s.WarmedH vm₁ → Pre ⟨T.setVm vm₁, locs, cells, slots⟩ (Value.ref b :: argsL).toArray) :
    (∃ (v : Option Value) (vm₁ : Vm) (B : Pt), s.WarmedH vm₁ ∧ Stand p l e R s m args below meth c B.U B.locs B.cells B.slots ∧ Post ⟨T.setVm vm₁, locs, cells, slots⟩ (Value.ref b :: argsL).toArray v B ∧
      ∀ target, Steps p.tables e below (B.U.setTop { g with pc := g.pc + 3, stack := v.toList ++ rest }) target → Steps p.tables e below (T.setTop g) target) ∨
    (∃ (q : Addr) (vm₁ : Vm) (B : Pt), s.WarmedH vm₁ ∧ Stand p l e R s m args below meth c B.U B.locs B.cells B.slots ∧ PostX ⟨T.setVm vm₁, locs, cells, slots⟩ (Value.ref b :: argsL).toArray q B ∧
      Steps p.tables e below (T.setTop g) ((B.U.setTop { g with stack := rest }).pushFrame (.throwing q))) := by
  obtain ⟨mk, methM, hnamed, hmethM, hstM, habM⟩ := Cond.instanceMethod_spec hinst
  obtain ⟨m8, methM', cM, hn8, hmethM', -, -, -, -, -, -, hsigM⟩ := Cond.codeWith_spec hcode
  cases Option.some.inj (hn8.symm.trans hnamed)
  cases hmethM.symm.trans hmethM'
  obtain ⟨c2, r2, m2, q1, q2, q3, q4, kP, hkP, hkPi⟩ := Cond.selects_spec hsel
  cases hcls.symm.trans q1
  cases (State.methodFound?_of_named hnamed hy).symm.trans q2
  cases hnamed.symm.trans q3
  have hselP : selectMethod e.platform s.vm cellB.cls mk = .method mk := by rw [Launch.admits_selectMethod X.admits]; exact q4
  obtain ⟨vm₁, X₁, hstep₁⟩ := X.invokevirtual hexec hown hlink hnamed hmethM hstM hkP hkPi hy (a := b) (cell := cellB) hcell
    (fun z h => by rw [h] at hobj; cases hobj) hselP hmethM habM hkP hkPi (g := g) hg (argsL := argsL) (rest := rest) (hlen _ hsigM) hstack hdg
  rcases hK m meth c ⟨T.setVm vm₁, locs, cells, slots⟩ { g with stack := rest } (.invokevirtual index) mk (Value.ref b :: argsL).toArray X₁ hg hsize hdg hW (X₁.named hnamed) (hpre vm₁ X₁.warmed) with ⟨v, B, X', hpost, hsteps⟩ | ⟨q, B, X', hpost, hsteps⟩
  · exact Or.inl ⟨v, vm₁, B, X₁.warmed, X', hpost, fun target h => hstep₁ _ fun acts => by rw [doInvoke_state]; exact hsteps.trans h⟩
  · exact Or.inr ⟨q, vm₁, B, X₁.warmed, X', hpost, hstep₁ _ fun acts => by rw [doInvoke_state]; exact hsteps⟩
theorem vx_callSX (X : Stand p l e R s m args below meth c T locs cells slots) (hexec : p.tables.exec = Jvm.exec) {own : String} {index : Nat} {y : MethodName} {bytes : ByteArray} {maxL : Nat} {ret : Option FieldType} {hh : List (Nat × Nat × Nat × Nat)}
    (hown : s.vm.findClass own = some m.cls) (hlink : (Cond.methodLink own index y).before args s = true) (hstat : (Cond.static y).before args s = true) (hinit : (Cond.initialized y.cls).before args s = true)
    (hcode : (Cond.codeWith y bytes maxL ret hh).before args s = true) (hy : y.cls ≠ "java/lang/invoke/MethodHandle" ∧ y.cls ≠ "java/lang/invoke/VarHandle")
    {W9 : Nat} {Pre : Pt → Array Value → Prop} {Post : Pt → Array Value → Option Value → Pt → Prop} {PostX : Pt → Array Value → Addr → Pt → Prop} (hK : vx_Back l R p e below s args y 3 W9 Pre Post PostX)
    {g : JFrame} (hg : g.method = m) (hsize : g.locals.size = c.maxLocals) {argsL rest : List Value} (hlen : ∀ sig, parseMethodDescriptor y.desc = some sig → argsL.length = sig.parameters.length)
    (hstack : g.stack = argsL.reverse ++ rest) (hW : 2 * g.monitorRoom + (rest.map fun v => v.category).sum ≤ W9) (hdg : decode c.code g.pc = .ok (.invokestatic index, 3))
    (hpre : ∀ vm₁, s.WarmedH vm₁ → Pre ⟨T.setVm vm₁, locs, cells, slots⟩ argsL.toArray) :
    (∃ (v : Option Value) (vm₁ : Vm) (B : Pt), s.WarmedH vm₁ ∧ Stand p l e R s m args below meth c B.U B.locs B.cells B.slots ∧ Post ⟨T.setVm vm₁, locs, cells, slots⟩ argsL.toArray v B ∧
      ∀ target, Steps p.tables e below (B.U.setTop { g with pc := g.pc + 3, stack := v.toList ++ rest }) target → Steps p.tables e below (T.setTop g) target) ∨
    (∃ (q : Addr) (vm₁ : Vm) (B : Pt), s.WarmedH vm₁ ∧ Stand p l e R s m args below meth c B.U B.locs B.cells B.slots ∧ PostX ⟨T.setVm vm₁, locs, cells, slots⟩ argsL.toArray q B ∧
      Steps p.tables e below (T.setTop g) ((B.U.setTop { g with stack := rest }).pushFrame (.throwing q))) := by
  obtain ⟨mk, methM, cM, hnamed, hmethM, -, -, -, -, -, -, hsigM⟩ := Cond.codeWith_spec hcode
  have hstatic : methM.isStatic = true := Cond.static_spec hnamed hmethM hstat
  obtain ⟨kP, hkP, -⟩ := className_of_methodNamed hnamed
  have hinitP : kP.init = .initialized := Cond.initialized_spec (findClass_of_methodNamed hnamed) hkP hinit
  obtain ⟨vm₁, X₁, hstep₁⟩ := X.invokestatic hexec hown hlink hnamed hmethM hstatic hkP hinitP hy (g := g) hg (argsL := argsL) (rest := rest) (hlen _ hsigM) hstack hdg
  rcases hK m meth c ⟨T.setVm vm₁, locs, cells, slots⟩ { g with stack := rest } (.invokestatic index) mk argsL.toArray X₁ hg hsize hdg hW (X₁.named hnamed) (hpre vm₁ X₁.warmed) with ⟨v, B, X', hpost, hsteps⟩ | ⟨q, B, X', hpost, hsteps⟩
  · exact Or.inl ⟨v, vm₁, B, X₁.warmed, X', hpost, fun target h => hstep₁ _ fun acts => by rw [doInvoke_state]; exact hsteps.trans h⟩
  · exact Or.inr ⟨q, vm₁, B, X₁.warmed, X', hpost, hstep₁ _ fun acts => by rw [doInvoke_state]; exact hsteps⟩
theorem vx_callVW (X : Stand p l e R s m args below meth c T locs cells slots) (hexec : p.tables.exec = Jvm.exec) {own C : String} {index : Nat} {y : MethodName} {bytes : ByteArray} {maxL : Nat} {ret : Option FieldType} {hh : List (Nat × Nat × Nat × Nat)}
    (hown : s.vm.findClass own = some m.cls) (hlink : (Cond.methodLink own index y).before args s = true) (hinst : (Cond.instanceMethod y).before args s = true) (hsel : (Cond.selects C y y).before args s = true)
    (hcode : (Cond.codeWith y bytes maxL ret hh).before args s = true) (hy : y.cls ≠ "java/lang/invoke/MethodHandle" ∧ y.cls ≠ "java/lang/invoke/VarHandle")
    {W9 : Nat} {Pre : Pt → Array Value → Prop} {Post : Pt → Array Value → Option Value → Pt → Prop} (hK : Back l R p e below s args y 3 W9 Pre Post)
    {b : Addr} {cellB : Cell} (hcell : T.heap[b]? = some cellB) (hobj : cellB.vm.isStatics = false) (hcls : s.vm.findClass C = some cellB.cls)
    {g : JFrame} (hg : g.method = m) (hsize : g.locals.size = c.maxLocals) {argsL rest : List Value} (hlen : ∀ sig, parseMethodDescriptor y.desc = some sig → argsL.length = sig.parameters.length)
    (hstack : g.stack = argsL.reverse ++ .ref b :: rest) (hW : 2 * g.monitorRoom + (rest.map fun v => v.category).sum ≤ W9) (hdg : decode c.code g.pc = .ok (.invokevirtual index, 3))
    (hpre : ∀ vm₁, s.WarmedH vm₁ → Pre ⟨T.setVm vm₁, locs, cells, slots⟩ (Value.ref b :: argsL).toArray) :
    ∃ (v : Option Value) (vm₁ : Vm) (B : Pt), s.WarmedH vm₁ ∧ Stand p l e R s m args below meth c B.U B.locs B.cells B.slots ∧ Post ⟨T.setVm vm₁, locs, cells, slots⟩ (Value.ref b :: argsL).toArray v B ∧
      ∀ target, Steps p.tables e below (B.U.setTop { g with pc := g.pc + 3, stack := v.toList ++ rest }) target → Steps p.tables e below (T.setTop g) target := by
  obtain ⟨mk, methM, hnamed, hmethM, hstM, habM⟩ := Cond.instanceMethod_spec hinst
  obtain ⟨m8, methM', cM, hn8, hmethM', -, -, -, -, -, -, hsigM⟩ := Cond.codeWith_spec hcode
  cases Option.some.inj (hn8.symm.trans hnamed)
  cases hmethM.symm.trans hmethM'
  obtain ⟨c2, r2, m2, q1, q2, q3, q4, kP, hkP, hkPi⟩ := Cond.selects_spec hsel
  cases hcls.symm.trans q1
  cases (State.methodFound?_of_named hnamed hy).symm.trans q2
  cases hnamed.symm.trans q3
  have hselP : selectMethod e.platform s.vm cellB.cls mk = .method mk := by rw [Launch.admits_selectMethod X.admits]; exact q4
  obtain ⟨vm₁, X₁, hstep₁⟩ := X.invokevirtual hexec hown hlink hnamed hmethM hstM hkP hkPi hy (a := b) (cell := cellB) hcell
    (fun z h => by rw [h] at hobj; cases hobj) hselP hmethM habM hkP hkPi (g := g) hg (argsL := argsL) (rest := rest) (hlen _ hsigM) hstack hdg
  obtain ⟨v, B, X', hpost, hsteps⟩ := hK m meth c ⟨T.setVm vm₁, locs, cells, slots⟩ { g with stack := rest } (.invokevirtual index) mk (Value.ref b :: argsL).toArray X₁ hg hsize hdg hW (X₁.named hnamed) (hpre vm₁ X₁.warmed)
  exact ⟨v, vm₁, B, X₁.warmed, X', hpost, fun target h => hstep₁ _ fun acts => by rw [doInvoke_state]; exact hsteps.trans h⟩
abbrev vx_CVW (R : Room) (s : State) (args : Array Value) (own C : String) (index : Nat) (y : MethodName) (bytes : ByteArray) (maxL : Nat) (ret : Option FieldType) (hh : List (Nat × Nat × Nat × Nat)) (ws : List Cond) (rm : Room) (mc ms n : Nat) : Prop :=
  (rm.cells = mc ∧ rm.slots = ms ∧ rm.frames + 1 ≤ R.frames ∧ 8 + (maxL + 11) + rm.locals ≤ R.locals ∧ (∀ w ∈ ws, ∀ (a' : Array Value) (U : State), s.WarmedH U.vm → w.before a' U = true) ∧ Cond.codeWith y bytes maxL ret hh ∈ ws) ∧
  (Cond.codeWith y bytes maxL ret hh).before args s = true ∧ (Cond.initialized y.cls).before args s = true ∧ (y.cls ≠ "java/lang/invoke/MethodHandle" ∧ y.cls ≠ "java/lang/invoke/VarHandle") ∧
  (∀ sig, parseMethodDescriptor y.desc = some sig → n = sig.parameters.length) ∧ (Cond.methodLink own index y).before args s = true ∧ (Cond.instanceMethod y).before args s = true ∧ (Cond.selects C y y).before args s = true
theorem vx_cwVW {own C : String} {index maxL mc ms : Nat} {y : MethodName} {bytes : ByteArray} {ret : Option FieldType} {hh : List (Nat × Nat × Nat × Nat)} {Ts ws ws' : List Cond} {rm : Room} (n : Nat) (ht : ∀ w ∈ Ts, w.before args s = true) (hT : GoodIn Ts (wsV own index C y ws)) (hw : ws = Cond.codeWith y bytes maxL ret hh :: ws') (hrc : rm.cells = mc) (hrs : rm.slots = ms)
    (hd : y.cls = C ∧ y.cls ≠ "java/lang/invoke/MethodHandle" ∧ y.cls ≠ "java/lang/invoke/VarHandle" ∧ (parseMethodDescriptor y.desc).map (fun d => d.parameters.length) = some n) (hR : rm.frames + 1 ≤ R.frames ∧ 8 + (maxL + 11) + rm.locals ≤ R.locals) :
    vx_CVW R s args own C index y bytes maxL ret hh ws rm mc ms n := by
  obtain ⟨hC, hd⟩ := hd
  subst hC
  have ok : ∀ w ∈ wsV own index y.cls y ws, w.before args s = true := fun w h => ht w (hT w h).1
  have hG : GoodIn Ts ws := fun w h => hT w (by unfold wsV; exact List.mem_append_right _ h)
  have hc : Cond.codeWith y bytes maxL ret hh ∈ ws := by rw [hw]; exact List.mem_cons_self
  refine ⟨⟨hrc, hrs, hR.1, hR.2, pay_in ht hG, hc⟩, ht _ (hG _ hc).1, ok _ (by simp [wsV]), ⟨hd.1, hd.2.1⟩, fun sig h => ?_, ok _ (by simp [wsV]), ok _ (by simp [wsV]), ok _ (by simp [wsV])⟩
  have h2 := hd.2.2
  rw [h] at h2
  exact (Option.some.inj h2).symm
theorem vx_runVW {y : MethodName} {bytes cc : ByteArray} {maxL nL mc ms n index : Nat} {ret : Option FieldType} {hh : List (Nat × Nat × Nat × Nat)} {ws : List Cond} {rm : Room} {Pc : Array Value → State → Prop} {Qc : Array Value → State → Outcome → State → Prop} {free : Addr → Prop} {Ts : List Cond} {own C : String} {b : Addr} {As rest : List Value} {g : JFrame}
    (S : CallFix p m c cc nL s args Ts own) (hM : Met l y ws rm Pc Qc mc ms free) (cw : vx_CVW R s args own C index y bytes maxL ret hh ws rm mc ms n) (hp : PreV s H C b Pc As)
    (hg : g.method = m) (hn : As.length = n) (hsize : g.locals.size = nL) (hstack : g.stack = As.reverse ++ .ref b :: rest) (hW : 2 * g.monitorRoom + (rest.map fun v => v.category).sum ≤ 8) (hdg : decode cc g.pc = .ok (.invokevirtual index, 3)) (hf : cells + mc ≤ R.cells ∧ slots + ms ≤ R.slots) :
    va_Run p l e R s m args below meth c H locs cells slots mc ms g rest (Qc (Value.ref b :: As).toArray) free := by
  obtain ⟨⟨hrc, hrs, hfr, hlo, hws, hcw⟩, hcode, hini, hy, hlen, hl, hin, hse⟩ := cw
  have hK : Back l R p e below s args y 3 8 (PreOf R mc ms Pc) (PostOf Qc mc ms free) := va_backW (hh := hh) (bytes := bytes) (maxL := maxL) (ret := ret) hM hp.1 hrc hrs hfr hlo hws hcw (fun a' U hW => word_at hW (Or.inl (by first | rfl | simp [Cond.onTables, Cond.keeps, Cond.steady])) hini)
  obtain ⟨hx, hb, hml, ho, -⟩ := S
  obtain ⟨-, ⟨cellB, hcB, hoB, hclB⟩, hPc⟩ := hp
  intro T hT X
  obtain ⟨v, vm₁, ⟨U', l2, c2, s2⟩, hW₁, X', ⟨g', mk, t, L, e1, e2, hq, h1, hL, h2, h3⟩, st⟩ := vx_callVW X hx (C := C) (hh := hh) (bytes := bytes) (maxL := maxL) (ret := ret) ho hl hin hse hcode hy hK (by rw [hT]; exact hcB) hoB hclB hg (hsize.trans hml.symm) (argsL := As) (rest := rest) (fun sig h => hn.trans (hlen sig h)) hstack hW (by rw [hb]; exact hdg)
    (fun vm₁ hW₁ => ⟨hf.1, hf.2, hPc (T.setVm vm₁) hT hW₁⟩)
  dsimp only [Pt.U, Pt.locs, Pt.cells, Pt.slots] at X' e1 e2 h1 h2 h3 st
  subst h1; subst h2; subst h3
  exact ⟨v, (T.setVm vm₁).calling g' mk (Value.ref b :: As).toArray, t, U', L, hT, X', hL, e1, e2, hq, st⟩
section
variable {y : MethodName} {bytes cc : ByteArray} {maxL nL mc ms n index : Nat} {ret : Option FieldType} {ws : List Cond} {rm : Room} {Pc : Array Value → State → Prop} {Qc : Array Value → State → Outcome → State → Prop} {XC : String → State → State → Prop} {free : Addr → Prop} {Ts : List Cond} {own C : String} {b : Addr} {As rest : List Value} {g : JFrame}
theorem vx_runVX {hh : List (Nat × Nat × Nat × Nat)} (S : CallFix p m c cc nL s args Ts own) (hM : vx_Met l y ws rm Pc Qc XC mc ms free) (cw : vx_CVW R s args own C index y bytes maxL ret hh ws rm mc ms n) (hp : PreV s H C b Pc As)
    (hg : g.method = m) (hn : As.length = n) (hsize : g.locals.size = nL) (hstack : g.stack = As.reverse ++ .ref b :: rest) (hW : 2 * g.monitorRoom + (rest.map fun v => v.category).sum ≤ 8) (hdg : decode cc g.pc = .ok (.invokevirtual index, 3)) (hf : cells + mc ≤ R.cells ∧ slots + ms ≤ R.slots) :
    vx_Run p l e R s m args below meth c H locs cells slots mc ms g rest (Qc (Value.ref b :: As).toArray) XC free := by
  obtain ⟨⟨hrc, hrs, hfr, hlo, hws, hcw⟩, hcode, hini, hy, hlen, hl, hin, hse⟩ := cw
  have hK : vx_Back l R p e below s args y 3 8 (PreOf R mc ms Pc) (PostOf Qc mc ms free) (vx_Post XC mc ms free) := vx_backW (hh := hh) (bytes := bytes) (maxL := maxL) (ret := ret) hM hp.1 hrc hrs hfr hlo hws hcw (fun a' U hW => word_at hW (Or.inl (by first | rfl | simp [Cond.onTables, Cond.keeps, Cond.steady])) hini)
  obtain ⟨hx, hb, hml, ho, -⟩ := S
  obtain ⟨-, ⟨cellB, hcB, hoB, hclB⟩, hPc⟩ := hp
  intro T hT X
  rcases vx_callVX X hx (C := C) (hh := hh) (bytes := bytes) (maxL := maxL) (ret := ret) ho hl hin hse hcode hy hK (by rw [hT]; exact hcB) hoB hclB hg (hsize.trans hml.symm) (argsL := As) (rest := rest) (fun sig h => hn.trans (hlen sig h)) hstack hW (by rw [hb]; exact hdg)
    (fun vm₁ hW₁ => ⟨hf.1, hf.2, hPc (T.setVm vm₁) hT hW₁⟩) with ⟨v, vm₁, ⟨U', l2, c2, s2⟩, hW₁, X', ⟨g', mk, t, L, e1, e2, hq, h1, hL, h2, h3⟩, st⟩ | ⟨q, vm₁, ⟨U', l2, c2, s2⟩, hW₁, X', ⟨g', mk, t, L, E, ce, e1, e2, hq, hce, hcv, hcl, h1, hL, h2, h3⟩, st⟩
  · dsimp only [Pt.U, Pt.locs, Pt.cells, Pt.slots] at X' e1 e2 h1 h2 h3 st
    subst h1; subst h2; subst h3
    exact Or.inl ⟨v, (T.setVm vm₁).calling g' mk (Value.ref b :: As).toArray, t, U', L, hT, X', hL, e1, e2, hq, st⟩
  · dsimp only [Pt.U, Pt.locs, Pt.cells, Pt.slots] at X' e1 e2 h1 h2 h3 st hcl
    subst h1; subst h2; subst h3
    exact Or.inr ⟨q, (T.setVm vm₁).calling g' mk (Value.ref b :: As).toArray, t, U', L, E, ce, hT, X', hL, e1, e2, hq, hce, hcv, vx_cls hW₁ hcl, st⟩
theorem vx_runSX {hh : List (Nat × Nat × Nat × Nat)} (S : CallFix p m c cc nL s args Ts own) (hM : vx_Met l y ws rm Pc Qc XC mc ms free) (cw : vx_CSW R s args own index y bytes maxL ret hh ws rm mc ms n) (hp : PreS s H Pc As)
    (hg : g.method = m) (hn : As.length = n) (hsize : g.locals.size = nL) (hstack : g.stack = As.reverse ++ rest) (hW : 2 * g.monitorRoom + (rest.map fun v => v.category).sum ≤ 8) (hdg : decode cc g.pc = .ok (.invokestatic index, 3)) (hf : cells + mc ≤ R.cells ∧ slots + ms ≤ R.slots) :
    vx_Run p l e R s m args below meth c H locs cells slots mc ms g rest (Qc As.toArray) XC free := by
  obtain ⟨⟨hrc, hrs, hfr, hlo, hws, hcw⟩, hcode, hini, hy, hlen, hl, hstt⟩ := cw
  have hK : vx_Back l R p e below s args y 3 8 (PreOf R mc ms Pc) (PostOf Qc mc ms free) (vx_Post XC mc ms free) := vx_backW (hh := hh) (bytes := bytes) (maxL := maxL) (ret := ret) hM hp.1 hrc hrs hfr hlo hws hcw (fun a' U hW => word_at hW (Or.inl (by first | rfl | simp [Cond.onTables, Cond.keeps, Cond.steady])) hini)
  obtain ⟨hx, hb, hml, ho, -⟩ := S
  intro T hT X
  rcases vx_callSX X hx (hh := hh) (bytes := bytes) (maxL := maxL) (ret := ret) ho hl hstt hini hcode hy hK hg (hsize.trans hml.symm) (argsL := As) (rest := rest) (fun sig h => hn.trans (hlen sig h)) hstack hW (by rw [hb]; exact hdg)
    (fun vm₁ hW₁ => ⟨hf.1, hf.2, hp.2 (T.setVm vm₁) hT hW₁⟩) with ⟨v, vm₁, ⟨U', l2, c2, s2⟩, hW₁, X', ⟨g', mk, t, L, e1, e2, hq, h1, hL, h2, h3⟩, st⟩ | ⟨q, vm₁, ⟨U', l2, c2, s2⟩, hW₁, X', ⟨g', mk, t, L, E, ce, e1, e2, hq, hce, hcv, hcl, h1, hL, h2, h3⟩, st⟩
  · dsimp only [Pt.U, Pt.locs, Pt.cells, Pt.slots] at X' e1 e2 h1 h2 h3 st
    subst h1; subst h2; subst h3
    exact Or.inl ⟨v, (T.setVm vm₁).calling g' mk As.toArray, t, U', L, hT, X', hL, e1, e2, hq, st⟩
  · dsimp only [Pt.U, Pt.locs, Pt.cells, Pt.slots] at X' e1 e2 h1 h2 h3 st hcl
    subst h1; subst h2; subst h3
    exact Or.inr ⟨q, (T.setVm vm₁).calling g' mk As.toArray, t, U', L, E, ce, hT, X', hL, e1, e2, hq, hce, hcv, vx_cls hW₁ hcl, st⟩
end
end VXH
theorem vx_ofWH {l : Launch} {y : MethodName} {ws ws' : List Cond} {rm : Room} {Pc : Array Value → State → Prop} {Qc : Array Value → State → Outcome → State → Prop} {XC : String → State → State → Prop} {mc ms : Nat} {free : Addr → Prop} {cc : ByteArray} {maxL : Nat} {ret : Option FieldType} {hh : List (Nat × Nat × Nat × Nat)}
    (hy : plainName y.cls = true) (hw : ws = Cond.codeWith y cc maxL ret hh :: ws')
    (body : ∀ p e s m args below meth c s₁, BodyLoose p l y (headSpec ws rm) cc maxL ret e s m args below meth c s₁ → c.maxLocals = maxL → Pc args s →
      W p l e (headSpec ws rm).room s m args below meth c s.heap [] 0 0 (vx_MQ below Qc XC args s mc ms free) (entryFrame m args maxL)) : vx_Met l y ws rm Pc Qc XC mc ms free := by
  refine MetFree.of_bodyS (code := cc) (maxLocals := maxL) (ret := ret) hy ?_ ?_
  · intro args s m h hn
    obtain ⟨m9, meth, c, hn9, h1, h2, h3, h4, -, h5, h6, -⟩ := Cond.codeWith_spec (atoms_spec (ws := ws) h _ (by rw [hw]; exact List.mem_cons_self))
    cases hn.symm.trans hn9
    exact ⟨meth, c, h1, h2, h3, h4, h5, h6⟩
  · intro p e s m args below meth c s₁ B hml hP _
    have hh0 : s₁.heap = s.heap := by rw [B.state]; rfl
    obtain ⟨t, a1, o, b1, b2, b3⟩ := body p e s m args below meth c s₁ B hml hP s₁ hh0 (Stand.of_body B)
    exact ⟨t, o, a1, b1, b2, b3⟩
/-! ===== END ===== -/
end
section
/-! ===== BEGIN printed: names, fields, word lists, decode rows ===== -/
def RX0 : String := "EntryTree$Chains"
def TX0 : u_T := fun k => match k with
  | 0 => ("EntryTree$Chains", "heads", "[I", true)
  | _ => ("EntryTree$Chains", "nexts", "[I", true)
def tyX0 : Nat → FieldType := fun k => match k with
  | 0 => .array .int
  | _ => .array .int
abbrev wsX00 : List Cond := u_ws RX0 TX0 2
theorem nmX0 : ∀ a, a < 2 → ∀ b, b < 2 → a ≠ b → (TX0 a).2.1 ≠ (TX0 b).2.1 := by decide +kernel
theorem tyX0_ok : ∀ k, k < 2 → parseFieldDescriptor (TX0 k).2.2.1 = some (tyX0 k) := by decide +kernel
abbrev cX0_init : ByteArray := prog_2_method_1_code
def yX0_init : MethodName := ⟨RX0, "<init>", "(I)V"⟩
abbrev cX0_forget : ByteArray := prog_2_method_2_code
def yX0_forget : MethodName := ⟨RX0, "forget", "()V"⟩
abbrev cX0_first : ByteArray := prog_2_method_3_code
def yX0_first : MethodName := ⟨RX0, "first", "(I)I"⟩
abbrev cX0_after : ByteArray := prog_2_method_4_code
def yX0_after : MethodName := ⟨RX0, "after", "(I)I"⟩
abbrev cX0_add : ByteArray := prog_2_method_5_code
def yX0_add : MethodName := ⟨RX0, "add", "(II)V"⟩
abbrev cX0_bucket : ByteArray := prog_2_method_6_code
def yX0_bucket : MethodName := ⟨RX0, "bucket", "(I)I"⟩
def RX1 : String := "EntryTree$Cursor"
def TX1 : u_T := fun k => match k with
  | 0 => ("EntryTree$Cursor", "at", "I", false)
  | 1 => ("EntryTree$Cursor", "end", "I", false)
  | 2 => ("EntryTree$Cursor", "faultKind", "I", false)
  | 3 => ("EntryTree$Cursor", "faultSection", "I", false)
  | 4 => ("EntryTree$Cursor", "faultPlace", "I", false)
  | 5 => ("EntryTree$Cursor", "section", "I", false)
  | _ => ("EntryTree$Cursor", "store", "LEntryTree$Store;", false)
def tyX1 : Nat → FieldType := fun k => match k with
  | 0 => .int
  | 1 => .int
  | 2 => .int
  | 3 => .int
  | 4 => .int
  | 5 => .int
  | _ => .object "EntryTree$Store"
abbrev wsX10 : List Cond := u_ws RX1 TX1 7
theorem nmX1 : ∀ a, a < 7 → ∀ b, b < 7 → a ≠ b → (TX1 a).2.1 ≠ (TX1 b).2.1 := by decide +kernel
theorem tyX1_ok : ∀ k, k < 7 → parseFieldDescriptor (TX1 k).2.2.1 = some (tyX1 k) := by decide +kernel
abbrev cX1_init : ByteArray := prog_3_method_1_code
def yX1_init : MethodName := ⟨RX1, "<init>", "()V"⟩
abbrev cX1_over : ByteArray := prog_3_method_2_code
def yX1_over : MethodName := ⟨RX1, "over", "(LEntryTree$Sections;III)V"⟩
abbrev cX1_forgetFault : ByteArray := prog_3_method_3_code
def yX1_forgetFault : MethodName := ⟨RX1, "forgetFault", "()V"⟩
abbrev cX1_refuse : ByteArray := prog_3_method_4_code
def yX1_refuse : MethodName := ⟨RX1, "refuse", "(II)V"⟩
abbrev cX1_lowFirst : ByteArray := prog_3_method_5_code
def yX1_lowFirst : MethodName := ⟨RX1, "lowFirst", "(I)J"⟩
abbrev cX1_row : ByteArray := prog_3_method_6_code
def yX1_row : MethodName := ⟨RX1, "row", "(Z)J"⟩
abbrev cX1_smallRow : ByteArray := prog_3_method_7_code
def yX1_smallRow : MethodName := ⟨RX1, "smallRow", "()I"⟩
abbrev cX1_textLength : ByteArray := prog_3_method_8_code
def yX1_textLength : MethodName := ⟨RX1, "textLength", "()I"⟩
abbrev cX1_skip : ByteArray := prog_3_method_9_code
def yX1_skip : MethodName := ⟨RX1, "skip", "(I)V"⟩
def RX2 : String := "EntryTree$Form"
def TX2 : u_T := fun k => match k with
  | _ => ("", "", "", false)
def tyX2 : Nat → FieldType := fun k => match k with
  | _ => .int
abbrev wsX20 : List Cond := u_ws RX2 TX2 0
theorem nmX2 : ∀ a, a < 0 → ∀ b, b < 0 → a ≠ b → (TX2 a).2.1 ≠ (TX2 b).2.1 := by decide +kernel
theorem tyX2_ok : ∀ k, k < 0 → parseFieldDescriptor (TX2 k).2.2.1 = some (tyX2 k) := by decide +kernel
abbrev cX2_isText : ByteArray := prog_4_method_2_code
def yX2_isText : MethodName := ⟨RX2, "isText", "(I)Z"⟩
abbrev cX2_isLetters : ByteArray := prog_4_method_3_code
def yX2_isLetters : MethodName := ⟨RX2, "isLetters", "(I)Z"⟩
abbrev cX2_isReference : ByteArray := prog_4_method_4_code
def yX2_isReference : MethodName := ⟨RX2, "isReference", "(I)Z"⟩
abbrev cX2_isNumber : ByteArray := prog_4_method_5_code
def yX2_isNumber : MethodName := ⟨RX2, "isNumber", "(I)Z"⟩
abbrev cX2_isForm : ByteArray := prog_4_method_6_code
def yX2_isForm : MethodName := ⟨RX2, "isForm", "(I)Z"⟩
abbrev cX2_holds : ByteArray := prog_4_method_7_code
def yX2_holds : MethodName := ⟨RX2, "holds", "(IJ)Z"⟩
abbrev cX2_width : ByteArray := prog_4_method_8_code
def yX2_width : MethodName := ⟨RX2, "width", "(I)I"⟩
def RX3 : String := "EntryTree$Layout"
def TX3 : u_T := fun k => match k with
  | 0 => ("EntryTree$Layout", "shapes", "I", false)
  | 1 => ("EntryTree$Layout", "texts", "I", false)
  | 2 => ("EntryTree$Layout", "entryBytes", "I", false)
  | 3 => ("EntryTree$Layout", "shapeBytes", "I", false)
  | 4 => ("EntryTree$Layout", "textBytes", "I", false)
  | 5 => ("EntryTree$Layout", "ordered", "I", false)
  | 6 => ("EntryTree$Layout", "reckoned", "Z", false)
  | 7 => ("EntryTree$Layout", "order", "[I", true)
  | 8 => ("EntryTree$Layout", "unitFrom", "[I", true)
  | 9 => ("EntryTree$Layout", "unitBytes", "[I", true)
  | 10 => ("EntryTree$Layout", "closings", "[I", true)
  | 11 => ("EntryTree$Layout", "steadyBytes", "[I", true)
  | 12 => ("EntryTree$Layout", "place", "[I", true)
  | 13 => ("EntryTree$Layout", "shape", "[I", true)
  | 14 => ("EntryTree$Layout", "shapeEntry", "[I", true)
  | 15 => ("EntryTree$Layout", "textPlace", "[I", true)
  | 16 => ("EntryTree$Layout", "textSlot", "[I", true)
  | 17 => ("EntryTree$Layout", "shapeChains", "LEntryTree$Chains;", true)
  | _ => ("EntryTree$Layout", "textChains", "LEntryTree$Chains;", true)
def tyX3 : Nat → FieldType := fun k => match k with
  | 0 => .int
  | 1 => .int
  | 2 => .int
  | 3 => .int
  | 4 => .int
  | 5 => .int
  | 6 => .boolean
  | 7 => .array .int
  | 8 => .array .int
  | 9 => .array .int
  | 10 => .array .int
  | 11 => .array .int
  | 12 => .array .int
  | 13 => .array .int
  | 14 => .array .int
  | 15 => .array .int
  | 16 => .array .int
  | 17 => .object "EntryTree$Chains"
  | _ => .object "EntryTree$Chains"
abbrev wsX30 : List Cond := u_ws RX3 TX3 19
theorem nmX3 : ∀ a, a < 19 → ∀ b, b < 19 → a ≠ b → (TX3 a).2.1 ≠ (TX3 b).2.1 := by decide +kernel
theorem tyX3_ok : ∀ k, k < 19 → parseFieldDescriptor (TX3 k).2.2.1 = some (tyX3 k) := by decide +kernel
abbrev cX3_init : ByteArray := prog_5_method_1_code
def yX3_init : MethodName := ⟨RX3, "<init>", "()V"⟩
abbrev cX3_forget : ByteArray := prog_5_method_2_code
def yX3_forget : MethodName := ⟨RX3, "forget", "()V"⟩
abbrev cX3_reckon : ByteArray := prog_5_method_3_code
def yX3_reckon : MethodName := ⟨RX3, "reckon", "(LEntryTree$Tree;LEntryTree$Store;)V"⟩
abbrev cX3_orderEntries : ByteArray := prog_5_method_4_code
def yX3_orderEntries : MethodName := ⟨RX3, "orderEntries", "(LEntryTree$Tree;)V"⟩
abbrev cX3_climb : ByteArray := prog_5_method_5_code
def yX3_climb : MethodName := ⟨RX3, "climb", "(LEntryTree$Tree;I)I"⟩
abbrev cX3_numberShapes : ByteArray := prog_5_method_6_code
def yX3_numberShapes : MethodName := ⟨RX3, "numberShapes", "(LEntryTree$Tree;)V"⟩
abbrev cX3_knownShape : ByteArray := prog_5_method_7_code
def yX3_knownShape : MethodName := ⟨RX3, "knownShape", "(LEntryTree$Tree;II)I"⟩
abbrev cX3_shapeHash : ByteArray := prog_5_method_8_code
def yX3_shapeHash : MethodName := ⟨RX3, "shapeHash", "(LEntryTree$Tree;I)I"⟩
abbrev cX3_sameShape : ByteArray := prog_5_method_9_code
def yX3_sameShape : MethodName := ⟨RX3, "sameShape", "(LEntryTree$Tree;II)Z"⟩
abbrev cX3_shapeSize : ByteArray := prog_5_method_10_code
def yX3_shapeSize : MethodName := ⟨RX3, "shapeSize", "(LEntryTree$Tree;II)I"⟩
abbrev cX3_placeTexts : ByteArray := prog_5_method_11_code
def yX3_placeTexts : MethodName := ⟨RX3, "placeTexts", "(LEntryTree$Tree;LEntryTree$Store;)V"⟩
abbrev cX3_placeText : ByteArray := prog_5_method_12_code
def yX3_placeText : MethodName := ⟨RX3, "placeText", "(LEntryTree$Tree;LEntryTree$Store;I)V"⟩
abbrev cX3_knownText : ByteArray := prog_5_method_13_code
def yX3_knownText : MethodName := ⟨RX3, "knownText", "(LEntryTree$Tree;LEntryTree$Store;II)I"⟩
abbrev cX3_placeEntries : ByteArray := prog_5_method_14_code
def yX3_placeEntries : MethodName := ⟨RX3, "placeEntries", "(LEntryTree$Tree;)V"⟩
abbrev cX3_moveEntries : ByteArray := prog_5_method_15_code
def yX3_moveEntries : MethodName := ⟨RX3, "moveEntries", "(LEntryTree$Tree;I)Z"⟩
abbrev cX3_referenceRowBytes : ByteArray := prog_5_method_16_code
def yX3_referenceRowBytes : MethodName := ⟨RX3, "referenceRowBytes", "(LEntryTree$Tree;I)I"⟩
abbrev cX3_steadyValueBytes : ByteArray := prog_5_method_17_code
def yX3_steadyValueBytes : MethodName := ⟨RX3, "steadyValueBytes", "(LEntryTree$Tree;I)I"⟩
def RX4 : String := "EntryTree$Reader"
def TX4 : u_T := fun k => match k with
  | 0 => ("EntryTree$Reader", "tree", "LEntryTree$Tree;", false)
  | 1 => ("EntryTree$Reader", "cursor", "LEntryTree$Cursor;", true)
  | 2 => ("EntryTree$Reader", "table", "LEntryTree$Table;", true)
  | 3 => ("EntryTree$Reader", "tablePlace", "I", false)
  | 4 => ("EntryTree$Reader", "lettersRead", "I", false)
  | 5 => ("EntryTree$Reader", "places", "[I", true)
  | _ => ("EntryTree$Reader", "referenceFirst", "[I", true)
def tyX4 : Nat → FieldType := fun k => match k with
  | 0 => .object "EntryTree$Tree"
  | 1 => .object "EntryTree$Cursor"
  | 2 => .object "EntryTree$Table"
  | 3 => .int
  | 4 => .int
  | 5 => .array .int
  | _ => .array .int
abbrev wsX40 : List Cond := u_ws RX4 TX4 7
theorem nmX4 : ∀ a, a < 7 → ∀ b, b < 7 → a ≠ b → (TX4 a).2.1 ≠ (TX4 b).2.1 := by decide +kernel
theorem tyX4_ok : ∀ k, k < 7 → parseFieldDescriptor (TX4 k).2.2.1 = some (tyX4 k) := by decide +kernel
abbrev cX4_init : ByteArray := prog_6_method_1_code
def yX4_init : MethodName := ⟨RX4, "<init>", "()V"⟩
abbrev cX4_readUnits : ByteArray := prog_6_method_2_code
def yX4_readUnits : MethodName := ⟨RX4, "readUnits", "(LEntryTree$Sections;)V"⟩
abbrev cX4_readHeader : ByteArray := prog_6_method_3_code
def yX4_readHeader : MethodName := ⟨RX4, "readHeader", "(LEntryTree$Sections;I)I"⟩
abbrev cX4_readTable : ByteArray := prog_6_method_4_code
def yX4_readTable : MethodName := ⟨RX4, "readTable", "(LEntryTree$Sections;I)V"⟩
abbrev cX4_readEntries : ByteArray := prog_6_method_5_code
def yX4_readEntries : MethodName := ⟨RX4, "readEntries", "(LEntryTree$Sections;I)V"⟩
abbrev cX4_readEntry : ByteArray := prog_6_method_6_code
def yX4_readEntry : MethodName := ⟨RX4, "readEntry", "(LEntryTree$Sections;III)I"⟩
abbrev cX4_readNumber : ByteArray := prog_6_method_7_code
def yX4_readNumber : MethodName := ⟨RX4, "readNumber", "(III)V"⟩
abbrev cX4_readLetters : ByteArray := prog_6_method_8_code
def yX4_readLetters : MethodName := ⟨RX4, "readLetters", "(LEntryTree$Sections;III)V"⟩
abbrev cX4_keptLength : ByteArray := prog_6_method_9_code
def yX4_keptLength : MethodName := ⟨RX4, "keptLength", "(LEntryTree$Store;J)I"⟩
abbrev cX4_resolveReferences : ByteArray := prog_6_method_10_code
def yX4_resolveReferences : MethodName := ⟨RX4, "resolveReferences", "(I)V"⟩
abbrev cX4_entryAt : ByteArray := prog_6_method_11_code
def yX4_entryAt : MethodName := ⟨RX4, "entryAt", "(IJ)I"⟩
def RX5 : String := "EntryTree$Sections"
def TX5 : u_T := fun k => match k with
  | 0 => ("EntryTree$Sections", "entries", "LEntryTree$Store;", true)
  | 1 => ("EntryTree$Sections", "shapes", "LEntryTree$Store;", true)
  | _ => ("EntryTree$Sections", "texts", "LEntryTree$Store;", true)
def tyX5 : Nat → FieldType := fun k => match k with
  | 0 => .object "EntryTree$Store"
  | 1 => .object "EntryTree$Store"
  | _ => .object "EntryTree$Store"
abbrev wsX50 : List Cond := u_ws RX5 TX5 3
theorem nmX5 : ∀ a, a < 3 → ∀ b, b < 3 → a ≠ b → (TX5 a).2.1 ≠ (TX5 b).2.1 := by decide +kernel
theorem tyX5_ok : ∀ k, k < 3 → parseFieldDescriptor (TX5 k).2.2.1 = some (tyX5 k) := by decide +kernel
abbrev cX5_init : ByteArray := prog_7_method_1_code
def yX5_init : MethodName := ⟨RX5, "<init>", "()V"⟩
abbrev cX5_of : ByteArray := prog_7_method_2_code
def yX5_of : MethodName := ⟨RX5, "of", "(I)LEntryTree$Store;"⟩
def RX6 : String := "EntryTree$Store"
def TX6 : u_T := fun k => match k with
  | 0 => ("EntryTree$Store", "data", "[B", true)
  | _ => ("EntryTree$Store", "used", "I", false)
def tyX6 : Nat → FieldType := fun k => match k with
  | 0 => .array .byte
  | _ => .int
abbrev wsX60 : List Cond := u_ws RX6 TX6 2
theorem nmX6 : ∀ a, a < 2 → ∀ b, b < 2 → a ≠ b → (TX6 a).2.1 ≠ (TX6 b).2.1 := by decide +kernel
theorem tyX6_ok : ∀ k, k < 2 → parseFieldDescriptor (TX6 k).2.2.1 = some (tyX6 k) := by decide +kernel
abbrev cX6_init : ByteArray := prog_8_method_1_code
def yX6_init : MethodName := ⟨RX6, "<init>", "(I)V"⟩
abbrev cX6_used : ByteArray := prog_8_method_2_code
def yX6_used : MethodName := ⟨RX6, "used", "()I"⟩
abbrev cX6_most : ByteArray := prog_8_method_3_code
def yX6_most : MethodName := ⟨RX6, "most", "()I"⟩
abbrev cX6_room : ByteArray := prog_8_method_4_code
def yX6_room : MethodName := ⟨RX6, "room", "()I"⟩
abbrev cX6_at : ByteArray := prog_8_method_5_code
def yX6_at : MethodName := ⟨RX6, "at", "(I)I"⟩
abbrev cX6_change : ByteArray := prog_8_method_6_code
def yX6_change : MethodName := ⟨RX6, "change", "(II)V"⟩
abbrev cX6_cut : ByteArray := prog_8_method_7_code
def yX6_cut : MethodName := ⟨RX6, "cut", "(I)V"⟩
abbrev cX6_add : ByteArray := prog_8_method_8_code
def yX6_add : MethodName := ⟨RX6, "add", "(I)V"⟩
abbrev cX6_addHighFirst : ByteArray := prog_8_method_9_code
def yX6_addHighFirst : MethodName := ⟨RX6, "addHighFirst", "(I)V"⟩
abbrev cX6_addLowFirst : ByteArray := prog_8_method_10_code
def yX6_addLowFirst : MethodName := ⟨RX6, "addLowFirst", "(JI)V"⟩
abbrev cX6_addRow : ByteArray := prog_8_method_11_code
def yX6_addRow : MethodName := ⟨RX6, "addRow", "(J)V"⟩
abbrev cX6_addSignedRow : ByteArray := prog_8_method_12_code
def yX6_addSignedRow : MethodName := ⟨RX6, "addSignedRow", "(J)V"⟩
abbrev cX6_addSevens : ByteArray := prog_8_method_13_code
def yX6_addSevens : MethodName := ⟨RX6, "addSevens", "(JI)V"⟩
abbrev cX6_addFrom : ByteArray := prog_8_method_14_code
def yX6_addFrom : MethodName := ⟨RX6, "addFrom", "(LEntryTree$Store;II)V"⟩
abbrev cX6_same : ByteArray := prog_8_method_15_code
def yX6_same : MethodName := ⟨RX6, "same", "(ILEntryTree$Store;II)Z"⟩
abbrev cX6_hash : ByteArray := prog_8_method_16_code
def yX6_hash : MethodName := ⟨RX6, "hash", "(II)I"⟩
abbrev cX6_zeroFrom : ByteArray := prog_8_method_17_code
def yX6_zeroFrom : MethodName := ⟨RX6, "zeroFrom", "(II)I"⟩
abbrev cX6_rowSize : ByteArray := prog_8_method_18_code
def yX6_rowSize : MethodName := ⟨RX6, "rowSize", "(J)I"⟩
abbrev cX6_signedRowSize : ByteArray := prog_8_method_19_code
def yX6_signedRowSize : MethodName := ⟨RX6, "signedRowSize", "(J)I"⟩
def RX7 : String := "EntryTree$Table"
def TX7 : u_T := fun k => match k with
  | 0 => ("EntryTree$Table", "tag", "[I", true)
  | 1 => ("EntryTree$Table", "hasChildren", "[Z", true)
  | 2 => ("EntryTree$Table", "attributes", "[I", true)
  | 3 => ("EntryTree$Table", "name", "[I", true)
  | 4 => ("EntryTree$Table", "form", "[I", true)
  | 5 => ("EntryTree$Table", "shapes", "I", false)
  | 6 => ("EntryTree$Table", "number", "[I", true)
  | _ => ("EntryTree$Table", "chains", "LEntryTree$Chains;", true)
def tyX7 : Nat → FieldType := fun k => match k with
  | 0 => .array .int
  | 1 => .array .boolean
  | 2 => .array .int
  | 3 => .array .int
  | 4 => .array .int
  | 5 => .int
  | 6 => .array .int
  | _ => .object "EntryTree$Chains"
abbrev wsX70 : List Cond := u_ws RX7 TX7 8
theorem nmX7 : ∀ a, a < 8 → ∀ b, b < 8 → a ≠ b → (TX7 a).2.1 ≠ (TX7 b).2.1 := by decide +kernel
theorem tyX7_ok : ∀ k, k < 8 → parseFieldDescriptor (TX7 k).2.2.1 = some (tyX7 k) := by decide +kernel
abbrev cX7_init : ByteArray := prog_9_method_1_code
def yX7_init : MethodName := ⟨RX7, "<init>", "()V"⟩
abbrev cX7_indexOf : ByteArray := prog_9_method_2_code
def yX7_indexOf : MethodName := ⟨RX7, "indexOf", "(I)I"⟩
abbrev cX7_readFrom : ByteArray := prog_9_method_3_code
def yX7_readFrom : MethodName := ⟨RX7, "readFrom", "(LEntryTree$Cursor;)V"⟩
abbrev cX7_readShape : ByteArray := prog_9_method_4_code
def yX7_readShape : MethodName := ⟨RX7, "readShape", "(LEntryTree$Cursor;I)V"⟩
abbrev cX7_readAttribute : ByteArray := prog_9_method_5_code
def yX7_readAttribute : MethodName := ⟨RX7, "readAttribute", "(LEntryTree$Cursor;I)Z"⟩
abbrev cX7_mayFollow : ByteArray := prog_9_method_6_code
def yX7_mayFollow : MethodName := ⟨RX7, "mayFollow", "(II)Z"⟩
def RX8 : String := "EntryTree$Tree"
def TX8 : u_T := fun k => match k with
  | 0 => ("EntryTree$Tree", "units", "I", false)
  | 1 => ("EntryTree$Tree", "entries", "I", false)
  | 2 => ("EntryTree$Tree", "roots", "[I", true)
  | 3 => ("EntryTree$Tree", "tag", "[I", true)
  | 4 => ("EntryTree$Tree", "parent", "[I", true)
  | 5 => ("EntryTree$Tree", "unitOf", "[I", true)
  | 6 => ("EntryTree$Tree", "depth", "[I", true)
  | 7 => ("EntryTree$Tree", "children", "[I", true)
  | 8 => ("EntryTree$Tree", "firstChild", "[I", true)
  | 9 => ("EntryTree$Tree", "lastChild", "[I", true)
  | 10 => ("EntryTree$Tree", "nextChild", "[I", true)
  | 11 => ("EntryTree$Tree", "attributes", "[I", true)
  | 12 => ("EntryTree$Tree", "name", "[I", true)
  | 13 => ("EntryTree$Tree", "form", "[I", true)
  | 14 => ("EntryTree$Tree", "value", "[J", true)
  | _ => ("EntryTree$Tree", "length", "[I", true)
def tyX8 : Nat → FieldType := fun k => match k with
  | 0 => .int
  | 1 => .int
  | 2 => .array .int
  | 3 => .array .int
  | 4 => .array .int
  | 5 => .array .int
  | 6 => .array .int
  | 7 => .array .int
  | 8 => .array .int
  | 9 => .array .int
  | 10 => .array .int
  | 11 => .array .int
  | 12 => .array .int
  | 13 => .array .int
  | 14 => .array .long
  | _ => .array .int
abbrev wsX80 : List Cond := u_ws RX8 TX8 16
theorem nmX8 : ∀ a, a < 16 → ∀ b, b < 16 → a ≠ b → (TX8 a).2.1 ≠ (TX8 b).2.1 := by decide +kernel
theorem tyX8_ok : ∀ k, k < 16 → parseFieldDescriptor (TX8 k).2.2.1 = some (tyX8 k) := by decide +kernel
abbrev cX8_init : ByteArray := prog_10_method_1_code
def yX8_init : MethodName := ⟨RX8, "<init>", "()V"⟩
abbrev cX8_slotAt : ByteArray := prog_10_method_2_code
def yX8_slotAt : MethodName := ⟨RX8, "slotAt", "(II)I"⟩
abbrev cX8_forget : ByteArray := prog_10_method_3_code
def yX8_forget : MethodName := ⟨RX8, "forget", "()V"⟩
abbrev cX8_addRoot : ByteArray := prog_10_method_4_code
def yX8_addRoot : MethodName := ⟨RX8, "addRoot", "(I)I"⟩
abbrev cX8_addChild : ByteArray := prog_10_method_5_code
def yX8_addChild : MethodName := ⟨RX8, "addChild", "(II)I"⟩
abbrev cX8_addEntry : ByteArray := prog_10_method_6_code
def yX8_addEntry : MethodName := ⟨RX8, "addEntry", "(I)I"⟩
abbrev cX8_addAttribute : ByteArray := prog_10_method_7_code
def yX8_addAttribute : MethodName := ⟨RX8, "addAttribute", "(IIIJI)I"⟩
abbrev cX8_slotOf : ByteArray := prog_10_method_8_code
def yX8_slotOf : MethodName := ⟨RX8, "slotOf", "(II)I"⟩
abbrev cX8_start : ByteArray := prog_10_method_9_code
def yX8_start : MethodName := ⟨RX8, "start", "(I)I"⟩
abbrev cX8_childAt : ByteArray := prog_10_method_10_code
def yX8_childAt : MethodName := ⟨RX8, "childAt", "(II)I"⟩
def RX9 : String := "EntryTree$Writer"
def TX9 : u_T := fun k => match k with
  | _ => ("", "", "", false)
def tyX9 : Nat → FieldType := fun k => match k with
  | _ => .int
abbrev wsX90 : List Cond := u_ws RX9 TX9 0
theorem nmX9 : ∀ a, a < 0 → ∀ b, b < 0 → a ≠ b → (TX9 a).2.1 ≠ (TX9 b).2.1 := by decide +kernel
theorem tyX9_ok : ∀ k, k < 0 → parseFieldDescriptor (TX9 k).2.2.1 = some (tyX9 k) := by decide +kernel
abbrev cX9_writeUnits : ByteArray := prog_11_method_2_code
def yX9_writeUnits : MethodName := ⟨RX9, "writeUnits", "(LEntryTree$Tree;LEntryTree$Store;LEntryTree$Layout;LEntryTree$Store;)V"⟩
abbrev cX9_writeEntry : ByteArray := prog_11_method_3_code
def yX9_writeEntry : MethodName := ⟨RX9, "writeEntry", "(LEntryTree$Tree;LEntryTree$Store;LEntryTree$Layout;LEntryTree$Store;I)V"⟩
abbrev cX9_writeValue : ByteArray := prog_11_method_4_code
def yX9_writeValue : MethodName := ⟨RX9, "writeValue", "(LEntryTree$Tree;LEntryTree$Store;LEntryTree$Layout;LEntryTree$Store;I)V"⟩
abbrev cX9_writeShapes : ByteArray := prog_11_method_5_code
def yX9_writeShapes : MethodName := ⟨RX9, "writeShapes", "(LEntryTree$Tree;LEntryTree$Layout;LEntryTree$Store;)V"⟩
abbrev cX9_writeTexts : ByteArray := prog_11_method_6_code
def yX9_writeTexts : MethodName := ⟨RX9, "writeTexts", "(LEntryTree$Tree;LEntryTree$Store;LEntryTree$Layout;LEntryTree$Store;)V"⟩
def RX10 : String := "EntryTree"
def TX10 : u_T := fun k => match k with
  | 0 => ("EntryTree", "tape", "LEntryTree$Store;", true)
  | 1 => ("EntryTree", "letters", "LEntryTree$Store;", true)
  | 2 => ("EntryTree", "sections", "LEntryTree$Sections;", true)
  | 3 => ("EntryTree", "layout", "LEntryTree$Layout;", true)
  | 4 => ("EntryTree", "reader", "LEntryTree$Reader;", true)
  | _ => ("EntryTree", "tree", "LEntryTree$Tree;", false)
def tyX10 : Nat → FieldType := fun k => match k with
  | 0 => .object "EntryTree$Store"
  | 1 => .object "EntryTree$Store"
  | 2 => .object "EntryTree$Sections"
  | 3 => .object "EntryTree$Layout"
  | 4 => .object "EntryTree$Reader"
  | _ => .object "EntryTree$Tree"
abbrev wsX100 : List Cond := u_ws RX10 TX10 6
theorem nmX10 : ∀ a, a < 6 → ∀ b, b < 6 → a ≠ b → (TX10 a).2.1 ≠ (TX10 b).2.1 := by decide +kernel
theorem tyX10_ok : ∀ k, k < 6 → parseFieldDescriptor (TX10 k).2.2.1 = some (tyX10 k) := by decide +kernel
abbrev cX10_init : ByteArray := prog_1_method_1_code
def yX10_init : MethodName := ⟨RX10, "<init>", "()V"⟩
abbrev cX10_feed : ByteArray := prog_1_method_2_code
def yX10_feed : MethodName := ⟨RX10, "feed", "(IIIII)I"⟩
abbrev cX10_end : ByteArray := prog_1_method_3_code
def yX10_end : MethodName := ⟨RX10, "end", "(I)V"⟩
abbrev cX10_unit : ByteArray := prog_1_method_4_code
def yX10_unit : MethodName := ⟨RX10, "unit", "(I)I"⟩
abbrev cX10_entry : ByteArray := prog_1_method_5_code
def yX10_entry : MethodName := ⟨RX10, "entry", "(II)I"⟩
abbrev cX10_number : ByteArray := prog_1_method_6_code
def yX10_number : MethodName := ⟨RX10, "number", "(IIIJ)I"⟩
abbrev cX10_bytes : ByteArray := prog_1_method_7_code
def yX10_bytes : MethodName := ⟨RX10, "bytes", "(III)I"⟩
abbrev cX10_reference : ByteArray := prog_1_method_8_code
def yX10_reference : MethodName := ⟨RX10, "reference", "(IIII)I"⟩
abbrev cX10_clear : ByteArray := prog_1_method_9_code
def yX10_clear : MethodName := ⟨RX10, "clear", "()I"⟩
abbrev cX10_write : ByteArray := prog_1_method_10_code
def yX10_write : MethodName := ⟨RX10, "write", "()I"⟩
abbrev cX10_size : ByteArray := prog_1_method_11_code
def yX10_size : MethodName := ⟨RX10, "size", "(I)I"⟩
abbrev cX10_octet : ByteArray := prog_1_method_12_code
def yX10_octet : MethodName := ⟨RX10, "octet", "(II)I"⟩
abbrev cX10_load : ByteArray := prog_1_method_13_code
def yX10_load : MethodName := ⟨RX10, "load", "(I)I"⟩
abbrev cX10_alter : ByteArray := prog_1_method_14_code
def yX10_alter : MethodName := ⟨RX10, "alter", "(III)I"⟩
abbrev cX10_read : ByteArray := prog_1_method_15_code
def yX10_read : MethodName := ⟨RX10, "read", "()I"⟩
abbrev cX10_fault : ByteArray := prog_1_method_16_code
def yX10_fault : MethodName := ⟨RX10, "fault", "(I)I"⟩
abbrev cX10_count : ByteArray := prog_1_method_17_code
def yX10_count : MethodName := ⟨RX10, "count", "(I)I"⟩
abbrev cX10_about : ByteArray := prog_1_method_18_code
def yX10_about : MethodName := ⟨RX10, "about", "(II)I"⟩
abbrev cX10_child : ByteArray := prog_1_method_19_code
def yX10_child : MethodName := ⟨RX10, "child", "(II)I"⟩
abbrev cX10_root : ByteArray := prog_1_method_20_code
def yX10_root : MethodName := ⟨RX10, "root", "(I)I"⟩
abbrev cX10_attribute : ByteArray := prog_1_method_21_code
def yX10_attribute : MethodName := ⟨RX10, "attribute", "(III)I"⟩
abbrev cX10_value : ByteArray := prog_1_method_22_code
def yX10_value : MethodName := ⟨RX10, "value", "(II)J"⟩
abbrev cX10_letter : ByteArray := prog_1_method_23_code
def yX10_letter : MethodName := ⟨RX10, "letter", "(III)I"⟩
abbrev cX10_find : ByteArray := prog_1_method_24_code
def yX10_find : MethodName := ⟨RX10, "find", "(I)I"⟩
abbrev cX10_covers : ByteArray := prog_1_method_25_code
def yX10_covers : MethodName := ⟨RX10, "covers", "(J)I"⟩
abbrev cX10_needEntry : ByteArray := prog_1_method_26_code
def yX10_needEntry : MethodName := ⟨RX10, "needEntry", "(I)V"⟩
abbrev cX10_needCode : ByteArray := prog_1_method_27_code
def yX10_needCode : MethodName := ⟨RX10, "needCode", "(I)V"⟩
abbrev cX10_needNewName : ByteArray := prog_1_method_28_code
def yX10_needNewName : MethodName := ⟨RX10, "needNewName", "(II)V"⟩
abbrev cX10_needLetters : ByteArray := prog_1_method_29_code
def yX10_needLetters : MethodName := ⟨RX10, "needLetters", "(I)V"⟩
abbrev cX10_needRoom : ByteArray := prog_1_method_30_code
def yX10_needRoom : MethodName := ⟨RX10, "needRoom", "(II)V"⟩
abbrev cX10_needSection : ByteArray := prog_1_method_31_code
def yX10_needSection : MethodName := ⟨RX10, "needSection", "(I)V"⟩
abbrev cX10_needByte : ByteArray := prog_1_method_32_code
def yX10_needByte : MethodName := ⟨RX10, "needByte", "(II)V"⟩
abbrev cX10_neededSlot : ByteArray := prog_1_method_33_code
def yX10_neededSlot : MethodName := ⟨RX10, "neededSlot", "(II)I"⟩
abbrev cX10_keepLetters : ByteArray := prog_1_method_34_code
def yX10_keepLetters : MethodName := ⟨RX10, "keepLetters", "()V"⟩
abbrev cX10_rootNamedByTape : ByteArray := prog_1_method_35_code
def yX10_rootNamedByTape : MethodName := ⟨RX10, "rootNamedByTape", "()I"⟩
abbrev cX10_childNamedByTape : ByteArray := prog_1_method_36_code
def yX10_childNamedByTape : MethodName := ⟨RX10, "childNamedByTape", "(I)I"⟩
abbrev cX10_isNamedByTape : ByteArray := prog_1_method_37_code
def yX10_isNamedByTape : MethodName := ⟨RX10, "isNamedByTape", "(I)Z"⟩
abbrev cX10_coversAddress : ByteArray := prog_1_method_38_code
def yX10_coversAddress : MethodName := ⟨RX10, "coversAddress", "(IJ)Z"⟩
abbrev cX10_isBelow : ByteArray := prog_1_method_39_code
def yX10_isBelow : MethodName := ⟨RX10, "isBelow", "(JJ)Z"⟩
abbrev cX10_isCode : ByteArray := prog_1_method_40_code
def yX10_isCode : MethodName := ⟨RX10, "isCode", "(I)Z"⟩
def RX11 : String := "EntryTreeModel"
def TX11 : u_T := fun k => match k with
  | 0 => ("EntryTreeModel", "thrown", "I", false)
  | 1 => ("EntryTreeModel", "tape", "[B", true)
  | 2 => ("EntryTreeModel", "taped", "I", false)
  | 3 => ("EntryTreeModel", "bank", "I", false)
  | 4 => ("EntryTreeModel", "entries", "[I", true)
  | 5 => ("EntryTreeModel", "units", "[I", true)
  | 6 => ("EntryTreeModel", "roots", "[I", true)
  | 7 => ("EntryTreeModel", "tag", "[I", true)
  | 8 => ("EntryTreeModel", "parent", "[I", true)
  | 9 => ("EntryTreeModel", "unitOf", "[I", true)
  | 10 => ("EntryTreeModel", "attributes", "[I", true)
  | 11 => ("EntryTreeModel", "name", "[I", true)
  | 12 => ("EntryTreeModel", "form", "[I", true)
  | 13 => ("EntryTreeModel", "value", "[J", true)
  | 14 => ("EntryTreeModel", "textAt", "[I", true)
  | 15 => ("EntryTreeModel", "textSize", "[I", true)
  | 16 => ("EntryTreeModel", "allBytes", "[I", true)
  | 17 => ("EntryTreeModel", "pooled", "[I", true)
  | 18 => ("EntryTreeModel", "pool", "[B", true)
  | 19 => ("EntryTreeModel", "sections", "[B", true)
  | 20 => ("EntryTreeModel", "sizes", "[I", true)
  | 21 => ("EntryTreeModel", "kind", "I", false)
  | 22 => ("EntryTreeModel", "where", "I", false)
  | 23 => ("EntryTreeModel", "ordered", "I", false)
  | 24 => ("EntryTreeModel", "order", "[I", true)
  | 25 => ("EntryTreeModel", "ends", "[I", true)
  | 26 => ("EntryTreeModel", "shapes", "I", false)
  | 27 => ("EntryTreeModel", "shapeOf", "[I", true)
  | 28 => ("EntryTreeModel", "shapeEntry", "[I", true)
  | 29 => ("EntryTreeModel", "texts", "I", false)
  | 30 => ("EntryTreeModel", "textFirst", "[I", true)
  | 31 => ("EntryTreeModel", "textPlace", "[I", true)
  | 32 => ("EntryTreeModel", "textBytes", "I", false)
  | 33 => ("EntryTreeModel", "place", "[I", true)
  | 34 => ("EntryTreeModel", "rowSize", "[I", true)
  | 35 => ("EntryTreeModel", "unitSize", "[I", true)
  | 36 => ("EntryTreeModel", "putAt", "I", false)
  | 37 => ("EntryTreeModel", "wrong", "I", false)
  | 38 => ("EntryTreeModel", "wrongKind", "I", false)
  | 39 => ("EntryTreeModel", "wrongSection", "I", false)
  | 40 => ("EntryTreeModel", "pos", "I", false)
  | 41 => ("EntryTreeModel", "end", "I", false)
  | 42 => ("EntryTreeModel", "section", "I", false)
  | 43 => ("EntryTreeModel", "table", "I", false)
  | 44 => ("EntryTreeModel", "tableNumber", "[I", true)
  | 45 => ("EntryTreeModel", "tableTag", "[I", true)
  | 46 => ("EntryTreeModel", "tableChildren", "[Z", true)
  | 47 => ("EntryTreeModel", "tableAttributes", "[I", true)
  | 48 => ("EntryTreeModel", "tableName", "[I", true)
  | 49 => ("EntryTreeModel", "tableForm", "[I", true)
  | 50 => ("EntryTreeModel", "readPlace", "[I", true)
  | 51 => ("EntryTreeModel", "referenceAt", "[I", true)
  | 52 => ("EntryTreeModel", "unitAt", "I", false)
  | 53 => ("EntryTreeModel", "hasChildren", "Z", false)
  | _ => ("EntryTreeModel", "tablePlace", "J", false)
def tyX11 : Nat → FieldType := fun k => match k with
  | 0 => .int
  | 1 => .array .byte
  | 2 => .int
  | 3 => .int
  | 4 => .array .int
  | 5 => .array .int
  | 6 => .array .int
  | 7 => .array .int
  | 8 => .array .int
  | 9 => .array .int
  | 10 => .array .int
  | 11 => .array .int
  | 12 => .array .int
  | 13 => .array .long
  | 14 => .array .int
  | 15 => .array .int
  | 16 => .array .int
  | 17 => .array .int
  | 18 => .array .byte
  | 19 => .array .byte
  | 20 => .array .int
  | 21 => .int
  | 22 => .int
  | 23 => .int
  | 24 => .array .int
  | 25 => .array .int
  | 26 => .int
  | 27 => .array .int
  | 28 => .array .int
  | 29 => .int
  | 30 => .array .int
  | 31 => .array .int
  | 32 => .int
  | 33 => .array .int
  | 34 => .array .int
  | 35 => .array .int
  | 36 => .int
  | 37 => .int
  | 38 => .int
  | 39 => .int
  | 40 => .int
  | 41 => .int
  | 42 => .int
  | 43 => .int
  | 44 => .array .int
  | 45 => .array .int
  | 46 => .array .boolean
  | 47 => .array .int
  | 48 => .array .int
  | 49 => .array .int
  | 50 => .array .int
  | 51 => .array .int
  | 52 => .int
  | 53 => .boolean
  | _ => .long
abbrev wsX110 : List Cond := u_ws RX11 TX11 55
theorem nmX11 : ∀ a, a < 55 → ∀ b, b < 55 → a ≠ b → (TX11 a).2.1 ≠ (TX11 b).2.1 := by decide +kernel
theorem tyX11_ok : ∀ k, k < 55 → parseFieldDescriptor (TX11 k).2.2.1 = some (tyX11 k) := by decide +kernel
abbrev cX11_init : ByteArray := prog_13_method_1_code
def yX11_init : MethodName := ⟨RX11, "<init>", "()V"⟩
abbrev cX11_thrown : ByteArray := prog_13_method_2_code
def yX11_thrown : MethodName := ⟨RX11, "thrown", "()I"⟩
abbrev cX11_in : ByteArray := prog_13_method_3_code
def yX11_in : MethodName := ⟨RX11, "in", "(JJJ)Z"⟩
abbrev cX11_goes : ByteArray := prog_13_method_4_code
def yX11_goes : MethodName := ⟨RX11, "goes", "(Z)Z"⟩
abbrev cX11_from : ByteArray := prog_13_method_5_code
def yX11_from : MethodName := ⟨RX11, "from", "(I)I"⟩
abbrev cX11_most : ByteArray := prog_13_method_6_code
def yX11_most : MethodName := ⟨RX11, "most", "(I)I"⟩
abbrev cX11_feed : ByteArray := prog_13_method_7_code
def yX11_feed : MethodName := ⟨RX11, "feed", "(IIIII)I"⟩
abbrev cX11_end : ByteArray := prog_13_method_8_code
def yX11_end : MethodName := ⟨RX11, "end", "(I)V"⟩
abbrev cX11_isName : ByteArray := prog_13_method_9_code
def yX11_isName : MethodName := ⟨RX11, "isName", "(I)Z"⟩
abbrev cX11_at : ByteArray := prog_13_method_10_code
def yX11_at : MethodName := ⟨RX11, "at", "(I)I"⟩
abbrev cX11_isEntry : ByteArray := prog_13_method_11_code
def yX11_isEntry : MethodName := ⟨RX11, "isEntry", "(I)Z"⟩
abbrev cX11_make : ByteArray := prog_13_method_12_code
def yX11_make : MethodName := ⟨RX11, "make", "(III)I"⟩
abbrev cX11_unit : ByteArray := prog_13_method_13_code
def yX11_unit : MethodName := ⟨RX11, "unit", "(I)I"⟩
abbrev cX11_depth : ByteArray := prog_13_method_14_code
def yX11_depth : MethodName := ⟨RX11, "depth", "(I)I"⟩
abbrev cX11_entry : ByteArray := prog_13_method_15_code
def yX11_entry : MethodName := ⟨RX11, "entry", "(II)I"⟩
abbrev cX11_isNumber : ByteArray := prog_13_method_16_code
def yX11_isNumber : MethodName := ⟨RX11, "isNumber", "(I)Z"⟩
abbrev cX11_isText : ByteArray := prog_13_method_17_code
def yX11_isText : MethodName := ⟨RX11, "isText", "(I)Z"⟩
abbrev cX11_isReference : ByteArray := prog_13_method_18_code
def yX11_isReference : MethodName := ⟨RX11, "isReference", "(I)Z"⟩
abbrev cX11_isForm : ByteArray := prog_13_method_19_code
def yX11_isForm : MethodName := ⟨RX11, "isForm", "(J)Z"⟩
abbrev cX11_fits : ByteArray := prog_13_method_20_code
def yX11_fits : MethodName := ⟨RX11, "fits", "(IJ)Z"⟩
abbrev cX11_isTold : ByteArray := prog_13_method_21_code
def yX11_isTold : MethodName := ⟨RX11, "isTold", "(II)Z"⟩
abbrev cX11_add : ByteArray := prog_13_method_22_code
def yX11_add : MethodName := ⟨RX11, "add", "(IIIJ)I"⟩
abbrev cX11_isFull : ByteArray := prog_13_method_23_code
def yX11_isFull : MethodName := ⟨RX11, "isFull", "(I)Z"⟩
abbrev cX11_number : ByteArray := prog_13_method_24_code
def yX11_number : MethodName := ⟨RX11, "number", "(IIIJ)I"⟩
abbrev cX11_areBytes : ByteArray := prog_13_method_25_code
def yX11_areBytes : MethodName := ⟨RX11, "areBytes", "(I)Z"⟩
abbrev cX11_bytes : ByteArray := prog_13_method_26_code
def yX11_bytes : MethodName := ⟨RX11, "bytes", "(III)I"⟩
abbrev cX11_reference : ByteArray := prog_13_method_27_code
def yX11_reference : MethodName := ⟨RX11, "reference", "(IIII)I"⟩
abbrev cX11_clear : ByteArray := prog_13_method_28_code
def yX11_clear : MethodName := ⟨RX11, "clear", "()I"⟩
abbrev cX11_firstChild : ByteArray := prog_13_method_29_code
def yX11_firstChild : MethodName := ⟨RX11, "firstChild", "(I)I"⟩
abbrev cX11_nextChild : ByteArray := prog_13_method_30_code
def yX11_nextChild : MethodName := ⟨RX11, "nextChild", "(I)I"⟩
abbrev cX11_goThrough : ByteArray := prog_13_method_31_code
def yX11_goThrough : MethodName := ⟨RX11, "goThrough", "()V"⟩
abbrev cX11_sameShape : ByteArray := prog_13_method_32_code
def yX11_sameShape : MethodName := ⟨RX11, "sameShape", "(II)Z"⟩
abbrev cX11_findShapes : ByteArray := prog_13_method_33_code
def yX11_findShapes : MethodName := ⟨RX11, "findShapes", "()V"⟩
abbrev cX11_sameText : ByteArray := prog_13_method_34_code
def yX11_sameText : MethodName := ⟨RX11, "sameText", "(II)Z"⟩
abbrev cX11_textOf : ByteArray := prog_13_method_35_code
def yX11_textOf : MethodName := ⟨RX11, "textOf", "(I)I"⟩
abbrev cX11_findTexts : ByteArray := prog_13_method_36_code
def yX11_findTexts : MethodName := ⟨RX11, "findTexts", "()V"⟩
abbrev cX11_rowBytes : ByteArray := prog_13_method_37_code
def yX11_rowBytes : MethodName := ⟨RX11, "rowBytes", "(J)I"⟩
abbrev cX11_signedBytes : ByteArray := prog_13_method_38_code
def yX11_signedBytes : MethodName := ⟨RX11, "signedBytes", "(J)I"⟩
abbrev cX11_sizeOf : ByteArray := prog_13_method_39_code
def yX11_sizeOf : MethodName := ⟨RX11, "sizeOf", "(I)I"⟩
abbrev cX11_reckon : ByteArray := prog_13_method_40_code
def yX11_reckon : MethodName := ⟨RX11, "reckon", "()V"⟩
abbrev cX11_layOut : ByteArray := prog_13_method_41_code
def yX11_layOut : MethodName := ⟨RX11, "layOut", "()V"⟩
abbrev cX11_put : ByteArray := prog_13_method_42_code
def yX11_put : MethodName := ⟨RX11, "put", "(I)V"⟩
abbrev cX11_putRow : ByteArray := prog_13_method_43_code
def yX11_putRow : MethodName := ⟨RX11, "putRow", "(J)V"⟩
abbrev cX11_putSigned : ByteArray := prog_13_method_44_code
def yX11_putSigned : MethodName := ⟨RX11, "putSigned", "(J)V"⟩
abbrev cX11_putNumber : ByteArray := prog_13_method_45_code
def yX11_putNumber : MethodName := ⟨RX11, "putNumber", "(JI)V"⟩
abbrev cX11_putText : ByteArray := prog_13_method_46_code
def yX11_putText : MethodName := ⟨RX11, "putText", "(I)V"⟩
abbrev cX11_putValue : ByteArray := prog_13_method_47_code
def yX11_putValue : MethodName := ⟨RX11, "putValue", "(I)V"⟩
abbrev cX11_shapeBytes : ByteArray := prog_13_method_48_code
def yX11_shapeBytes : MethodName := ⟨RX11, "shapeBytes", "()I"⟩
abbrev cX11_write : ByteArray := prog_13_method_49_code
def yX11_write : MethodName := ⟨RX11, "write", "()I"⟩
abbrev cX11_isSection : ByteArray := prog_13_method_50_code
def yX11_isSection : MethodName := ⟨RX11, "isSection", "(I)Z"⟩
abbrev cX11_size : ByteArray := prog_13_method_51_code
def yX11_size : MethodName := ⟨RX11, "size", "(I)I"⟩
abbrev cX11_isOctet : ByteArray := prog_13_method_52_code
def yX11_isOctet : MethodName := ⟨RX11, "isOctet", "(II)Z"⟩
abbrev cX11_octet : ByteArray := prog_13_method_53_code
def yX11_octet : MethodName := ⟨RX11, "octet", "(II)I"⟩
abbrev cX11_load : ByteArray := prog_13_method_54_code
def yX11_load : MethodName := ⟨RX11, "load", "(I)I"⟩
abbrev cX11_alter : ByteArray := prog_13_method_55_code
def yX11_alter : MethodName := ⟨RX11, "alter", "(III)I"⟩
abbrev cX11_bad : ByteArray := prog_13_method_56_code
def yX11_bad : MethodName := ⟨RX11, "bad", "(III)V"⟩
abbrev cX11_byteAt : ByteArray := prog_13_method_57_code
def yX11_byteAt : MethodName := ⟨RX11, "byteAt", "(I)I"⟩
abbrev cX11_has : ByteArray := prog_13_method_58_code
def yX11_has : MethodName := ⟨RX11, "has", "(I)Z"⟩
abbrev cX11_fixed : ByteArray := prog_13_method_59_code
def yX11_fixed : MethodName := ⟨RX11, "fixed", "(I)J"⟩
abbrev cX11_row : ByteArray := prog_13_method_60_code
def yX11_row : MethodName := ⟨RX11, "row", "(ZJ)J"⟩
abbrev cX11_readTable : ByteArray := prog_13_method_61_code
def yX11_readTable : MethodName := ⟨RX11, "readTable", "(I)V"⟩
abbrev cX11_readShape : ByteArray := prog_13_method_62_code
def yX11_readShape : MethodName := ⟨RX11, "readShape", "()Z"⟩
abbrev cX11_readPair : ByteArray := prog_13_method_63_code
def yX11_readPair : MethodName := ⟨RX11, "readPair", "()Z"⟩
abbrev cX11_shapeNumbered : ByteArray := prog_13_method_64_code
def yX11_shapeNumbered : MethodName := ⟨RX11, "shapeNumbered", "(J)I"⟩
abbrev cX11_textIs : ByteArray := prog_13_method_65_code
def yX11_textIs : MethodName := ⟨RX11, "textIs", "(III)V"⟩
abbrev cX11_keep : ByteArray := prog_13_method_66_code
def yX11_keep : MethodName := ⟨RX11, "keep", "(II)I"⟩
abbrev cX11_readText8 : ByteArray := prog_13_method_67_code
def yX11_readText8 : MethodName := ⟨RX11, "readText8", "(I)V"⟩
abbrev cX11_readText14 : ByteArray := prog_13_method_68_code
def yX11_readText14 : MethodName := ⟨RX11, "readText14", "(I)V"⟩
abbrev cX11_readValue : ByteArray := prog_13_method_69_code
def yX11_readValue : MethodName := ⟨RX11, "readValue", "(I)V"⟩
abbrev cX11_readEntry : ByteArray := prog_13_method_70_code
def yX11_readEntry : MethodName := ⟨RX11, "readEntry", "(II)I"⟩
abbrev cX11_readEntries : ByteArray := prog_13_method_71_code
def yX11_readEntries : MethodName := ⟨RX11, "readEntries", "()V"⟩
abbrev cX11_resolve : ByteArray := prog_13_method_72_code
def yX11_resolve : MethodName := ⟨RX11, "resolve", "(II)V"⟩
abbrev cX11_readUnit : ByteArray := prog_13_method_73_code
def yX11_readUnit : MethodName := ⟨RX11, "readUnit", "(I)V"⟩
abbrev cX11_read : ByteArray := prog_13_method_74_code
def yX11_read : MethodName := ⟨RX11, "read", "()I"⟩
abbrev cX11_fault : ByteArray := prog_13_method_75_code
def yX11_fault : MethodName := ⟨RX11, "fault", "(I)I"⟩
abbrev cX11_count : ByteArray := prog_13_method_76_code
def yX11_count : MethodName := ⟨RX11, "count", "(I)I"⟩
abbrev cX11_about : ByteArray := prog_13_method_77_code
def yX11_about : MethodName := ⟨RX11, "about", "(II)I"⟩
abbrev cX11_child : ByteArray := prog_13_method_78_code
def yX11_child : MethodName := ⟨RX11, "child", "(II)I"⟩
abbrev cX11_root : ByteArray := prog_13_method_79_code
def yX11_root : MethodName := ⟨RX11, "root", "(I)I"⟩
abbrev cX11_isAttribute : ByteArray := prog_13_method_80_code
def yX11_isAttribute : MethodName := ⟨RX11, "isAttribute", "(II)Z"⟩
abbrev cX11_attribute : ByteArray := prog_13_method_81_code
def yX11_attribute : MethodName := ⟨RX11, "attribute", "(III)I"⟩
abbrev cX11_value : ByteArray := prog_13_method_82_code
def yX11_value : MethodName := ⟨RX11, "value", "(II)J"⟩
abbrev cX11_letter : ByteArray := prog_13_method_83_code
def yX11_letter : MethodName := ⟨RX11, "letter", "(III)I"⟩
abbrev cX11_isNamed : ByteArray := prog_13_method_84_code
def yX11_isNamed : MethodName := ⟨RX11, "isNamed", "(II)Z"⟩
abbrev cX11_find : ByteArray := prog_13_method_85_code
def yX11_find : MethodName := ⟨RX11, "find", "(I)I"⟩
abbrev cX11_numberNamed : ByteArray := prog_13_method_86_code
def yX11_numberNamed : MethodName := ⟨RX11, "numberNamed", "(II)I"⟩
abbrev cX11_isBelow : ByteArray := prog_13_method_87_code
def yX11_isBelow : MethodName := ⟨RX11, "isBelow", "(JJ)Z"⟩
abbrev cX11_covers : ByteArray := prog_13_method_88_code
def yX11_covers : MethodName := ⟨RX11, "covers", "(J)I"⟩
def RJ9 : String := "java/lang/Math"
def TJ9 : u_T := fun k => match k with
  | _ => ("", "", "", false)
def tyJ9 : Nat → FieldType := fun k => match k with
  | _ => .int
abbrev wsJ90 : List Cond := u_ws RJ9 TJ9 0
theorem nmJ9 : ∀ a, a < 0 → ∀ b, b < 0 → a ≠ b → (TJ9 a).2.1 ≠ (TJ9 b).2.1 := by decide +kernel
theorem tyJ9_ok : ∀ k, k < 0 → parseFieldDescriptor (TJ9 k).2.2.1 = some (tyJ9 k) := by decide +kernel
abbrev cJ9_max_7cf53 : ByteArray := prog_18_method_65_code
def yJ9_max_7cf53 : MethodName := ⟨RJ9, "max", "(II)I"⟩
def RJ0 : String := "java/lang/String"
def TJ0 : u_T := fun k => match k with
  | _ => ("", "", "", false)
def tyJ0 : Nat → FieldType := fun k => match k with
  | _ => .int
abbrev wsJ00 : List Cond := u_ws RJ0 TJ0 0
theorem nmJ0 : ∀ a, a < 0 → ∀ b, b < 0 → a ≠ b → (TJ0 a).2.1 ≠ (TJ0 b).2.1 := by decide +kernel
theorem tyJ0_ok : ∀ k, k < 0 → parseFieldDescriptor (TJ0 k).2.2.1 = some (tyJ0 k) := by decide +kernel
def RJ7 : String := "java/util/Arrays"
def TJ7 : u_T := fun k => match k with
  | _ => ("", "", "", false)
def tyJ7 : Nat → FieldType := fun k => match k with
  | _ => .int
abbrev wsJ70 : List Cond := u_ws RJ7 TJ7 0
theorem nmJ7 : ∀ a, a < 0 → ∀ b, b < 0 → a ≠ b → (TJ7 a).2.1 ≠ (TJ7 b).2.1 := by decide +kernel
theorem tyJ7_ok : ∀ k, k < 0 → parseFieldDescriptor (TJ7 k).2.2.1 = some (tyJ7 k) := by decide +kernel
abbrev cJ7_fill_53178 : ByteArray := prog_23_method_103_code
def yJ7_fill_53178 : MethodName := ⟨RJ7, "fill", "([II)V"⟩
def RL : String := "EntryTreeLaw"
abbrev cL_feed : ByteArray := method_3_code
def yL_feed : MethodName := ⟨RL, "feed", "(LEntryTree;IIIII[J)I"⟩
abbrev cL_end : ByteArray := method_4_code
def yL_end : MethodName := ⟨RL, "end", "(LEntryTree;I)I"⟩
abbrev cL_unit : ByteArray := method_5_code
def yL_unit : MethodName := ⟨RL, "unit", "(LEntryTree;I[J)I"⟩
abbrev cL_entry : ByteArray := method_6_code
def yL_entry : MethodName := ⟨RL, "entry", "(LEntryTree;II[J)I"⟩
abbrev cL_number : ByteArray := method_7_code
def yL_number : MethodName := ⟨RL, "number", "(LEntryTree;IIIJ[J)I"⟩
abbrev cL_bytes : ByteArray := method_8_code
def yL_bytes : MethodName := ⟨RL, "bytes", "(LEntryTree;III[J)I"⟩
abbrev cL_reference : ByteArray := method_9_code
def yL_reference : MethodName := ⟨RL, "reference", "(LEntryTree;IIII[J)I"⟩
abbrev cL_size : ByteArray := method_10_code
def yL_size : MethodName := ⟨RL, "size", "(LEntryTree;I[J)I"⟩
abbrev cL_octet : ByteArray := method_11_code
def yL_octet : MethodName := ⟨RL, "octet", "(LEntryTree;II[J)I"⟩
abbrev cL_load : ByteArray := method_12_code
def yL_load : MethodName := ⟨RL, "load", "(LEntryTree;I[J)I"⟩
abbrev cL_alter : ByteArray := method_13_code
def yL_alter : MethodName := ⟨RL, "alter", "(LEntryTree;III[J)I"⟩
abbrev cL_fault : ByteArray := method_14_code
def yL_fault : MethodName := ⟨RL, "fault", "(LEntryTree;I[J)I"⟩
abbrev cL_count : ByteArray := method_15_code
def yL_count : MethodName := ⟨RL, "count", "(LEntryTree;I[J)I"⟩
abbrev cL_about : ByteArray := method_16_code
def yL_about : MethodName := ⟨RL, "about", "(LEntryTree;II[J)I"⟩
abbrev cL_child : ByteArray := method_17_code
def yL_child : MethodName := ⟨RL, "child", "(LEntryTree;II[J)I"⟩
abbrev cL_root : ByteArray := method_18_code
def yL_root : MethodName := ⟨RL, "root", "(LEntryTree;I[J)I"⟩
abbrev cL_attribute : ByteArray := method_19_code
def yL_attribute : MethodName := ⟨RL, "attribute", "(LEntryTree;III[J)I"⟩
abbrev cL_value : ByteArray := method_20_code
def yL_value : MethodName := ⟨RL, "value", "(LEntryTree;II[J)I"⟩
abbrev cL_letter : ByteArray := method_21_code
def yL_letter : MethodName := ⟨RL, "letter", "(LEntryTree;III[J)I"⟩
abbrev cL_find : ByteArray := method_22_code
def yL_find : MethodName := ⟨RL, "find", "(LEntryTree;I[J)I"⟩
abbrev cL_law : ByteArray := code
def yL_law : MethodName := ⟨RL, "law", "([I)Z"⟩
abbrev vwCl : List vw_C := [(RX0, TX0, 2), (RX1, TX1, 7), (RX3, TX3, 19), (RX4, TX4, 7), (RX5, TX5, 3), (RX6, TX6, 2), (RX7, TX7, 8), (RX8, TX8, 16), (RX10, TX10, 6), (RX11, TX11, 55)]
end
section
/-! a thrown object met by this method's own table: the search through rows that don't take it, up to the one that does (own proofs; rounds have no law of the library for it) -/
section AXA
theorem ax_row {Q : Handler → Pre} {E : CtlPost} {e : Env} {d : Bool} {acts : List Action} {s : State} {f : JFrame} {a : Addr} {x : ExceptionTableEntry} {t : List ExceptionTableEntry} {c : ClassId} {ce : Cell}
    (hx : covers x f.pc = true) (h0 : x.catchType ≠ 0) (hl : s.vm.ClassLinks e.platform f.method.cls x.catchType c) (hcell : s.heap[a]? = some ce) (hv : ce.vm = .none)
    (hk : ∃ k, s.vm.classes[ce.cls]? = some k) (hc : ∃ k, s.vm.classes[c]? = some k) :
    wp (findHandler.go f a (x :: t)) Q E e d acts s ↔
      if s.vm.assignable ce.cls c = true then Q (.found x.handlerPc) d acts (s.setVm (s.vm.noted f.method.cls x.catchType (.cls c)))
      else wp (findHandler.go f a t) Q E e d acts (s.setVm (s.vm.noted f.method.cls x.catchType (.cls c))) := by
  have hx2 := hx
  simp only [covers] at hx2
  obtain ⟨ha, ht⟩ := (resolveClass_links e.toSetting hl).op (op := VmOp.resolveClass f.method.cls x.catchType) rfl
  have hal : s.vm.Alike (s.vm.noted f.method.cls x.catchType (.cls c)) := (Vm.Alike.refl s.vm).noted _ _ _
  obtain ⟨k1, hk1⟩ := hk
  obtain ⟨k2, hk2⟩ := hc
  obtain ⟨q1, hq1, -⟩ := hal.2.2 _ _ hk1
  obtain ⟨q2, hq2, -⟩ := hal.2.2 _ _ hk2
  have hno : ∀ k, ce.vm ≠ .statics k := fun k h => by rw [hv] at h; cases h
  by_cases hf : s.vm.assignable ce.cls c = true
  · have hf2 : (s.vm.noted f.method.cls x.catchType (.cls c)).assignable ce.cls c = true := by rw [hal.assignable]; exact hf
    simp [findHandler.go, hx2, h0, ha, ht, hcell, hno, hq1, hq2, hf, hf2, VmOp.dirties, VmOp.acts]
  · have hf1 : s.vm.assignable ce.cls c = false := by simpa using hf
    have hf2 : (s.vm.noted f.method.cls x.catchType (.cls c)).assignable ce.cls c = false := by rw [hal.assignable]; exact hf1
    simp [findHandler.go, hx2, h0, ha, ht, hcell, hno, hq1, hq2, hf1, hf2, VmOp.dirties, VmOp.acts]
theorem ax_search {e : Env} {s0 : State} {f : JFrame} {a : Addr} {ce : Cell} (hv : ce.vm = .none) (hk : ∃ k, s0.vm.classes[ce.cls]? = some k)
    (x : ExceptionTableEntry) (suf : List ExceptionTableEntry) (hx : covers x f.pc = true) (h0 : x.catchType ≠ 0) {cx : ClassId} (hlx : s0.vm.ClassLinks e.platform f.method.cls x.catchType cx) (hax : s0.vm.assignable ce.cls cx = true) :
    ∀ (pre : List ExceptionTableEntry) (S : State), s0.WarmedH S.vm → S.heap[a]? = some ce →
      (∀ z ∈ pre, covers z f.pc = false ∨ (z.catchType ≠ 0 ∧ ∃ c, s0.vm.ClassLinks e.platform f.method.cls z.catchType c ∧ s0.vm.assignable ce.cls c = false)) →
      ∃ vm', s0.WarmedH vm' ∧ ∀ (Q : Handler → Pre) (E : CtlPost) (d : Bool) (acts : List Action), wp (findHandler.go f a (pre ++ x :: suf)) Q E e d acts S ↔ Q (.found x.handlerPc) d acts (S.setVm vm') := by
  obtain ⟨k0, hk0⟩ := hk
  have link : ∀ {S : State} {z : ExceptionTableEntry} {c : ClassId}, s0.WarmedH S.vm → s0.vm.ClassLinks e.platform f.method.cls z.catchType c →
      s0.WarmedH (S.vm.noted f.method.cls z.catchType (.cls c)) ∧ (∃ k, S.vm.classes[ce.cls]? = some k) ∧ ∃ k, S.vm.classes[c]? = some k := by
    intro S z c hW hl
    obtain ⟨w0, hw0, -⟩ := hW.alike.2.2 _ _ hk0
    obtain ⟨dk, _, _, kt, hd, _, _, _, _, hkt, _, hopen⟩ := hl.here
    obtain ⟨w1, hw1, -⟩ := hW.alike.2.2 _ _ hkt
    exact ⟨hW.noted hd hopen (State.rightAt_cls hl), ⟨w0, hw0⟩, ⟨w1, hw1⟩⟩
  intro pre
  induction pre with
  | nil =>
    intro S hW hcell _
    obtain ⟨l1, l2, l3⟩ := link hW hlx
    refine ⟨_, l1, fun Q E d acts => ?_⟩
    rw [List.nil_append, ax_row hx h0 (hW.classLinks hlx) hcell hv l2 l3, if_pos (by rw [hW.alike.assignable]; exact hax)]
  | cons y ys ih =>
    intro S hW hcell hp
    have hr := fun z hz => hp z (List.mem_cons_of_mem _ hz)
    cases hcov : covers y f.pc with
    | false =>
      obtain ⟨vm', hW', hq⟩ := ih S hW hcell hr
      exact ⟨vm', hW', fun Q E d acts => by rw [List.cons_append, W.findHandler_go_skip hcov]; exact hq Q E d acts⟩
    | true =>
      rcases hp y List.mem_cons_self with h | ⟨hy0, c, hl, hno⟩
      · rw [h] at hcov; cases hcov
      · obtain ⟨l1, l2, l3⟩ := link hW hl
        obtain ⟨vm', hW', hq⟩ := ih (S.setVm (S.vm.noted f.method.cls y.catchType (.cls c))) l1 hcell hr
        refine ⟨vm', hW', fun Q E d acts => ?_⟩
        rw [List.cons_append, ax_row hcov hy0 (hW.classLinks hl) hcell hv l2 l3, if_neg (by rw [hW.alike.assignable, hno]; exact fun h => by cases h)]
        exact hq Q E d acts
variable {p : Program} {l : Launch} {e : Env} {R : Room} {s : State} {m : MethodId} {args : Array Value} {below : List Frame} {meth : Method} {c : Code} {H : Heap} {locs : List Loc} {cells slots : Nat} {Q : State → Prop}
/-- caught by the row x of this method's table; the rows ahead don't take it -/
theorem ax_catch {own name : String} {E : String} {ce : Cell} {q : Addr} {pc : Nat} {ls : Array Slot} {rest : List Value} (hown : s.vm.findClass own = some m.cls) (pre : List ExceptionTableEntry) (x : ExceptionTableEntry) (suf : List ExceptionTableEntry) (hsplit : c.exceptionTable.toList = pre ++ x :: suf)
    (hpass : ∀ z ∈ pre, covers z pc = false ∨ (z.catchType ≠ 0 ∧ ∃ nm : String, (Cond.classLink own z.catchType nm).before args s = true ∧ va_Nc E nm s)) (hx : covers x pc = true) (h0 : x.catchType ≠ 0)
    (hlink : (Cond.classLink own x.catchType name).before args s = true) (hcast : (Cond.castable E name).before args s = true) (hcell : H[q]? = some ce) (hv : ce.vm = .none) (hcl : s.vm.findClass E = some ce.cls)
    (kk : W p l e R s m args below meth c H locs cells slots Q (F0 m x.handlerPc ls [.ref q])) : vx_W p l e R s m args below meth c H locs cells slots Q (F0 m pc ls rest) q := by
  intro T hT X
  have hpl : e.platform.magicAccessors = ({} : Platform).magicAccessors := by rw [X.admits.platform]
  obtain ⟨c3, c4, hc3, hc4, hasg⟩ := Cond.castable_spec hcast
  cases Option.some.inj (hc3.symm.trans hcl)
  obtain ⟨c5, hc5, hcl5⟩ := Cond.classLink_spec hown hlink e.platform hpl
  cases Option.some.inj (hc4.symm.trans hc5)
  obtain ⟨k9, h9, -⟩ := Vm.findClass_spec hcl
  obtain ⟨vm', hW', hq⟩ := ax_search (e := e) (s0 := s) (f := F0 m pc ls rest) (a := q) (ce := ce) hv ⟨k9, h9⟩ x suf hx h0 hcl5 hasg pre ((T.setTop (F0 m pc ls rest)).pushFrame (.throwing q)) X.warmed (by show T.heap[q]? = some ce; rw [hT]; exact hcell)
    (fun z hz => by
      rcases hpass z hz with h | ⟨hz0, nm, hl1, hn1⟩
      · exact Or.inl h
      · obtain ⟨c6, hc6, hcl6⟩ := Cond.classLink_spec hown hl1 e.platform hpl
        obtain ⟨a8, b8, h1, h2, h3⟩ := hn1
        cases Option.some.inj (h1.symm.trans hcl)
        cases Option.some.inj (h2.symm.trans hc6)
        exact Or.inr ⟨hz0, _, hcl6, h3⟩)
  obtain ⟨t, a1, b1⟩ := kk (T.setVm vm') hT (X.noted hW')
  refine ⟨t, ?_, b1⟩
  obtain ⟨hgo, hw⟩ := X.here.throwing (g := F0 m pc ls rest) q
  refine Steps.head hgo hw ?_
  have hfind : ∀ (Q' : Handler → Pre) (E' : CtlPost) (d : Bool) (acts : List Action), wp (findHandler (F0 m pc ls rest) q) Q' E' e d acts ((T.setTop (F0 m pc ls rest)).pushFrame (.throwing q)) ↔ Q' (.found x.handlerPc) d acts (((T.setTop (F0 m pc ls rest)).pushFrame (.throwing q)).setVm vm') := fun Q' E' d acts => by
    rw [W.findHandler_eq (meth := meth) (code := c) X.method' X.code, hsplit]
    exact hq Q' E' d acts
  obtain ⟨g0, hg⟩ := Option.isSome_iff_exists.mp X.here.top
  obtain ⟨r, hr⟩ := State.topJava?_eq_some.mp hg
  have hstep : (stepThrowing e ((T.setTop (F0 m pc ls rest)).pushFrame (.throwing q)) q (.java (F0 m pc ls rest) :: T.frames.tail)).1 = (((T.setTop (F0 m pc ls rest)).pushFrame (.throwing q)).setVm vm').setFrames (.java (F0 m x.handlerPc ls [.ref q]) :: T.frames.tail) := by
    simp only [stepThrowing, searchFrame, vmDo]
    generalize hres : Sem.go _ e false [] _ = res
    obtain ⟨as, rfl, ha⟩ := Sem.eq_ok_of hres (a := Handler.found x.handlerPc) (s' := ((T.setTop (F0 m pc ls rest)).pushFrame (.throwing q)).setVm vm') (acts' := []) (by simp [hfind])
    rfl
  rw [stepThread_throwing (frames_entered X.here.top _), hstep]
  have hr' : (T.setVm vm').frames = .java g0 :: r := hr
  have hcur : (((T.setTop (F0 m pc ls rest)).pushFrame (.throwing q)).setVm vm').setFrames (.java (F0 m x.handlerPc ls [.ref q]) :: T.frames.tail) = (T.setVm vm').setTop (F0 m x.handlerPc ls [.ref q]) := by
    rw [State.setTop_of_frames _ hr', hr, List.tail_cons, State.pushFrame, State.setTop_of_frames _ hr]
    show (((T.setFrames _).setFrames _).setVm vm').setFrames _ = (T.setVm vm').setFrames _
    rw [State.setFrames_setFrames]
    show ((T.setVm vm').setFrames _).setFrames _ = _
    rw [State.setFrames_setFrames]
  rw [hcur]
  exact a1
end AXA
end
section
/-! A PURE MACHINE over the same bytecode: what follows ties it to the machine once, for every method; all later reasoning is about the pure one. -/
section AXS
/-- ids: 0 the script, i + 1 the cell at base + i -/
def ax_ad (b base i : Nat) : Nat := match i with
  | 0 => b
  | j + 1 => base + j
def ax_tr (b base : Nat) (v : Value) : Value := match v with
  | .ref i => .ref (ax_ad b base i)
  | v => v
abbrev ax_C : Type := (Nat × vp_A) ⊕ (Nat × List Value)
abbrev ax_H : Type := Nat → ax_C
/-- how many cells, what they hold by their ids, whether no exception lies among them yet -/
abbrev ax_M : Type := Nat × ax_H × Bool
def ax_up (h : ax_H) (i : Nat) (x : ax_C) : ax_H := fun q => if q = i then x else h q
def ax_E (b base : Nat) (cy : Nat → ClassId) (x : ax_C) : va_E := match x with
  | .inl a => .inl (cy a.1, a.2)
  | .inr o => .inr (o.1, o.2.map (ax_tr b base))
def ax_L (b base : Nat) (cy : Nat → ClassId) (M : ax_M) : va_W := (List.range M.1).map (fun j => (base + j, ax_E b base cy (M.2.1 (j + 1))))
def ax_A (base : Nat) : Nat → Prop := fun q => base ≤ q
def ax_lv (b base : Nat) (lv : List (Nat × Value)) : List (Nat × Value) := lv.map (fun q => (q.1, ax_tr b base q.2))
abbrev ax_tys (cy : Nat → ClassId) : List (ClassId × FieldType) := [(cy 0, .byte), (cy 1, .int), (cy 2, .long), (cy 3, .boolean)]
theorem ax_cat (b base : Nat) (v : Value) : (ax_tr b base v).category = v.category := by cases v <;> rfl
theorem ax_cats (b base : Nat) (st : List Value) : ((st.map (ax_tr b base)).map fun v => v.category) = st.map fun v => v.category := by
  rw [List.map_map]
  exact List.map_congr_left fun v _ => ax_cat b base v
theorem ax_L_get {b base : Nat} {cy : Nat → ClassId} {M : ax_M} {j : Nat} (h : j < M.1) : (ax_L b base cy M)[j]? = some (base + j, ax_E b base cy (M.2.1 (j + 1))) := by
  unfold ax_L
  rw [List.getElem?_map, List.getElem?_range h]
  rfl
theorem ax_L_set {b base : Nat} {cy : Nat → ClassId} {n : Nat} {h : ax_H} {x : Bool} {j : Nat} (y : ax_C) : (ax_L b base cy (n, h, x)).set j (base + j, ax_E b base cy y) = ax_L b base cy (n, ax_up h (j + 1) y, x) := by
  unfold ax_L
  apply List.ext_getElem?
  intro i
  rw [List.getElem?_set]
  simp only [List.length_map, List.length_range, List.getElem?_map]
  by_cases hij : j = i
  · subst hij
    by_cases hj : j < n
    · rw [if_pos rfl, if_pos hj, List.getElem?_range hj]
      simp [ax_up]
    · rw [if_pos rfl, if_neg hj, List.getElem?_eq_none (by simpa using hj)]
      rfl
  · rw [if_neg hij]
    by_cases hi : i < n
    · rw [List.getElem?_range hi]
      have : ¬ i = j := fun h => hij h.symm
      simp [ax_up, this]
    · rw [List.getElem?_eq_none (by simpa using hi)]
      rfl
theorem ax_L_push {b base : Nat} {cy : Nat → ClassId} {n : Nat} {h : ax_H} {x : Bool} (y : ax_C) : ax_L b base cy (n, h, x) ++ [(base + n, ax_E b base cy y)] = ax_L b base cy (n + 1, ax_up h (n + 1) y, x) := by
  unfold ax_L
  show _ = (List.range (n + 1)).map _
  rw [List.range_succ, List.map_append]
  congr 1
  · apply List.map_congr_left
    intro j hj
    have hj : j < n := List.mem_range.mp hj
    have : ¬ j = n := by omega
    simp [ax_up, this]
  · simp [ax_up]
theorem ax_L_D {b base : Nat} {cy : Nat → ClassId} {M : ax_M} : va_D (ax_A base) (ax_L b base cy M) := by
  have key : ∀ (k : Nat) (q : Nat × va_E), (ax_L b base cy M)[k]? = some q → q.1 = base + k := by
    intro k q hq
    unfold ax_L at hq
    rw [List.getElem?_map] at hq
    by_cases hk : k < M.1
    · rw [List.getElem?_range hk] at hq
      cases hq
      rfl
    · rw [List.getElem?_eq_none (by simpa using hk)] at hq
      cases hq
  refine ⟨fun i j p q hp hq h => ?_, fun k q hq => ?_⟩
  · rw [key i p hp, key j q hq] at h
    omega
  · rw [key k q hq]
    exact Nat.le_add_right _ _
theorem ax_look {b base nL : Nat} {ls : Array Slot} {lv : List (Nat × Value)} (h : lv_has ls nL (ax_lv b base lv)) {i : Nat} {v : Value} (hl : lv.lookup i = some v) : ls[i]? = some (.val (ax_tr b base v)) := by
  have hm : (i, v) ∈ lv := by
    clear h
    induction lv with
    | nil => cases hl
    | cons q t ih =>
      obtain ⟨a, w⟩ := q
      simp only [List.lookup] at hl
      by_cases e : i = a
      · subst e
        simp at hl
        subst hl
        exact List.mem_cons_self
      · have : (i == a) = false := by simpa using e
        rw [this] at hl
        exact List.mem_cons_of_mem _ (ih hl)
  exact h.2.2 (i, ax_tr b base v) (List.mem_map.mpr ⟨(i, v), hm, rfl⟩)
def ax_st1 (lv : List (Nat × Value)) (i : Nat) (v : Value) : List (Nat × Value) := (i, v) :: lv.filter (fun q => !(q.1 == i) && !(q.1 + 1 == i && q.2.category == 2))
def ax_st2 (lv : List (Nat × Value)) (i : Nat) (v : Value) : List (Nat × Value) := (i, v) :: lv.filter (fun q => !(q.1 == i) && (!(q.1 == i + 1) && !(q.1 + 1 == i && q.2.category == 2)))
theorem ax_st1_tr (b base : Nat) (lv : List (Nat × Value)) (i : Nat) (v : Value) : (i, ax_tr b base v) :: (ax_lv b base lv).filter (fun q => !(q.1 == i) && !(q.1 + 1 == i && q.2.category == 2)) = ax_lv b base (ax_st1 lv i v) := by
  unfold ax_lv ax_st1
  rw [List.map_cons, List.filter_map]
  congr 2
  apply List.filter_congr
  intro q _
  simp [ax_cat]
theorem ax_st2_tr (b base : Nat) (lv : List (Nat × Value)) (i : Nat) (v : Value) : (i, ax_tr b base v) :: (ax_lv b base lv).filter (fun q => !(q.1 == i) && (!(q.1 == i + 1) && !(q.1 + 1 == i && q.2.category == 2))) = ax_lv b base (ax_st2 lv i v) := by
  unfold ax_lv ax_st2
  rw [List.map_cons, List.filter_map]
  congr 2
  apply List.filter_congr
  intro q _
  simp [ax_cat]
theorem ax_args_tr (b base : Nat) : ∀ (vs : List Value) (i : Nat), lv_args i (vs.map (ax_tr b base)) = ax_lv b base (lv_args i vs)
  | [], _ => rfl
  | v :: vs, i => by
    simp only [List.map_cons, lv_args, ax_lv, ax_cat]
    rw [ax_args_tr b base vs]
    rfl
end AXS
end
section
section AXP
/-- a row of a method's table: the instruction, its length, two numbers that it stands for, a constant -/
abbrev ax_I : Type := Instr × Nat × Nat × Nat × Int
/-- behind a step: pc, locals, stack, cells; cells and slots made -/
abbrev ax_N : Type := Nat × List (Nat × Value) × List Value × ax_M × Nat × Nat
def ax_k (x : ax_I) (pc : Nat) (lv : List (Nat × Value)) (st : List Value) (M : ax_M) (v : Value) : Option ax_N := some (pc + x.2.1, lv, v :: st, M, 0, 0)
def ax_const (x : ax_I) (pc : Nat) (lv : List (Nat × Value)) (st : List Value) (M : ax_M) : Option ax_N := match x.1 with
  | .iconst n => ax_k x pc lv st M (.int (Int32.ofInt n))
  | .bipush n => ax_k x pc lv st M (.int (Int8.ofInt n).toInt32)
  | .sipush n => ax_k x pc lv st M (.int (Int16.ofInt n).toInt32)
  | .lconst n => ax_k x pc lv st M (.long (Int64.ofNat (n : Nat)))
  | .ldc _ => ax_k x pc lv st M (.int (Int32.ofInt x.2.2.2.2))
  | .ldc2_w _ => ax_k x pc lv st M (.long (Int64.ofInt x.2.2.2.2))
  | _ => none
def ax_li (x : ax_I) (pc : Nat) (lv : List (Nat × Value)) (st : List Value) (M : ax_M) (i : Nat) : Option ax_N := match lv.lookup i with
  | some (.int v) => ax_k x pc lv st M (.int v)
  | _ => none
def ax_ll (x : ax_I) (pc : Nat) (lv : List (Nat × Value)) (st : List Value) (M : ax_M) (i : Nat) : Option ax_N := match lv.lookup i with
  | some (.long v) => ax_k x pc lv st M (.long v)
  | _ => none
def ax_la (x : ax_I) (pc : Nat) (lv : List (Nat × Value)) (st : List Value) (M : ax_M) (i : Nat) : Option ax_N := match lv.lookup i with
  | some (.ref v) => ax_k x pc lv st M (.ref v)
  | _ => none
def ax_load (x : ax_I) (pc : Nat) (lv : List (Nat × Value)) (st : List Value) (M : ax_M) : Option ax_N := match x.1 with
  | .iload_n i => ax_li x pc lv st M (i : Nat)
  | .iload i => ax_li x pc lv st M i
  | .lload_n i => ax_ll x pc lv st M (i : Nat)
  | .lload i => ax_ll x pc lv st M i
  | .aload_n i => ax_la x pc lv st M (i : Nat)
  | .aload i => ax_la x pc lv st M i
  | _ => none
def ax_put1 (nL : Nat) (x : ax_I) (pc : Nat) (lv : List (Nat × Value)) (st : List Value) (M : ax_M) (i : Nat) (v : Value) : Option ax_N := if i < nL then some (pc + x.2.1, ax_st1 lv i v, st, M, 0, 0) else none
def ax_put2 (nL : Nat) (x : ax_I) (pc : Nat) (lv : List (Nat × Value)) (st : List Value) (M : ax_M) (i : Nat) (v : Value) : Option ax_N := if i + 1 < nL then some (pc + x.2.1, ax_st2 lv i v, st, M, 0, 0) else none
def ax_store (nL : Nat) (x : ax_I) (pc : Nat) (lv : List (Nat × Value)) (st : List Value) (M : ax_M) : Option ax_N := match x.1, st with
  | .istore_n i, .int v :: r => ax_put1 nL x pc lv r M (i : Nat) (.int v)
  | .istore i, .int v :: r => ax_put1 nL x pc lv r M i (.int v)
  | .lstore_n i, .long v :: r => ax_put2 nL x pc lv r M (i : Nat) (.long v)
  | .lstore i, .long v :: r => ax_put2 nL x pc lv r M i (.long v)
  | .astore_n i, .ref v :: r => ax_put1 nL x pc lv r M (i : Nat) (.ref v)
  | .astore i, .ref v :: r => ax_put1 nL x pc lv r M i (.ref v)
  | _, _ => none
def ax_inc (nL : Nat) (x : ax_I) (pc : Nat) (lv : List (Nat × Value)) (st : List Value) (M : ax_M) : Option ax_N := match x.1 with
  | .iinc i n => match lv.lookup i with
    | some (.int v) => ax_put1 nL x pc lv st M i (.int (v + Int32.ofInt n))
    | _ => none
  | _ => none
def ax_ints (x : ax_I) (pc : Nat) (lv : List (Nat × Value)) (st : List Value) (M : ax_M) : Option ax_N := match st with
  | .int b :: .int a :: r => match x.1 with
    | .iadd => ax_k x pc lv r M (.int (a + b))
    | .isub => ax_k x pc lv r M (.int (a - b))
    | .imul => ax_k x pc lv r M (.int (a * b))
    | .iand => ax_k x pc lv r M (.int (a &&& b))
    | .ior => ax_k x pc lv r M (.int (a ||| b))
    | .ixor => ax_k x pc lv r M (.int (a ^^^ b))
    | .idiv => if b = 0 then none else ax_k x pc lv r M (.int (a / b))
    | .irem => if b = 0 then none else ax_k x pc lv r M (.int (a - a / b * b))
    | .ishr => ax_k x pc lv r M (.int (a >>> (b &&& 31)))
    | .iushr => ax_k x pc lv r M (.int (a.toUInt32 >>> (b.toUInt32 &&& Int32.toUInt32 31)).toInt32)
    | _ => none
  | _ => none
def ax_longs (x : ax_I) (pc : Nat) (lv : List (Nat × Value)) (st : List Value) (M : ax_M) : Option ax_N := match st with
  | .long b :: .long a :: r => match x.1 with
    | .ladd => ax_k x pc lv r M (.long (a + b))
    | .lsub => ax_k x pc lv r M (.long (a - b))
    | .land => ax_k x pc lv r M (.long (a &&& b))
    | .lor => ax_k x pc lv r M (.long (a ||| b))
    | .lxor => ax_k x pc lv r M (.long (a ^^^ b))
    | .ldiv => if b = 0 then none else ax_k x pc lv r M (.long (a / b))
    | .lrem => if b = 0 then none else ax_k x pc lv r M (.long (a - a / b * b))
    | .lcmp => ax_k x pc lv r M (.int (lg_cmp a b))
    | _ => none
  | .int b :: .long a :: r => match x.1 with
    | .lshl => ax_k x pc lv r M (.long (a <<< (b.toInt64 &&& 63)))
    | .lshr => ax_k x pc lv r M (.long (a >>> (b.toInt64 &&& 63)))
    | .lushr => ax_k x pc lv r M (.long (a.toUInt64 >>> (b.toInt64.toUInt64 &&& Int64.toUInt64 63)).toInt64)
    | _ => none
  | _ => none
def ax_conv (x : ax_I) (pc : Nat) (lv : List (Nat × Value)) (st : List Value) (M : ax_M) : Option ax_N := match x.1, st with
  | .i2l, .int a :: r => ax_k x pc lv r M (.long a.toInt64)
  | .l2i, .long a :: r => ax_k x pc lv r M (.int a.toInt32)
  | .i2b, .int a :: r => ax_k x pc lv r M (.int a.toInt8.toInt32)
  | .dup, a :: r => if a.category = 1 then ax_k x pc lv (a :: r) M a else none
  | .pop, a :: r => if a.category = 1 then some (pc + x.2.1, lv, r, M, 0, 0) else none
  | .dup2, a :: b :: r => if a.category = 1 ∧ b.category = 1 then some (pc + x.2.1, lv, a :: b :: a :: b :: r, M, 0, 0) else none
  | _, _ => none
/-- where a branch goes: the target, if it is no place below 0 -/
def ax_to (pc : Nat) (off : Int) (lv : List (Nat × Value)) (st : List Value) (M : ax_M) : Option ax_N := if 0 ≤ (pc : Int) + off then some (((pc : Int) + off).toNat, lv, st, M, 0, 0) else none
def ax_br (pc : Nat) (off : Int) (lv : List (Nat × Value)) (st : List Value) (M : ax_M) (t : Bool) : Option ax_N := if t = true then ax_to pc off lv st M else if 0 ≤ (pc : Int) + off then some (pc + 3, lv, st, M, 0, 0) else none
def ax_jump (x : ax_I) (pc : Nat) (lv : List (Nat × Value)) (st : List Value) (M : ax_M) : Option ax_N := match x.1, st with
  | .goto off, st => ax_to pc off lv st M
  | .ifCond .eq off, .int a :: r => ax_br pc off lv r M (decide (a = 0))
  | .ifCond .ne off, .int a :: r => ax_br pc off lv r M (decide (¬ a = 0))
  | .ifCond .lt off, .int a :: r => ax_br pc off lv r M (decide (a < 0))
  | .ifCond .ge off, .int a :: r => ax_br pc off lv r M (decide (0 ≤ a))
  | .ifCond .gt off, .int a :: r => ax_br pc off lv r M (decide (0 < a))
  | .ifCond .le off, .int a :: r => ax_br pc off lv r M (decide (a ≤ 0))
  | _, _ => none
def ax_jump2 (x : ax_I) (pc : Nat) (lv : List (Nat × Value)) (st : List Value) (M : ax_M) : Option ax_N := match x.1, st with
  | .if_icmp .eq off, .int b :: .int a :: r => ax_br pc off lv r M (decide (a = b))
  | .if_icmp .ne off, .int b :: .int a :: r => ax_br pc off lv r M (decide (¬ a = b))
  | .if_icmp .lt off, .int b :: .int a :: r => ax_br pc off lv r M (decide (a < b))
  | .if_icmp .ge off, .int b :: .int a :: r => ax_br pc off lv r M (decide (b ≤ a))
  | .if_icmp .gt off, .int b :: .int a :: r => ax_br pc off lv r M (decide (b < a))
  | .if_icmp .le off, .int b :: .int a :: r => ax_br pc off lv r M (decide (a ≤ b))
  | _, _ => none
def ax_switch (x : ax_I) (pc : Nat) (lv : List (Nat × Value)) (st : List Value) (M : ax_M) : Option ax_N := match x.1, st with
  | .tableswitch dflt lo hi offs, .int a :: r => if a.toInt < lo ∨ hi < a.toInt then ax_to pc dflt lv r M else match offs[(a.toInt - lo).toNat]? with
    | some off => ax_to pc off lv r M
    | none => none
  | .lookupswitch dflt ps, .int a :: r => if (ps.toList.zip (ps.toList.drop 1)).all (fun (a, next) => a.1 < next.1) = true then ax_to pc (Op.lookupswitch.offset ps.toList dflt a.toInt) lv r M else none
  | _, _ => none
def ax_ty (ci : Nat) : Nat → FieldType := match ci with
  | 0 => tyX0 | 1 => tyX1 | 2 => tyX3 | 3 => tyX4 | 4 => tyX5 | 5 => tyX6 | 6 => tyX7 | 7 => tyX8 | 8 => tyX10 | _ => tyX11
def ax_cn (ci : Nat) : Nat := match ci with
  | 0 => 2 | 1 => 7 | 2 => 19 | 3 => 7 | 4 => 3 | 5 => 2 | 6 => 8 | 7 => 16 | 8 => 6 | 9 => 55 | _ => 0
/-- what a new object of a class holds -/
def ax_new (ci : Nat) : List Value := (List.range (ax_cn ci)).map (fun k => defaultValue (ax_ty ci k))
def ax_fit (ty : FieldType) (v : Value) : Bool := match ty, v with
  | .int, .int _ => true
  | .long, .long _ => true
  | .boolean, .int a => decide (a = 0 ∨ a = 1)
  | .object _, .ref _ => true
  | .array _, .ref _ => true
  | _, _ => false
def ax_getf (x : ax_I) (pc : Nat) (lv : List (Nat × Value)) (st : List Value) (M : ax_M) : Option ax_N := match x.1, st with
  | .getfield _, .ref (i + 1) :: r => match M.2.1 (i + 1) with
    | .inr o => if i < M.1 ∧ o.1 = x.2.2.1 then match o.2[x.2.2.2.1]? with
      | some v => ax_k x pc lv r M v
      | none => none
      else none
    | .inl _ => none
  | _, _ => none
def ax_putf (x : ax_I) (pc : Nat) (lv : List (Nat × Value)) (st : List Value) (M : ax_M) : Option ax_N := match x.1, st with
  | .putfield _, v :: .ref (i + 1) :: r => match M.2.1 (i + 1) with
    | .inr o => if i < M.1 ∧ o.1 = x.2.2.1 ∧ x.2.2.2.1 < o.2.length ∧ ax_fit (ax_ty o.1 x.2.2.2.1) v = true then some (pc + x.2.1, lv, r, (M.1, ax_up M.2.1 (i + 1) (.inr (o.1, o.2.set x.2.2.2.1 v)), M.2.2), 0, 0) else none
    | .inl _ => none
  | _, _ => none
def ax_aload (L : Nat) (xs : Nat → Int32) (x : ax_I) (pc : Nat) (lv : List (Nat × Value)) (st : List Value) (M : ax_M) : Option ax_N := match x.1, st with
  | .iaload, .int j :: .ref 0 :: r => if j < 0 ∨ L ≤ j.toNatClampNeg then none else ax_k x pc lv r M (.int (xs j.toNatClampNeg))
  | .iaload, .int j :: .ref (i + 1) :: r => match M.2.1 (i + 1) with
    | .inl (1, n, .inl f) => if i < M.1 then (if j < 0 ∨ n ≤ j.toNatClampNeg then none else ax_k x pc lv r M (.int (f j.toNatClampNeg))) else none
    | _ => none
  | .baload, .int j :: .ref (i + 1) :: r => match M.2.1 (i + 1) with
    | .inl (0, n, .inl f) => if i < M.1 then (if j < 0 ∨ n ≤ j.toNatClampNeg then none else ax_k x pc lv r M (.int (f j.toNatClampNeg))) else none
    | .inl (3, n, .inl f) => if i < M.1 then (if j < 0 ∨ n ≤ j.toNatClampNeg then none else ax_k x pc lv r M (.int (f j.toNatClampNeg))) else none
    | _ => none
  | .laload, .int j :: .ref (i + 1) :: r => match M.2.1 (i + 1) with
    | .inl (2, n, .inr (.inl f)) => if i < M.1 then (if j < 0 ∨ n ≤ j.toNatClampNeg then none else ax_k x pc lv r M (.long (f j.toNatClampNeg))) else none
    | _ => none
  | .arraylength, .ref 0 :: r => ax_k x pc lv r M (.int (Int32.ofNat L))
  | .arraylength, .ref (i + 1) :: r => match M.2.1 (i + 1) with
    | .inl a => if i < M.1 ∧ a.1 < 4 then ax_k x pc lv r M (.int (Int32.ofNat a.2.1)) else none
    | _ => none
  | _, _ => none
def ax_astore (x : ax_I) (pc : Nat) (lv : List (Nat × Value)) (st : List Value) (M : ax_M) : Option ax_N := match x.1, st with
  | .iastore, .int v :: .int j :: .ref (i + 1) :: r => match M.2.1 (i + 1) with
    | .inl (1, n, .inl f) => if i < M.1 then (if j < 0 ∨ n ≤ j.toNatClampNeg then none else some (pc + x.2.1, lv, r, (M.1, ax_up M.2.1 (i + 1) (.inl (1, n, .inl (upd f j.toNatClampNeg v))), M.2.2), 0, 0)) else none
    | _ => none
  | .bastore, .int v :: .int j :: .ref (i + 1) :: r => match M.2.1 (i + 1) with
    | .inl (0, n, .inl f) => if i < M.1 then (if j < 0 ∨ n ≤ j.toNatClampNeg then none else some (pc + x.2.1, lv, r, (M.1, ax_up M.2.1 (i + 1) (.inl (0, n, .inl (upd f j.toNatClampNeg (vp_nar .byte v)))), M.2.2), 0, 0)) else none
    | .inl (3, n, .inl f) => if i < M.1 then (if j < 0 ∨ n ≤ j.toNatClampNeg then none else some (pc + x.2.1, lv, r, (M.1, ax_up M.2.1 (i + 1) (.inl (3, n, .inl (upd f j.toNatClampNeg (vp_nar .boolean v)))), M.2.2), 0, 0)) else none
    | _ => none
  | .lastore, .long v :: .int j :: .ref (i + 1) :: r => match M.2.1 (i + 1) with
    | .inl (2, n, .inr (.inl f)) => if i < M.1 then (if j < 0 ∨ n ≤ j.toNatClampNeg then none else some (pc + x.2.1, lv, r, (M.1, ax_up M.2.1 (i + 1) (.inl (2, n, .inr (.inl (vp_updL f j.toNatClampNeg v)))), M.2.2), 0, 0)) else none
    | _ => none
  | _, _ => none
/-- a new array's number of its type, and what it holds -/
def ax_arr (t : ArrayType) (n : Nat) : Option (Nat × vp_A) := match t with
  | .byte => some (0, n, .inl (fun _ => 0))
  | .int => some (1, n, .inl (fun _ => 0))
  | .long => some (2, n, .inr (.inl (fun _ => 0)))
  | .boolean => some (3, n, .inl (fun _ => 0))
  | _ => none
def ax_make (x : ax_I) (pc : Nat) (lv : List (Nat × Value)) (st : List Value) (M : ax_M) : Option ax_N := match x.1, st with
  | .new _, st => if M.2.2 = true ∧ x.2.2.1 < 10 then some (pc + x.2.1, lv, .ref (M.1 + 1) :: st, (M.1 + 1, ax_up M.2.1 (M.1 + 1) (.inr (x.2.2.1, ax_new x.2.2.1)), true), 1, ax_cn x.2.2.1) else none
  | .newarray t, .int n :: r => if M.2.2 = true ∧ ¬ n < 0 ∧ n.toNatClampNeg * 8 ≤ 536870912 then match ax_arr t n.toNatClampNeg with
    | some a => some (pc + x.2.1, lv, .ref (M.1 + 1) :: r, (M.1 + 1, ax_up M.2.1 (M.1 + 1) (.inl a), true), 1, n.toNatClampNeg)
    | none => none
    else none
  | _, _ => none
/-- Object's constructor; Math.max of two ints -/
def ax_lib (x : ax_I) (pc : Nat) (lv : List (Nat × Value)) (st : List Value) (M : ax_M) : Option ax_N := match x.1, st with
  | .invokespecial _, .ref _ :: r => if x.2.2.1 = 901 ∧ (r.map fun v => v.category).sum ≤ 20 then some (pc + x.2.1, lv, r, M, 0, 0) else none
  | .invokestatic _, .int b :: .int a :: r => if x.2.2.1 = 900 ∧ (r.map fun v => v.category).sum ≤ 20 then some (pc + x.2.1, lv, .int (if a < b then b else a) :: r, M, 0, 0) else none
  | _, _ => none
/-- one instruction that is no call, no return, no throw -/
def ax_s (L : Nat) (xs : Nat → Int32) (nL : Nat) (x : ax_I) (pc : Nat) (lv : List (Nat × Value)) (st : List Value) (M : ax_M) : Option ax_N :=
  ax_const x pc lv st M <|> ax_load x pc lv st M <|> ax_store nL x pc lv st M <|> ax_inc nL x pc lv st M <|> ax_ints x pc lv st M <|> ax_longs x pc lv st M <|> ax_conv x pc lv st M <|> ax_jump x pc lv st M <|> ax_jump2 x pc lv st M <|> ax_switch x pc lv st M <|>
    ax_getf x pc lv st M <|> ax_putf x pc lv st M <|> ax_aload L xs x pc lv st M <|> ax_astore x pc lv st M <|> ax_make x pc lv st M <|> ax_lib x pc lv st M
end AXP
end
section
section AXC
/-- the tables' words that every state of the walk keeps -/
def ax_big : List Cond := Cond.code x code maxLocals ret :: lw_tbl
def ax_W : List Cond := ax_big.filter goodWord
theorem ax_W_good : ∀ w ∈ ax_W, w ∈ ax_big ∧ goodWord w = true := fun w h => List.mem_filter.mp h
abbrev ax_ISE : String := "java/lang/IllegalStateException"
abbrev ax_IAE : String := "java/lang/IllegalArgumentException"
abbrev ax_IOE : String := "java/lang/IndexOutOfBoundsException"
abbrev ax_UOE : String := "java/lang/UnsupportedOperationException"
abbrev ax_Ex : List String := [ax_ISE, ax_IAE, ax_IOE, ax_UOE]
abbrev ax_De : List MethodName := [Bundle.initS "java/lang/RuntimeException", Bundle.initS "java/lang/Exception", Bundle.initS Bundle.tN]
/-- what holds of a state's tables and of its old cells, whatever the walk has done: the classes, the throwables' statics, the Strings of the throws (Ss), the casts, the one call across the nest (Nw), the script -/
def ax_F (Ss : List (String × Nat × String)) (Nw : Cond) (dC : Nat → ClassId) (dI : Nat → Nat → Nat) (cy : Nat → ClassId) (b base L : Nat) (xs : Nat → Int32) (U : State) : Prop :=
  va_K (dC, dI) vwCl (ax_tys cy) U ∧ vx_Zq Bundle.tN "UNASSIGNED_STACK" Bundle.steD (ax_A base) U U.heap ∧ vx_Zq Bundle.tN "SUPPRESSED_SENTINEL" Bundle.listD (ax_A base) U U.heap ∧
  (∀ k ∈ Ss, ∃ sa, vk_R k.1 k.2.1 k.2.2 sa U) ∧ ((∀ E ∈ ax_Ex, va_Nw (.castable E E) U) ∧ ∀ y ∈ ax_De, va_Nw (.declares y) U) ∧ (∀ E ∈ ax_Ex, ∀ E2 ∈ ax_Ex, E ≠ E2 → va_Nc E E2 U) ∧ va_Nw Nw U ∧ va_X b L xs U U.heap ∧ base ≤ U.heap.size ∧ b < base
theorem ax_F.kept {Ss : List (String × Nat × String)} {a9 h9 : String} {i9 : Nat} {x9 : MethodName} {dC : Nat → ClassId} {dI : Nat → Nat → Nat} {cy : Nat → ClassId} {b base L : Nat} {xs : Nat → Int32} {s U : State} {H : Heap} {locs : List Loc}
    (h : ax_F Ss (.methodLinkNest a9 i9 x9 h9) dC dI cy b base L xs s) (hS : va_S (ax_A base) s.heap H locs) (hU : U.heap = H) (hW : s.WarmedH U.vm) : ax_F Ss (.methodLinkNest a9 i9 x9 h9) dC dI cy b base L xs U := by
  obtain ⟨h1, h2, h3, h4, h5, h6, h7, h8, h9, h10⟩ := h
  refine ⟨va_K.moved hW.alike h1, ?_, ?_, fun k hk => ?_, ⟨fun E hE => va_Nw.warmC hW (h5.1 E hE), fun y hy => va_Nw.warmD hW (h5.2 y hy)⟩, fun E hE E2 hE2 hne => va_Nc.moved hW.alike (h6 E hE E2 hE2 hne), va_Nw.warmM hW h7, ?_, ?_, h10⟩
  · rw [hU]; exact vx_Zq.moved hW.alike (h2.kept hS.2.1)
  · rw [hU]; exact vx_Zq.moved hW.alike (h3.kept hS.2.1)
  · obtain ⟨sa, hsa⟩ := h4 k hk
    exact ⟨sa, vk_R.warm hW hsa⟩
  · rw [hU]; exact va_X.moved hW.alike (h8.kept (hS.2.1 b (by omega) (by show ¬ base ≤ b; omega)))
  · rw [hU]; exact Nat.le_trans h9 hS.1
theorem ax_F.calling {Ss : List (String × Nat × String)} {a9 h9 : String} {i9 : Nat} {x9 : MethodName} {dC : Nat → ClassId} {dI : Nat → Nat → Nat} {cy : Nat → ClassId} {b base L : Nat} {xs : Nat → Int32} {U : State} {g : JFrame} {mk : MethodId} {a : Array Value}
    (h : ax_F Ss (.methodLinkNest a9 i9 x9 h9) dC dI cy b base L xs U) : ax_F Ss (.methodLinkNest a9 i9 x9 h9) dC dI cy b base L xs (U.calling g mk a) :=
  ax_F.kept (U := U.calling g mk a) h (va_S.rf (H0 := U.heap)) rfl (State.WarmedH.refl U)
/-- the machine, the code and the words at a point of a method's walk -/
def ax_X (Ss : List (String × Nat × String)) (Nw : Cond) (dC : Nat → ClassId) (dI : Nat → Nat → Nat) (cy : Nat → ClassId) (b base L : Nat) (xs : Nat → Int32) (p : Program) (s : State) (m : MethodId) (args : Array Value) (c : Code) (own : String) (cc : ByteArray) (nL : Nat) : Prop :=
  p.tables.exec = Jvm.exec ∧ c.code = cc ∧ c.maxLocals = nL ∧ s.vm.findClass own = some m.cls ∧ (∀ w ∈ ax_W, w.before args s = true) ∧ ax_F Ss Nw dC dI cy b base L xs s
/-- the pure state (pc, lv, st, M), wherever the machine holds it, leads to Q -/
def ax_V (dC : Nat → ClassId) (dI : Nat → Nat → Nat) (cy : Nat → ClassId) (b base : Nat) (p : Program) (l : Launch) (e : Env) (R : Room) (s : State) (m : MethodId) (args : Array Value) (below : List Frame) (meth : Method) (c : Code) (nL cells slots : Nat) (Q : State → Prop) (pc : Nat) (lv : List (Nat × Value)) (st : List Value) (M : ax_M) : Prop :=
  ∀ (H : Heap) (locs : List Loc) (ls : Array Slot), va_P (dC, dI) vwCl (ax_L b base cy M) H → va_S (ax_A base) s.heap H locs → (M.2.2 = true → s.heap.size + cells ≤ base + M.1) → lv_has ls nL (ax_lv b base lv) →
    W p l e R s m args below meth c H locs cells slots Q (F0 m pc ls (st.map (ax_tr b base)))
/-- the words that an instruction leans on (calls apart) -/
def ax_need (own : String) (x : ax_I) : List Cond := match x.1 with
  | .ldc i => [.constant own i (Int32.ofInt x.2.2.2.2)]
  | .ldc2_w i => [.constantLong own i (Int64.ofInt x.2.2.2.2)]
  | .getfield i => match vwCl[x.2.2.1]? with
    | some q => [.fieldLink own i (q.2.1 x.2.2.2.1).1 (q.2.1 x.2.2.2.1).2.1 (q.2.1 x.2.2.2.1).2.2.1]
    | none => []
  | .putfield i => match vwCl[x.2.2.1]? with
    | some q => [.fieldLink own i (q.2.1 x.2.2.2.1).1 (q.2.1 x.2.2.2.1).2.1 (q.2.1 x.2.2.2.1).2.2.1]
    | none => []
  | .new i => match vwCl[x.2.2.1]? with
    | some q => [.classLink own i q.1, .instantiable q.1 q.2.2, .initialized q.1]
    | none => []
  | .newarray t => [.arrayClass (newarray.typeOf t)]
  | .invokespecial i => if x.2.2.1 = 901 then [.methodLink own i objectInit, .instanceMethod objectInit, .code objectInit ⟨#[0xb1]⟩ 1 none] else []
  | .invokestatic i => if x.2.2.1 = 900 then [.methodLink own i Lib.Math.max.name, .static Lib.Math.max.name, .initialized "java/lang/Math", .code Lib.Math.max.name Lib.Math.max.code 2 (some .int)] else []
  | _ => []
/-- what a row of a table says beside its words: fields are there; a final one is written in its class's constructor; lengths are right -/
def ax_chk (own : String) (isInit : Bool) (x : ax_I) : Bool := match x.1 with
  | .getfield _ => match vwCl[x.2.2.1]? with
    | some q => decide (x.2.2.2.1 < q.2.2) && decide (x.2.1 = 3)
    | none => false
  | .putfield _ => match vwCl[x.2.2.1]? with
    | some q => decide (x.2.2.2.1 < q.2.2) && (decide (x.2.1 = 3) && (!(q.2.1 x.2.2.2.1).2.2.2 || (isInit && decide ((q.2.1 x.2.2.2.1).1 = own))))
    | none => false
  | .tableswitch .. | .lookupswitch .. => true
  | .iload _ | .lload _ | .aload _ | .istore _ | .lstore _ | .astore _ | .bipush _ | .ldc _ | .newarray _ => decide (x.2.1 = 2)
  | .sipush _ | .ldc2_w _ | .iinc .. | .goto _ | .ifCond .. | .if_icmp .. | .new _ | .invokevirtual _ | .invokestatic _ | .invokespecial _ | .ldc_w _ => decide (x.2.1 = 3)
  | _ => decide (x.2.1 = 1)
def ax_ok (own : String) (cc : ByteArray) (isInit : Bool) (pc : Nat) (x : ax_I) : Prop := decode cc pc = .ok (x.1, x.2.1) ∧ (∀ w ∈ ax_need own x, w ∈ ax_W) ∧ ax_chk own isInit x = true
/-- a class's fields: types, names, words -/
theorem ax_cls : ∀ (ci : Nat) (C : String) (T : u_T) (N : Nat), vwCl[ci]? = some (C, T, N) → N = ax_cn ci ∧ (∀ k, k < N → parseFieldDescriptor (T k).2.2.1 = some (ax_ty ci k)) ∧ (∀ a, a < N → ∀ b, b < N → a ≠ b → (T a).2.1 ≠ (T b).2.1) ∧ ∀ w ∈ u_ws C T N, w ∈ ax_W := by
  intro ci C T N h
  match ci, h with
  | 0, h => cases h; exact ⟨rfl, tyX0_ok, nmX0, by decide +kernel⟩
  | 1, h => cases h; exact ⟨rfl, tyX1_ok, nmX1, by decide +kernel⟩
  | 2, h => cases h; exact ⟨rfl, tyX3_ok, nmX3, by decide +kernel⟩
  | 3, h => cases h; exact ⟨rfl, tyX4_ok, nmX4, by decide +kernel⟩
  | 4, h => cases h; exact ⟨rfl, tyX5_ok, nmX5, by decide +kernel⟩
  | 5, h => cases h; exact ⟨rfl, tyX6_ok, nmX6, by decide +kernel⟩
  | 6, h => cases h; exact ⟨rfl, tyX7_ok, nmX7, by decide +kernel⟩
  | 7, h => cases h; exact ⟨rfl, tyX8_ok, nmX8, by decide +kernel⟩
  | 8, h => cases h; exact ⟨rfl, tyX10_ok, nmX10, by decide +kernel⟩
  | 9, h => cases h; exact ⟨rfl, tyX11_ok, nmX11, by decide +kernel⟩
  | k + 10, h => simp [vwCl] at h
end AXC
end
section
section AXQ
variable {Ss : List (String × Nat × String)} {Nw : Cond} {dC : Nat → ClassId} {dI : Nat → Nat → Nat} {cy : Nat → ClassId} {b base L : Nat} {xs : Nat → Int32}
variable {p : Program} {l : Launch} {e : Env} {R : Room} {s : State} {m : MethodId} {args : Array Value} {below : List Frame} {meth : Method} {c : Code} {own : String} {cc : ByteArray} {nL cells slots : Nat} {Q : State → Prop} {isInit : Bool}
variable {x : ax_I} {pc : Nat} {lv : List (Nat × Value)} {st : List Value} {M : ax_M} {r : ax_N}
theorem ax_const_ok (X : ax_X Ss Nw dC dI cy b base L xs p s m args c own cc nL) (hok : ax_ok own cc isInit pc x) (h : ax_const x pc lv st M = some r)
    (k : ax_V dC dI cy b base p l e R s m args below meth c nL (cells + r.2.2.2.2.1) (slots + r.2.2.2.2.2) Q r.1 r.2.1 r.2.2.1 r.2.2.2.1) : ax_V dC dI cy b base p l e R s m args below meth c nL cells slots Q pc lv st M := by
  obtain ⟨hx, hb, hml, hown, hts, hF⟩ := X
  obtain ⟨hd, hw, hc⟩ := hok
  obtain ⟨i, len, r1, r2, kc⟩ := x
  intro H locs ls hP hS hE hl
  simp only [ax_const, ax_k] at h
  split at h
  · have hlen : len = 1 := by simpa [ax_chk] using hc
    subst hlen; cases h
    exact lv_iconst hx hb hd rfl (k H locs ls hP hS hE hl)
  · have hlen : len = 2 := by simpa [ax_chk] using hc
    subst hlen; cases h
    exact lv_bipush hx hb hd rfl (k H locs ls hP hS hE hl)
  · have hlen : len = 3 := by simpa [ax_chk] using hc
    subst hlen; cases h
    exact lv_sipush hx hb hd rfl (k H locs ls hP hS hE hl)
  · have hlen : len = 1 := by simpa [ax_chk] using hc
    subst hlen; cases h
    exact lv_lconst hx hb hd rfl (k H locs ls hP hS hE hl)
  · have hlen : len = 2 := by simpa [ax_chk] using hc
    subst hlen; cases h
    exact lv_ldc hx hb hown (hts _ (hw _ (by simp [ax_need]))) hd (k H locs ls hP hS hE hl)
  · have hlen : len = 3 := by simpa [ax_chk] using hc
    subst hlen; cases h
    exact lv_ldc2 hx hb hown (hts _ (hw _ (by simp [ax_need]))) hd (k H locs ls hP hS hE hl)
  · cases h
theorem ax_load_ok (X : ax_X Ss Nw dC dI cy b base L xs p s m args c own cc nL) (hok : ax_ok own cc isInit pc x) (h : ax_load x pc lv st M = some r)
    (k : ax_V dC dI cy b base p l e R s m args below meth c nL (cells + r.2.2.2.2.1) (slots + r.2.2.2.2.2) Q r.1 r.2.1 r.2.2.1 r.2.2.2.1) : ax_V dC dI cy b base p l e R s m args below meth c nL cells slots Q pc lv st M := by
  obtain ⟨hx, hb, hml, hown, hts, hF⟩ := X
  obtain ⟨hd, hw, hc⟩ := hok
  obtain ⟨i, len, r1, r2, kc⟩ := x
  intro H locs ls hP hS hE hl
  simp only [ax_load, ax_li, ax_ll, ax_la, ax_k] at h
  split at h
  · have hlen : len = 1 := by simpa [ax_chk] using hc
    subst hlen
    split at h
    · rename_i v hv
      cases h
      exact lv_iload_n hx hb hd rfl (ax_look hl hv) (k H locs ls hP hS hE hl)
    · cases h
  · have hlen : len = 2 := by simpa [ax_chk] using hc
    subst hlen
    split at h
    · rename_i v hv
      cases h
      exact lv_iload hx hb hd (ax_look hl hv) (k H locs ls hP hS hE hl)
    · cases h
  · have hlen : len = 1 := by simpa [ax_chk] using hc
    subst hlen
    split at h
    · rename_i v hv
      cases h
      exact lv_lload_n hx hb hd rfl (ax_look hl hv) (k H locs ls hP hS hE hl)
    · cases h
  · have hlen : len = 2 := by simpa [ax_chk] using hc
    subst hlen
    split at h
    · rename_i v hv
      cases h
      exact lv_lload hx hb hd (ax_look hl hv) (k H locs ls hP hS hE hl)
    · cases h
  · have hlen : len = 1 := by simpa [ax_chk] using hc
    subst hlen
    split at h
    · rename_i v hv
      cases h
      exact lv_aload_n hx hb hd rfl (ax_look hl hv) (k H locs ls hP hS hE hl)
    · cases h
  · have hlen : len = 2 := by simpa [ax_chk] using hc
    subst hlen
    split at h
    · rename_i v hv
      cases h
      exact lv_aload hx hb hd (ax_look hl hv) (k H locs ls hP hS hE hl)
    · cases h
  · cases h
theorem ax_store_ok (X : ax_X Ss Nw dC dI cy b base L xs p s m args c own cc nL) (hok : ax_ok own cc isInit pc x) (h : ax_store nL x pc lv st M = some r)
    (k : ax_V dC dI cy b base p l e R s m args below meth c nL (cells + r.2.2.2.2.1) (slots + r.2.2.2.2.2) Q r.1 r.2.1 r.2.2.1 r.2.2.2.1) : ax_V dC dI cy b base p l e R s m args below meth c nL cells slots Q pc lv st M := by
  obtain ⟨hx, hb, hml, hown, hts, hF⟩ := X
  obtain ⟨hd, hw, hc⟩ := hok
  obtain ⟨i, len, r1, r2, kc⟩ := x
  intro H locs ls hP hS hE hl
  unfold ax_store at h
  split at h
  · rename_i n v rr hi
    simp only at hi
    subst hi
    have hlen : len = 1 := by simpa [ax_chk] using hc
    subst hlen
    unfold ax_put1 at h
    split at h
    · rename_i hn
      cases h
      exact lv_istore_n hx hb hd rfl hl hn (ax_st1_tr b base lv _ (.int v)) (fun ls' hl' => k H locs ls' hP hS hE hl')
    · cases h
  · rename_i n v rr hi
    simp only at hi
    subst hi
    have hlen : len = 2 := by simpa [ax_chk] using hc
    subst hlen
    unfold ax_put1 at h
    split at h
    · rename_i hn
      cases h
      exact lv_istore hx hb hd hl hn (ax_st1_tr b base lv _ (.int v)) (fun ls' hl' => k H locs ls' hP hS hE hl')
    · cases h
  · rename_i n v rr hi
    simp only at hi
    subst hi
    have hlen : len = 1 := by simpa [ax_chk] using hc
    subst hlen
    unfold ax_put2 at h
    split at h
    · rename_i hn
      cases h
      exact lv_lstore_n hx hb hd rfl hl hn (ax_st2_tr b base lv _ (.long v)) (fun ls' hl' => k H locs ls' hP hS hE hl')
    · cases h
  · rename_i n v rr hi
    simp only at hi
    subst hi
    have hlen : len = 2 := by simpa [ax_chk] using hc
    subst hlen
    unfold ax_put2 at h
    split at h
    · rename_i hn
      cases h
      exact lv_lstore hx hb hd hl hn (ax_st2_tr b base lv _ (.long v)) (fun ls' hl' => k H locs ls' hP hS hE hl')
    · cases h
  · rename_i n v rr hi
    simp only at hi
    subst hi
    have hlen : len = 1 := by simpa [ax_chk] using hc
    subst hlen
    unfold ax_put1 at h
    split at h
    · rename_i hn
      cases h
      exact lv_astore_n hx hb hd rfl hl hn (ax_st1_tr b base lv _ (.ref v)) (fun ls' hl' => k H locs ls' hP hS hE hl')
    · cases h
  · rename_i n v rr hi
    simp only at hi
    subst hi
    have hlen : len = 2 := by simpa [ax_chk] using hc
    subst hlen
    unfold ax_put1 at h
    split at h
    · rename_i hn
      cases h
      exact lv_astore hx hb hd hl hn (ax_st1_tr b base lv _ (.ref v)) (fun ls' hl' => k H locs ls' hP hS hE hl')
    · cases h
  · cases h
theorem ax_mem_look {lv : List (Nat × Value)} {i : Nat} {v : Value} (h : lv.lookup i = some v) : ∃ k : Nat, lv[k]? = some (i, v) := by
  induction lv with
  | nil => cases h
  | cons q t ih =>
    obtain ⟨a, w⟩ := q
    simp only [List.lookup] at h
    by_cases e : i = a
    · subst e
      simp at h
      subst h
      exact ⟨0, rfl⟩
    · have : (i == a) = false := by simpa using e
      rw [this] at h
      obtain ⟨k, hk⟩ := ih h
      exact ⟨k + 1, hk⟩
theorem ax_inc_ok (X : ax_X Ss Nw dC dI cy b base L xs p s m args c own cc nL) (hok : ax_ok own cc isInit pc x) (h : ax_inc nL x pc lv st M = some r)
    (k : ax_V dC dI cy b base p l e R s m args below meth c nL (cells + r.2.2.2.2.1) (slots + r.2.2.2.2.2) Q r.1 r.2.1 r.2.2.1 r.2.2.2.1) : ax_V dC dI cy b base p l e R s m args below meth c nL cells slots Q pc lv st M := by
  obtain ⟨hx, hb, hml, hown, hts, hF⟩ := X
  obtain ⟨hd, hw, hc⟩ := hok
  obtain ⟨i, len, r1, r2, kc⟩ := x
  intro H locs ls hP hS hE hl
  unfold ax_inc at h
  split at h
  · rename_i j n hi
    simp only at hi
    subst hi
    have hlen : len = 3 := by simpa [ax_chk] using hc
    subst hlen
    split at h
    · rename_i v hv
      unfold ax_put1 at h
      split at h
      · rename_i hn
        cases h
        obtain ⟨k9, hk9⟩ := ax_mem_look hv
        exact lv_iinc (k := k9) (x := v) hx hb hd hl (by unfold ax_lv; rw [List.getElem?_map, hk9]; rfl) rfl hn (ax_st1_tr b base lv _ (.int (v + Int32.ofInt n))) (fun ls' hl' => k H locs ls' hP hS hE hl')
      · cases h
    · cases h
  · cases h
end AXQ
end
section
section AXQ2
variable {Ss : List (String × Nat × String)} {Nw : Cond} {dC : Nat → ClassId} {dI : Nat → Nat → Nat} {cy : Nat → ClassId} {b base L : Nat} {xs : Nat → Int32}
variable {p : Program} {l : Launch} {e : Env} {R : Room} {s : State} {m : MethodId} {args : Array Value} {below : List Frame} {meth : Method} {c : Code} {own : String} {cc : ByteArray} {nL cells slots : Nat} {Q : State → Prop} {isInit : Bool}
variable {x : ax_I} {pc : Nat} {lv : List (Nat × Value)} {st : List Value} {M : ax_M} {r : ax_N}
theorem ax_ints_ok (X : ax_X Ss Nw dC dI cy b base L xs p s m args c own cc nL) (hok : ax_ok own cc isInit pc x) (h : ax_ints x pc lv st M = some r)
    (k : ax_V dC dI cy b base p l e R s m args below meth c nL (cells + r.2.2.2.2.1) (slots + r.2.2.2.2.2) Q r.1 r.2.1 r.2.2.1 r.2.2.2.1) : ax_V dC dI cy b base p l e R s m args below meth c nL cells slots Q pc lv st M := by
  obtain ⟨hx, hb, hml, hown, hts, hF⟩ := X
  obtain ⟨hd, hw, hc⟩ := hok
  obtain ⟨i, len, r1, r2, kc⟩ := x
  intro H locs ls hP hS hE hl
  unfold ax_ints at h
  split at h
  · simp only [ax_k] at h
    split at h
    · have hlen : len = 1 := by simpa [ax_chk] using hc
      subst hlen; cases h
      exact lv_iadd hx hb hd (k H locs ls hP hS hE hl)
    · have hlen : len = 1 := by simpa [ax_chk] using hc
      subst hlen; cases h
      exact lv_isub hx hb hd (k H locs ls hP hS hE hl)
    · have hlen : len = 1 := by simpa [ax_chk] using hc
      subst hlen; cases h
      exact lv_imul hx hb hd (k H locs ls hP hS hE hl)
    · have hlen : len = 1 := by simpa [ax_chk] using hc
      subst hlen; cases h
      exact lv_iand hx hb hd (k H locs ls hP hS hE hl)
    · have hlen : len = 1 := by simpa [ax_chk] using hc
      subst hlen; cases h
      exact lv_ior hx hb hd (k H locs ls hP hS hE hl)
    · have hlen : len = 1 := by simpa [ax_chk] using hc
      subst hlen; cases h
      exact lv_ixor hx hb hd (k H locs ls hP hS hE hl)
    · have hlen : len = 1 := by simpa [ax_chk] using hc
      subst hlen
      split at h
      · cases h
      · rename_i hne
        cases h
        exact lv_idiv hx hb hd hne (k H locs ls hP hS hE hl)
    · have hlen : len = 1 := by simpa [ax_chk] using hc
      subst hlen
      split at h
      · cases h
      · rename_i hne
        cases h
        exact lv_irem hx hb hd hne (k H locs ls hP hS hE hl)
    · have hlen : len = 1 := by simpa [ax_chk] using hc
      subst hlen; cases h
      exact lv_ishr hx hb hd (k H locs ls hP hS hE hl)
    · have hlen : len = 1 := by simpa [ax_chk] using hc
      subst hlen; cases h
      exact lv_iushr hx hb hd rfl (k H locs ls hP hS hE hl)
    · cases h
  · cases h
theorem ax_longs_ok (X : ax_X Ss Nw dC dI cy b base L xs p s m args c own cc nL) (hok : ax_ok own cc isInit pc x) (h : ax_longs x pc lv st M = some r)
    (k : ax_V dC dI cy b base p l e R s m args below meth c nL (cells + r.2.2.2.2.1) (slots + r.2.2.2.2.2) Q r.1 r.2.1 r.2.2.1 r.2.2.2.1) : ax_V dC dI cy b base p l e R s m args below meth c nL cells slots Q pc lv st M := by
  obtain ⟨hx, hb, hml, hown, hts, hF⟩ := X
  obtain ⟨hd, hw, hc⟩ := hok
  obtain ⟨i, len, r1, r2, kc⟩ := x
  intro H locs ls hP hS hE hl
  unfold ax_longs at h
  split at h
  · simp only [ax_k] at h
    split at h
    · have hlen : len = 1 := by simpa [ax_chk] using hc
      subst hlen; cases h
      exact lv_ladd hx hb hd (k H locs ls hP hS hE hl)
    · have hlen : len = 1 := by simpa [ax_chk] using hc
      subst hlen; cases h
      exact lv_lsub hx hb hd (k H locs ls hP hS hE hl)
    · have hlen : len = 1 := by simpa [ax_chk] using hc
      subst hlen; cases h
      exact lv_land hx hb hd (k H locs ls hP hS hE hl)
    · have hlen : len = 1 := by simpa [ax_chk] using hc
      subst hlen; cases h
      exact lv_lor hx hb hd (k H locs ls hP hS hE hl)
    · have hlen : len = 1 := by simpa [ax_chk] using hc
      subst hlen; cases h
      exact lv_lxor hx hb hd (k H locs ls hP hS hE hl)
    · have hlen : len = 1 := by simpa [ax_chk] using hc
      subst hlen
      split at h
      · cases h
      · rename_i hne
        cases h
        exact lv_ldiv hx hb hd hne (k H locs ls hP hS hE hl)
    · have hlen : len = 1 := by simpa [ax_chk] using hc
      subst hlen
      split at h
      · cases h
      · rename_i hne
        cases h
        exact lv_lrem hx hb hd hne (k H locs ls hP hS hE hl)
    · have hlen : len = 1 := by simpa [ax_chk] using hc
      subst hlen; cases h
      exact W.lcmp hx hb hd (k H locs ls hP hS hE hl)
    · cases h
  · simp only [ax_k] at h
    split at h
    · have hlen : len = 1 := by simpa [ax_chk] using hc
      subst hlen; cases h
      exact lv_lshl hx hb hd rfl (k H locs ls hP hS hE hl)
    · have hlen : len = 1 := by simpa [ax_chk] using hc
      subst hlen; cases h
      exact lv_lshr hx hb hd rfl (k H locs ls hP hS hE hl)
    · have hlen : len = 1 := by simpa [ax_chk] using hc
      subst hlen; cases h
      exact lv_lushr hx hb hd rfl (k H locs ls hP hS hE hl)
    · cases h
  · cases h
theorem ax_conv_ok (X : ax_X Ss Nw dC dI cy b base L xs p s m args c own cc nL) (hok : ax_ok own cc isInit pc x) (h : ax_conv x pc lv st M = some r)
    (k : ax_V dC dI cy b base p l e R s m args below meth c nL (cells + r.2.2.2.2.1) (slots + r.2.2.2.2.2) Q r.1 r.2.1 r.2.2.1 r.2.2.2.1) : ax_V dC dI cy b base p l e R s m args below meth c nL cells slots Q pc lv st M := by
  obtain ⟨hx, hb, hml, hown, hts, hF⟩ := X
  obtain ⟨hd, hw, hc⟩ := hok
  obtain ⟨i, len, r1, r2, kc⟩ := x
  intro H locs ls hP hS hE hl
  unfold ax_conv at h
  simp only [ax_k] at h
  split at h
  · have hlen : len = 1 := by simpa [ax_chk] using hc
    subst hlen; cases h
    exact lv_i2l hx hb hd rfl (k H locs ls hP hS hE hl)
  · have hlen : len = 1 := by simpa [ax_chk] using hc
    subst hlen; cases h
    exact lv_l2i hx hb hd rfl (k H locs ls hP hS hE hl)
  · have hlen : len = 1 := by simpa [ax_chk] using hc
    subst hlen; cases h
    exact lv_i2b hx hb hd rfl (k H locs ls hP hS hE hl)
  · have hlen : len = 1 := by simpa [ax_chk] using hc
    subst hlen
    split at h
    · rename_i ha
      cases h
      exact lv_dup hx hb hd ((ax_cat b base _).trans ha) (k H locs ls hP hS hE hl)
    · cases h
  · have hlen : len = 1 := by simpa [ax_chk] using hc
    subst hlen
    split at h
    · rename_i ha
      cases h
      exact lv_pop hx hb hd ((ax_cat b base _).trans ha) (k H locs ls hP hS hE hl)
    · cases h
  · have hlen : len = 1 := by simpa [ax_chk] using hc
    subst hlen
    split at h
    · rename_i ha
      cases h
      exact lv_dup2_11 hx hb hd ((ax_cat b base _).trans ha.1) ((ax_cat b base _).trans ha.2) (k H locs ls hP hS hE hl)
    · cases h
  · cases h
theorem ax_to_some {pc : Nat} {off : Int} {lv : List (Nat × Value)} {st : List Value} {M : ax_M} {r : ax_N} (h : ax_to pc off lv st M = some r) : (pc : Int) + off = (r.1 : Int) ∧ r = (r.1, lv, st, M, 0, 0) := by
  unfold ax_to at h
  split at h
  · rename_i hp
    cases h
    exact ⟨(Int.toNat_of_nonneg hp).symm, rfl⟩
  · cases h
theorem ax_jump_ok (X : ax_X Ss Nw dC dI cy b base L xs p s m args c own cc nL) (hok : ax_ok own cc isInit pc x) (h : ax_jump x pc lv st M = some r)
    (k : ax_V dC dI cy b base p l e R s m args below meth c nL (cells + r.2.2.2.2.1) (slots + r.2.2.2.2.2) Q r.1 r.2.1 r.2.2.1 r.2.2.2.1) : ax_V dC dI cy b base p l e R s m args below meth c nL cells slots Q pc lv st M := by
  obtain ⟨hx, hb, hml, hown, hts, hF⟩ := X
  obtain ⟨hd, hw, hc⟩ := hok
  obtain ⟨i, len, r1, r2, kc⟩ := x
  intro H locs ls hP hS hE hl
  simp only [ax_jump] at h
  split at h
  · have hlen : len = 3 := by simpa [ax_chk] using hc
    subst hlen
    obtain ⟨h1, h2⟩ := ax_to_some h
    rw [h2] at k
    exact lv_goto hx hb hd h1 (k H locs ls hP hS hE hl)
  · have hlen : len = 3 := by simpa [ax_chk] using hc
    subst hlen
    unfold ax_br at h
    split at h
    · rename_i ht
      obtain ⟨h1, h2⟩ := ax_to_some h
      rw [h2] at k
      exact lv_if_eq hx hb hd h1 (fun _ => k H locs ls hP hS hE hl) (fun hn => absurd (of_decide_eq_true ht) hn)
    · rename_i ht
      split at h
      · rename_i hp
        cases h
        exact lv_if_eq hx hb hd (Int.toNat_of_nonneg hp).symm (fun hn => absurd (decide_eq_true hn) ht) (fun _ => k H locs ls hP hS hE hl)
      · cases h
  · have hlen : len = 3 := by simpa [ax_chk] using hc
    subst hlen
    unfold ax_br at h
    split at h
    · rename_i ht
      obtain ⟨h1, h2⟩ := ax_to_some h
      rw [h2] at k
      exact lv_if_ne hx hb hd h1 (fun _ => k H locs ls hP hS hE hl) (fun hn => absurd hn (of_decide_eq_true ht))
    · rename_i ht
      split at h
      · rename_i hp
        cases h
        exact lv_if_ne hx hb hd (Int.toNat_of_nonneg hp).symm (fun hn => absurd (decide_eq_true hn) ht) (fun _ => k H locs ls hP hS hE hl)
      · cases h
  · have hlen : len = 3 := by simpa [ax_chk] using hc
    subst hlen
    unfold ax_br at h
    split at h
    · rename_i ht
      obtain ⟨h1, h2⟩ := ax_to_some h
      rw [h2] at k
      exact lv_if_lt hx hb hd h1 (fun _ => k H locs ls hP hS hE hl) (fun hn => absurd (of_decide_eq_true ht) hn)
    · rename_i ht
      split at h
      · rename_i hp
        cases h
        exact lv_if_lt hx hb hd (Int.toNat_of_nonneg hp).symm (fun hn => absurd (decide_eq_true hn) ht) (fun _ => k H locs ls hP hS hE hl)
      · cases h
  · have hlen : len = 3 := by simpa [ax_chk] using hc
    subst hlen
    unfold ax_br at h
    split at h
    · rename_i ht
      obtain ⟨h1, h2⟩ := ax_to_some h
      rw [h2] at k
      exact lv_if_ge hx hb hd h1 (fun _ => k H locs ls hP hS hE hl) (fun hn => absurd (of_decide_eq_true ht) hn)
    · rename_i ht
      split at h
      · rename_i hp
        cases h
        exact lv_if_ge hx hb hd (Int.toNat_of_nonneg hp).symm (fun hn => absurd (decide_eq_true hn) ht) (fun _ => k H locs ls hP hS hE hl)
      · cases h
  · have hlen : len = 3 := by simpa [ax_chk] using hc
    subst hlen
    unfold ax_br at h
    split at h
    · rename_i ht
      obtain ⟨h1, h2⟩ := ax_to_some h
      rw [h2] at k
      exact lv_if_gt hx hb hd h1 (fun _ => k H locs ls hP hS hE hl) (fun hn => absurd (of_decide_eq_true ht) hn)
    · rename_i ht
      split at h
      · rename_i hp
        cases h
        exact lv_if_gt hx hb hd (Int.toNat_of_nonneg hp).symm (fun hn => absurd (decide_eq_true hn) ht) (fun _ => k H locs ls hP hS hE hl)
      · cases h
  · have hlen : len = 3 := by simpa [ax_chk] using hc
    subst hlen
    unfold ax_br at h
    split at h
    · rename_i ht
      obtain ⟨h1, h2⟩ := ax_to_some h
      rw [h2] at k
      exact lv_if_le hx hb hd h1 (fun _ => k H locs ls hP hS hE hl) (fun hn => absurd (of_decide_eq_true ht) hn)
    · rename_i ht
      split at h
      · rename_i hp
        cases h
        exact lv_if_le hx hb hd (Int.toNat_of_nonneg hp).symm (fun hn => absurd (decide_eq_true hn) ht) (fun _ => k H locs ls hP hS hE hl)
      · cases h
  · cases h
theorem ax_jump2_ok (X : ax_X Ss Nw dC dI cy b base L xs p s m args c own cc nL) (hok : ax_ok own cc isInit pc x) (h : ax_jump2 x pc lv st M = some r)
    (k : ax_V dC dI cy b base p l e R s m args below meth c nL (cells + r.2.2.2.2.1) (slots + r.2.2.2.2.2) Q r.1 r.2.1 r.2.2.1 r.2.2.2.1) : ax_V dC dI cy b base p l e R s m args below meth c nL cells slots Q pc lv st M := by
  obtain ⟨hx, hb, hml, hown, hts, hF⟩ := X
  obtain ⟨hd, hw, hc⟩ := hok
  obtain ⟨i, len, r1, r2, kc⟩ := x
  intro H locs ls hP hS hE hl
  simp only [ax_jump2] at h
  split at h
  · have hlen : len = 3 := by simpa [ax_chk] using hc
    subst hlen
    unfold ax_br at h
    split at h
    · rename_i ht
      obtain ⟨h1, h2⟩ := ax_to_some h
      rw [h2] at k
      exact lv_icmp_eq hx hb hd h1 (fun _ => k H locs ls hP hS hE hl) (fun hn => absurd (of_decide_eq_true ht) hn)
    · rename_i ht
      split at h
      · rename_i hp
        cases h
        exact lv_icmp_eq hx hb hd (Int.toNat_of_nonneg hp).symm (fun hn => absurd (decide_eq_true hn) ht) (fun _ => k H locs ls hP hS hE hl)
      · cases h
  · have hlen : len = 3 := by simpa [ax_chk] using hc
    subst hlen
    unfold ax_br at h
    split at h
    · rename_i ht
      obtain ⟨h1, h2⟩ := ax_to_some h
      rw [h2] at k
      exact lv_icmp_ne hx hb hd h1 (fun _ => k H locs ls hP hS hE hl) (fun hn => absurd hn (of_decide_eq_true ht))
    · rename_i ht
      split at h
      · rename_i hp
        cases h
        exact lv_icmp_ne hx hb hd (Int.toNat_of_nonneg hp).symm (fun hn => absurd (decide_eq_true hn) ht) (fun _ => k H locs ls hP hS hE hl)
      · cases h
  · have hlen : len = 3 := by simpa [ax_chk] using hc
    subst hlen
    unfold ax_br at h
    split at h
    · rename_i ht
      obtain ⟨h1, h2⟩ := ax_to_some h
      rw [h2] at k
      exact lv_icmp_lt hx hb hd h1 (fun _ => k H locs ls hP hS hE hl) (fun hn => absurd (of_decide_eq_true ht) hn)
    · rename_i ht
      split at h
      · rename_i hp
        cases h
        exact lv_icmp_lt hx hb hd (Int.toNat_of_nonneg hp).symm (fun hn => absurd (decide_eq_true hn) ht) (fun _ => k H locs ls hP hS hE hl)
      · cases h
  · have hlen : len = 3 := by simpa [ax_chk] using hc
    subst hlen
    unfold ax_br at h
    split at h
    · rename_i ht
      obtain ⟨h1, h2⟩ := ax_to_some h
      rw [h2] at k
      exact lv_icmp_ge hx hb hd h1 (fun _ => k H locs ls hP hS hE hl) (fun hn => absurd (of_decide_eq_true ht) hn)
    · rename_i ht
      split at h
      · rename_i hp
        cases h
        exact lv_icmp_ge hx hb hd (Int.toNat_of_nonneg hp).symm (fun hn => absurd (decide_eq_true hn) ht) (fun _ => k H locs ls hP hS hE hl)
      · cases h
  · have hlen : len = 3 := by simpa [ax_chk] using hc
    subst hlen
    unfold ax_br at h
    split at h
    · rename_i ht
      obtain ⟨h1, h2⟩ := ax_to_some h
      rw [h2] at k
      exact lv_icmp_gt hx hb hd h1 (fun _ => k H locs ls hP hS hE hl) (fun hn => absurd (of_decide_eq_true ht) hn)
    · rename_i ht
      split at h
      · rename_i hp
        cases h
        exact lv_icmp_gt hx hb hd (Int.toNat_of_nonneg hp).symm (fun hn => absurd (decide_eq_true hn) ht) (fun _ => k H locs ls hP hS hE hl)
      · cases h
  · have hlen : len = 3 := by simpa [ax_chk] using hc
    subst hlen
    unfold ax_br at h
    split at h
    · rename_i ht
      obtain ⟨h1, h2⟩ := ax_to_some h
      rw [h2] at k
      exact lv_icmp_le hx hb hd h1 (fun _ => k H locs ls hP hS hE hl) (fun hn => absurd (of_decide_eq_true ht) hn)
    · rename_i ht
      split at h
      · rename_i hp
        cases h
        exact lv_icmp_le hx hb hd (Int.toNat_of_nonneg hp).symm (fun hn => absurd (decide_eq_true hn) ht) (fun _ => k H locs ls hP hS hE hl)
      · cases h
  · cases h
theorem ax_switch_ok (X : ax_X Ss Nw dC dI cy b base L xs p s m args c own cc nL) (hok : ax_ok own cc isInit pc x) (h : ax_switch x pc lv st M = some r)
    (k : ax_V dC dI cy b base p l e R s m args below meth c nL (cells + r.2.2.2.2.1) (slots + r.2.2.2.2.2) Q r.1 r.2.1 r.2.2.1 r.2.2.2.1) : ax_V dC dI cy b base p l e R s m args below meth c nL cells slots Q pc lv st M := by
  obtain ⟨hx, hb, hml, hown, hts, hF⟩ := X
  obtain ⟨hd, hw, hc⟩ := hok
  obtain ⟨i, len, r1, r2, kc⟩ := x
  intro H locs ls hP hS hE hl
  simp only [ax_switch] at h
  split at h
  · split at h
    · rename_i ho
      obtain ⟨h1, h2⟩ := ax_to_some h
      rw [h2] at k
      exact lv_tableOut hx hb hd ho h1 (k H locs ls hP hS hE hl)
    · rename_i ho
      split at h
      · rename_i off hoff
        obtain ⟨h1, h2⟩ := ax_to_some h
        rw [h2] at k
        exact lv_tableIn hx hb hd (fun q => ho (Or.inl q)) (fun q => ho (Or.inr q)) hoff h1 (k H locs ls hP hS hE hl)
      · cases h
  · split at h
    · rename_i hz
      obtain ⟨h1, h2⟩ := ax_to_some h
      rw [h2] at k
      exact lv_lookup hx hb hd hz rfl h1 (k H locs ls hP hS hE hl)
    · cases h
  · cases h
end AXQ2
end
section
section AXQ3
variable {Ss : List (String × Nat × String)} {Nw : Cond} {dC : Nat → ClassId} {dI : Nat → Nat → Nat} {cy : Nat → ClassId} {b base L : Nat} {xs : Nat → Int32}
variable {p : Program} {l : Launch} {e : Env} {R : Room} {s : State} {m : MethodId} {args : Array Value} {below : List Frame} {meth : Method} {c : Code} {own : String} {cc : ByteArray} {nL cells slots : Nat} {Q : State → Prop} {isInit : Bool}
variable {x : ax_I} {pc : Nat} {lv : List (Nat × Value)} {st : List Value} {M : ax_M} {r : ax_N}
theorem ax_getf_ok (X : ax_X Ss Nw dC dI cy b base L xs p s m args c own cc nL) (hok : ax_ok own cc isInit pc x) (h : ax_getf x pc lv st M = some r)
    (k : ax_V dC dI cy b base p l e R s m args below meth c nL (cells + r.2.2.2.2.1) (slots + r.2.2.2.2.2) Q r.1 r.2.1 r.2.2.1 r.2.2.2.1) : ax_V dC dI cy b base p l e R s m args below meth c nL cells slots Q pc lv st M := by
  obtain ⟨hx, hb, hml, hown, hts, hF⟩ := X
  obtain ⟨hd, hw, hc⟩ := hok
  obtain ⟨i, len, r1, r2, kc⟩ := x
  intro H locs ls hP hS hE hl
  simp only [ax_getf, ax_k] at h
  split at h
  · rename_i idx j rr
    split at h
    · rename_i o ho
      split at h
      · rename_i hj
        split at h
        · rename_i v hv
          cases h
          cases hcl : vwCl[r1]? with
          | none => simp [ax_chk, hcl] at hc
          | some q =>
            obtain ⟨C, T, N⟩ := q
            simp only [ax_chk, hcl, Bool.and_eq_true, decide_eq_true_eq] at hc
            obtain ⟨hk, hlen⟩ := hc
            obtain ⟨-, -, -, hu⟩ := ax_cls r1 C T N hcl
            subst hlen
            refine va_get (D := (dC, dI)) (ci := r1) (v := ax_tr b base v) (C := C) (T := T) (N := N) hx hb hts hu hown hF.1 hP j (fs := o.2.map (ax_tr b base)) ?_ hcl r2 hk (hts _ (hw _ (by simp [ax_need, hcl]))) (fun _ h9 => h9) ?_ hd (k H locs ls hP hS hE hl)
            · rw [ax_L_get hj.1, ho]
              show some (base + j, (Sum.inr (o.1, o.2.map (ax_tr b base)) : va_E)) = _
              rw [hj.2]
              rfl
            · rw [List.getElem?_map, hv]; rfl
        · cases h
      · cases h
    · cases h
  · cases h
theorem ax_fit_ok {b base : Nat} {ty : FieldType} {v : Value} (h : ax_fit ty v = true) : narrow ty (ax_tr b base v) = ax_tr b base v ∧ fits ty (ax_tr b base v) = true := by
  unfold ax_fit at h
  split at h
  · exact ⟨rfl, rfl⟩
  · exact ⟨rfl, rfl⟩
  · rcases of_decide_eq_true h with rfl | rfl
    · exact ⟨by show narrow FieldType.boolean (.int 0) = .int 0; decide, by show fits FieldType.boolean (.int 0) = true; decide⟩
    · exact ⟨by show narrow FieldType.boolean (.int 1) = .int 1; decide, by show fits FieldType.boolean (.int 1) = true; decide⟩
  · exact ⟨rfl, rfl⟩
  · exact ⟨rfl, rfl⟩
  · cases h
theorem ax_putf_ok (X : ax_X Ss Nw dC dI cy b base L xs p s m args c own cc nL) (hok : ax_ok own cc isInit pc x) (hI : isInit = true → meth.name = "<init>") (h : ax_putf x pc lv st M = some r)
    (k : ax_V dC dI cy b base p l e R s m args below meth c nL (cells + r.2.2.2.2.1) (slots + r.2.2.2.2.2) Q r.1 r.2.1 r.2.2.1 r.2.2.2.1) : ax_V dC dI cy b base p l e R s m args below meth c nL cells slots Q pc lv st M := by
  obtain ⟨hx, hb, hml, hown, hts, hF⟩ := X
  obtain ⟨hd, hw, hc⟩ := hok
  obtain ⟨i, len, r1, r2, kc⟩ := x
  intro H locs ls hP hS hE hl
  simp only [ax_putf] at h
  split at h
  · rename_i idx v j rr
    split at h
    · rename_i o ho
      split at h
      · rename_i hj
        obtain ⟨hj1, hj2, hj3, hj4⟩ := hj
        cases h
        cases hcl : vwCl[r1]? with
        | none => simp [ax_chk, hcl] at hc
        | some q =>
          obtain ⟨C, T, N⟩ := q
          simp only [ax_chk, hcl, Bool.and_eq_true, decide_eq_true_eq] at hc
          obtain ⟨hk, hlen, hfin⟩ := hc
          obtain ⟨-, hty, hnm, hu⟩ := ax_cls r1 C T N hcl
          subst hlen
          rw [hj2] at hj4
          obtain ⟨f1, f2⟩ := ax_fit_ok (b := b) (base := base) hj4
          have he : (ax_L b base cy M)[j]? = some (base + j, .inr (r1, o.2.map (ax_tr b base))) := by
            rw [ax_L_get hj1, ho]
            show some (base + j, (Sum.inr (o.1, o.2.map (ax_tr b base)) : va_E)) = _
            rw [hj2]
          have hset : (ax_L b base cy M).set j (base + j, .inr (r1, (o.2.map (ax_tr b base)).set r2 (ax_tr b base v))) = ax_L b base cy (M.1, ax_up M.2.1 (j + 1) (.inr (o.1, o.2.set r2 v)), M.2.2) := by
            rw [← List.map_set, ← ax_L_set (n := M.1) (h := M.2.1) (x := M.2.2) (Sum.inr (o.1, o.2.set r2 v))]
            show _ = (ax_L b base cy M).set j (base + j, .inr (o.1, (o.2.set r2 v).map (ax_tr b base)))
            rw [hj2]
          have kk : ∀ (H1 : Heap) (locs1 : List Loc), va_P (dC, dI) vwCl ((ax_L b base cy M).set j (base + j, .inr (r1, (o.2.map (ax_tr b base)).set r2 (ax_tr b base v)))) H1 → va_D (ax_A base) ((ax_L b base cy M).set j (base + j, .inr (r1, (o.2.map (ax_tr b base)).set r2 (ax_tr b base v)))) → va_S (ax_A base) s.heap H1 locs1 →
              W p l e R s m args below meth c H1 locs1 cells slots Q (F0 m (pc + 3) ls (rr.map (ax_tr b base))) := fun H1 locs1 hP1 _ hS1 => k H1 locs1 ls (by rw [← hset]; exact hP1) hS1 hE hl
          cases hff : (T r2).2.2.2 with
          | false =>
            exact va_put (D := (dC, dI)) hx hb hts hu (ax_ty r1) hty hnm hown hF.1 hP ax_L_D hS j he hcl r2 hk (hts _ (hw _ (by simp [ax_need, hcl]))) (fun _ h9 => h9) hff (hty r2 hk) f1 f2 (by rw [List.length_map]; exact hj3) hd kk
          | true =>
            rw [hff] at hfin
            simp only [Bool.not_true, Bool.false_or, Bool.and_eq_true, decide_eq_true_eq] at hfin
            exact va_putF (D := (dC, dI)) hx hb hts hu (ax_ty r1) hty hnm hown hF.1 hP ax_L_D hS j he hcl r2 hk (hts _ (hw _ (by simp [ax_need, hcl]))) (fun _ h9 => h9) hff (hI hfin.1) hfin.2 (hty r2 hk) f1 f2 (by rw [List.length_map]; exact hj3) hd kk
      · cases h
    · cases h
  · cases h
theorem ax_aload_ok (X : ax_X Ss Nw dC dI cy b base L xs p s m args c own cc nL) (hok : ax_ok own cc isInit pc x) (h : ax_aload L xs x pc lv st M = some r)
    (k : ax_V dC dI cy b base p l e R s m args below meth c nL (cells + r.2.2.2.2.1) (slots + r.2.2.2.2.2) Q r.1 r.2.1 r.2.2.1 r.2.2.2.1) : ax_V dC dI cy b base p l e R s m args below meth c nL cells slots Q pc lv st M := by
  obtain ⟨hx, hb, hml, hown, hts, hF⟩ := X
  obtain ⟨hd, hw, hc⟩ := hok
  obtain ⟨i, len, r1, r2, kc⟩ := x
  intro H locs ls hP hS hE hl
  have hbase := hF.2.2.2.2.2.2.2.2
  simp only [ax_aload, ax_k] at h
  split at h
  · have hlen : len = 1 := by simpa [ax_chk] using hc
    subst hlen
    split at h
    · cases h
    · rename_i hin
      cases h
      exact va_sld hx hb hF.2.2.2.2.2.2.2.1 (by omega) (by show ¬ base ≤ b; omega) hS hin hd (k H locs ls hP hS hE hl)
  · have hlen : len = 1 := by simpa [ax_chk] using hc
    subst hlen
    split at h
    · rename_i ho
      split at h
      · rename_i hj
        split at h
        · cases h
        · rename_i hin
          cases h
          exact va_iald (D := (dC, dI)) hx hb hF.1 hP _ 1 (by rw [ax_L_get hj, ho]; rfl) rfl hin hd (k H locs ls hP hS hE hl)
      · cases h
    · cases h
  · have hlen : len = 1 := by simpa [ax_chk] using hc
    subst hlen
    split at h
    · rename_i ho
      split at h
      · rename_i hj
        split at h
        · cases h
        · rename_i hin
          cases h
          exact va_bald (D := (dC, dI)) hx hb hF.1 hP _ 0 (by rw [ax_L_get hj, ho]; rfl) rfl hin hd (k H locs ls hP hS hE hl)
      · cases h
    · rename_i ho
      split at h
      · rename_i hj
        split at h
        · cases h
        · rename_i hin
          cases h
          exact va_zald (D := (dC, dI)) hx hb hF.1 hP _ 3 (by rw [ax_L_get hj, ho]; rfl) rfl hin hd (k H locs ls hP hS hE hl)
      · cases h
    · cases h
  · have hlen : len = 1 := by simpa [ax_chk] using hc
    subst hlen
    split at h
    · rename_i ho
      split at h
      · rename_i hj
        split at h
        · cases h
        · rename_i hin
          cases h
          exact va_lald (D := (dC, dI)) hx hb hF.1 hP _ 2 (by rw [ax_L_get hj, ho]; rfl) rfl hin hd (k H locs ls hP hS hE hl)
      · cases h
    · cases h
  · have hlen : len = 1 := by simpa [ax_chk] using hc
    subst hlen
    cases h
    exact va_slen (b := b) hx hb hF.2.2.2.2.2.2.2.1 (by omega) (by show ¬ base ≤ b; omega) hS hd (k H locs ls hP hS hE hl)
  · have hlen : len = 1 := by simpa [ax_chk] using hc
    subst hlen
    split at h
    · rename_i a ho
      split at h
      · rename_i hj
        cases h
        obtain ⟨tn, av⟩ := a
        have h4 : ∃ ty, (ax_tys cy)[tn]? = some (cy tn, ty) := by
          have h9 : tn < 4 := hj.2
          match tn, h9 with
          | 0, _ => exact ⟨_, rfl⟩
          | 1, _ => exact ⟨_, rfl⟩
          | 2, _ => exact ⟨_, rfl⟩
          | 3, _ => exact ⟨_, rfl⟩
        obtain ⟨ty, hty⟩ := h4
        exact va_alen (D := (dC, dI)) hx hb hF.1 hP _ tn (cA := cy tn) (x := av) (by rw [ax_L_get hj.1, ho]; rfl) hty rfl hd (k H locs ls hP hS hE hl)
      · cases h
    · cases h
  · cases h
theorem ax_astore_ok (X : ax_X Ss Nw dC dI cy b base L xs p s m args c own cc nL) (hok : ax_ok own cc isInit pc x) (h : ax_astore x pc lv st M = some r)
    (k : ax_V dC dI cy b base p l e R s m args below meth c nL (cells + r.2.2.2.2.1) (slots + r.2.2.2.2.2) Q r.1 r.2.1 r.2.2.1 r.2.2.2.1) : ax_V dC dI cy b base p l e R s m args below meth c nL cells slots Q pc lv st M := by
  obtain ⟨hx, hb, hml, hown, hts, hF⟩ := X
  obtain ⟨hd, hw, hc⟩ := hok
  obtain ⟨i, len, r1, r2, kc⟩ := x
  intro H locs ls hP hS hE hl
  simp only [ax_astore] at h
  split at h
  · have hlen : len = 1 := by simpa [ax_chk] using hc
    subst hlen
    split at h
    · rename_i n f ho
      split at h
      · rename_i hj
        split at h
        · cases h
        · rename_i hin
          cases h
          refine va_iast (D := (dC, dI)) hx hb hF.1 hP ax_L_D hS _ 1 (by rw [ax_L_get hj, ho]; rfl) rfl hin hd (fun H1 locs1 hP1 _ hS1 => k H1 locs1 ls ?_ hS1 hE hl)
          rw [← ax_L_set (n := M.1) (h := M.2.1) (x := M.2.2)]
          exact hP1
      · cases h
    · cases h
  · have hlen : len = 1 := by simpa [ax_chk] using hc
    subst hlen
    split at h
    · rename_i n f ho
      split at h
      · rename_i hj
        split at h
        · cases h
        · rename_i hin
          cases h
          refine va_bast (D := (dC, dI)) hx hb hF.1 hP ax_L_D hS _ 0 (by rw [ax_L_get hj, ho]; rfl) rfl hin hd (fun H1 locs1 hP1 _ hS1 => k H1 locs1 ls ?_ hS1 hE hl)
          rw [← ax_L_set (n := M.1) (h := M.2.1) (x := M.2.2)]
          exact hP1
      · cases h
    · rename_i n f ho
      split at h
      · rename_i hj
        split at h
        · cases h
        · rename_i hin
          cases h
          refine va_zast (D := (dC, dI)) hx hb hF.1 hP ax_L_D hS _ 3 (by rw [ax_L_get hj, ho]; rfl) rfl hin hd (fun H1 locs1 hP1 _ hS1 => k H1 locs1 ls ?_ hS1 hE hl)
          rw [← ax_L_set (n := M.1) (h := M.2.1) (x := M.2.2)]
          exact hP1
      · cases h
    · cases h
  · have hlen : len = 1 := by simpa [ax_chk] using hc
    subst hlen
    split at h
    · rename_i n f ho
      split at h
      · rename_i hj
        split at h
        · cases h
        · rename_i hin
          cases h
          refine va_last (D := (dC, dI)) hx hb hF.1 hP ax_L_D hS _ 2 (by rw [ax_L_get hj, ho]; rfl) rfl hin hd (fun H1 locs1 hP1 _ hS1 => k H1 locs1 ls ?_ hS1 hE hl)
          rw [← ax_L_set (n := M.1) (h := M.2.1) (x := M.2.2)]
          exact hP1
      · cases h
    · cases h
  · cases h
theorem ax_new_V (ci j : Nat) (h : j < ax_cn ci) : defaultValue (ax_ty ci j) = vp_V (ax_new ci) j := by
  unfold vp_V ax_new
  rw [List.getD_eq_getElem?_getD, List.getElem?_map, List.getElem?_range h]
  rfl
theorem ax_new_tr (b base ci : Nat) : (ax_new ci).map (ax_tr b base) = ax_new ci := by
  unfold ax_new
  rw [List.map_map]
  apply List.map_congr_left
  intro k _
  show ax_tr b base (defaultValue (ax_ty ci k)) = _
  cases ax_ty ci k <;> rfl
theorem ax_H_le {dC : Nat → ClassId} {dI : Nat → Nat → Nat} {cy : Nat → ClassId} {b base : Nat} {M : ax_M} {H : Heap} (hb : base ≤ H.size) (hP : va_P (dC, dI) vwCl (ax_L b base cy M) H) : base + M.1 ≤ H.size := by
  by_cases h : M.1 = 0
  · omega
  · have := (hP (M.1 - 1) _ (ax_L_get (by omega))).lt
    simp only at this
    omega
theorem ax_make_ok (X : ax_X Ss Nw dC dI cy b base L xs p s m args c own cc nL) (hok : ax_ok own cc isInit pc x) (hRc : cells + r.2.2.2.2.1 ≤ R.cells) (hRs : slots + r.2.2.2.2.2 ≤ R.slots) (h : ax_make x pc lv st M = some r)
    (k : ax_V dC dI cy b base p l e R s m args below meth c nL (cells + r.2.2.2.2.1) (slots + r.2.2.2.2.2) Q r.1 r.2.1 r.2.2.1 r.2.2.2.1) : ax_V dC dI cy b base p l e R s m args below meth c nL cells slots Q pc lv st M := by
  obtain ⟨hx, hb, hml, hown, hts, hF⟩ := X
  obtain ⟨hd, hw, hc⟩ := hok
  obtain ⟨i, len, r1, r2, kc⟩ := x
  intro H locs ls hP hS hE hl
  have hbs : base ≤ s.heap.size := hF.2.2.2.2.2.2.2.2.1
  have hA : ∀ q : Nat, s.heap.size ≤ q → ax_A base q := fun q h9 => Nat.le_trans hbs h9
  obtain ⟨n, hh, fl⟩ := M
  simp only [ax_make] at h
  intro T hT X9
  have hsz : fl = true → H.size = base + n := fun h9 => by
    have h1 := ax_H_le (M := (n, hh, fl)) (Nat.le_trans hbs hS.1) hP
    have h2 := X9.heapSize
    have h3 := hE h9
    rw [hT] at h2
    simp only at h1 h3
    omega
  split at h
  · have hlen : len = 3 := by simpa [ax_chk] using hc
    subst hlen
    split at h
    · rename_i hj
      obtain ⟨hfl, hci⟩ := hj
      subst hfl
      have hsz := hsz rfl
      cases h
      cases hcl : vwCl[r1]? with
      | none => exact absurd hcl (by simp [vwCl]; omega)
      | some q =>
        obtain ⟨C, TT, N⟩ := q
        obtain ⟨hN, hty, hnm, hu⟩ := ax_cls r1 C TT N hcl
        subst hN
        have hKn := hF.1.1 r1 _ hcl
        refine (W.newcK (l := l) (e := e) (below := below) (meth := meth) (locs := locs) (cells := cells) (slots := slots) (Q := Q) (h := base + n) hx hb hown (hts _ (hw _ (by simp [ax_need, hcl]))) (hts _ (hw _ (by simp [ax_need, hcl]))) (hts _ (hw _ (by simp [ax_need, hcl]))) (g := F0 m pc ls (st.map (ax_tr b base))) rfl hd hRc hRs hKn.2.1 hsz fun H1 kC hkC e1 z1 o1 => ?_) T hT X9
        have o2 : ∀ q : Nat, q < H.size → H1[q]? = H[q]? := fun q hq => o1 q (by omega)
        refine k H1 locs ls ?_ ⟨Nat.le_trans hS.1 (by omega), fun q h1 h2 => (o2 q (Nat.lt_of_lt_of_le h1 hS.1)).trans (hS.2.1 q h1 h2), hS.2.2⟩ (fun _ => by have := hE rfl; show s.heap.size + (cells + 1) ≤ base + (n + 1); simp only at this; omega) hl
        rw [← ax_L_push]
        refine (hP.kept (fun k9 q9 hq9 => o2 q9.1 ((hP k9 q9 hq9).lt))).app (fun k9 q9 hq9 => ?_)
        have hz : k9 < 1 := (List.getElem?_eq_some_iff.mp hq9).1
        rw [show k9 = 0 by omega] at hq9
        cases hq9
        refine ⟨_, hcl, ?_⟩
        show t_OB _ _ _ _ _ (vp_V ((ax_new r1).map (ax_tr b base)))
        rw [ax_new_tr]
        exact (u_born (ax_ty r1) hts hu hKn hkC e1 hty).to (ax_new_V r1)
    · cases h
  · have hlen : len = 2 := by simpa [ax_chk] using hc
    subst hlen
    split at h
    · rename_i at9 k9 rr hj
      obtain ⟨hfl, hneg, hby⟩ := hj
      subst hfl
      have hsz := hsz rfl
      split at h
      · rename_i a ha
        cases h
        have key : ∃ ty, newarray.typeOf at9 = ty ∧ (ax_tys cy)[a.1]? = some (cy a.1, ty) ∧ va_RA s (cy a.1) ty = (s.vm.findClass ("[" ++ ty.toString) = some (cy a.1)) ∧ componentBytes ty ≤ 8 ∧ ∀ cA : ClassId, vp_cell cA a.2 = arrV cA k9.toNatClampNeg (fun _ => defaultValue ty) := by
          unfold ax_arr at ha
          split at ha
          · cases ha; exact ⟨_, rfl, rfl, rfl, by decide, fun _ => rfl⟩
          · cases ha; exact ⟨_, rfl, rfl, rfl, by decide, fun _ => rfl⟩
          · cases ha; exact ⟨_, rfl, rfl, rfl, by decide, fun _ => rfl⟩
          · cases ha; exact ⟨_, rfl, rfl, rfl, by decide, fun _ => rfl⟩
          · cases ha
        obtain ⟨ty, hty, htys, hra, hcb, hcell⟩ := key
        have hname : s.vm.findClass ("[" ++ ty.toString) = some (cy a.1) := by rw [← hra]; exact (hF.1.2 a.1 _ htys).2
        refine (va_newaK (l := l) (e := e) (below := below) (meth := meth) (locs := locs) (cells := cells) (slots := slots) (Q := Q) (N := k9.toNatClampNeg) (h := base + n) hx hb (hts _ (hw _ (by simp [ax_need]))) (g := F0 m pc ls ((Value.int k9 :: rr).map (ax_tr b base))) rfl hd (n := k9) (rest := rr.map (ax_tr b base)) rfl hneg rfl (by rw [hty]; exact Nat.le_trans (Nat.mul_le_mul_left _ hcb) hby) hRc hRs hsz fun H1 cA e1 z1 o1 hAr hNm => ?_) T hT X9
        rw [hty] at e1 hNm
        have hcA : cA = cy a.1 := Option.some.inj (hNm.symm.trans hname)
        subst hcA
        have o2 : ∀ q : Nat, q < H.size → H1[q]? = H[q]? := fun q hq => o1 q (by omega)
        refine k H1 locs ls ?_ ⟨Nat.le_trans hS.1 (by omega), fun q h1 h2 => (o2 q (Nat.lt_of_lt_of_le h1 hS.1)).trans (hS.2.1 q h1 h2), hS.2.2⟩ (fun _ => by have := hE rfl; show s.heap.size + (cells + 1) ≤ base + (n + 1); simp only at this; omega) hl
        rw [← ax_L_push]
        refine (hP.kept (fun k9 q9 hq9 => o2 q9.1 ((hP k9 q9 hq9).lt))).app (fun k9 q9 hq9 => ?_)
        have hz : k9 < 1 := (List.getElem?_eq_some_iff.mp hq9).1
        rw [show k9 = 0 by omega] at hq9
        cases hq9
        show H1[base + n]? = some (vp_cell (cy a.1) a.2)
        rw [hcell]
        exact e1
      · cases h
    · cases h
  · cases h
theorem ax_lib_ok (X : ax_X Ss Nw dC dI cy b base L xs p s m args c own cc nL) (hok : ax_ok own cc isInit pc x) (hRc : cells + r.2.2.2.2.1 ≤ R.cells) (hRs : slots + r.2.2.2.2.2 ≤ R.slots) (hRf : 7 ≤ R.frames) (hRl : 120 ≤ R.locals) (h : ax_lib x pc lv st M = some r)
    (k : ax_V dC dI cy b base p l e R s m args below meth c nL (cells + r.2.2.2.2.1) (slots + r.2.2.2.2.2) Q r.1 r.2.1 r.2.2.1 r.2.2.2.1) : ax_V dC dI cy b base p l e R s m args below meth c nL cells slots Q pc lv st M := by
  obtain ⟨hx, hb, hml, hown, hts, hF⟩ := X
  obtain ⟨hd, hw, hc⟩ := hok
  obtain ⟨i, len, r1, r2, kc⟩ := x
  intro H locs ls hP hS hE hl
  simp only [ax_lib] at h
  split at h
  · have hlen : len = 3 := by simpa [ax_chk] using hc
    subst hlen
    split at h
    · rename_i hj
      cases h
      obtain ⟨h9, h8⟩ := hj
      subst h9
      refine W.objInit hx hb hown (hts _ (hw _ (by simp [ax_need]))) (hts _ (hw _ (by simp [ax_need]))) (hts _ (hw _ (by simp [ax_need]))) rfl (by rw [hml]; exact hl.1) rfl hd (by omega) ?_ (k H locs ls hP hS hE hl)
      show 2 * 0 + ((List.map (ax_tr b base) _).map fun v => v.category).sum + 12 ≤ R.locals
      rw [ax_cats]
      omega
    · cases h
  · have hlen : len = 3 := by simpa [ax_chk] using hc
    subst hlen
    split at h
    · rename_i hj
      cases h
      obtain ⟨h9, h8⟩ := hj
      subst h9
      refine va_mmax hx hb (by rw [hml]; exact hl.1.symm) hown (hts _ (hw _ (by simp [ax_need]))) (hts _ (hw _ (by simp [ax_need]))) (hts _ (hw _ (by simp [ax_need]))) (hts _ (hw _ (by simp [ax_need]))) (by omega) ?_ hRc hRs hd (k H locs ls hP hS hE hl)
      show ((List.map (ax_tr b base) _).map fun v => v.category).sum + 13 ≤ R.locals
      rw [ax_cats]
      omega
    · cases h
  · cases h
end AXQ3
end
section
section AXM
/-- how a method ends: what it returns, or the class that it throws; the cells then; how many cells and slots it has made -/
abbrev ax_O : Type := (Option Value ⊕ String) × ax_M × Nat × Nat
/-- a method: name, code, locals, answer; its handlers and the names of what they catch; its rows; its throws (pc, class, text, three numbers of the pool, a wide index) -/
abbrev ax_D : Type := MethodName × ByteArray × Nat × Option FieldType × List (Nat × Nat × Nat × Nat) × List String × List (Nat × ax_I) × List (Nat × String × String × Nat × Nat × Nat × Bool)
def ax_dy (D : ax_D) : MethodName := D.1
def ax_db (D : ax_D) : ByteArray := D.2.1
def ax_dl (D : ax_D) : Nat := D.2.2.1
def ax_dr (D : ax_D) : Option FieldType := D.2.2.2.1
def ax_dh (D : ax_D) : List (Nat × Nat × Nat × Nat) := D.2.2.2.2.1
def ax_dn (D : ax_D) : List String := D.2.2.2.2.2.1
def ax_dt (D : ax_D) : List (Nat × ax_I) := D.2.2.2.2.2.2.1
def ax_dx (D : ax_D) : List (Nat × String × String × Nat × Nat × Nat × Bool) := D.2.2.2.2.2.2.2
def ax_cw (D : ax_D) : Cond := match ax_dh D with
  | [] => .code (ax_dy D) (ax_db D) (ax_dl D) (ax_dr D)
  | h :: t => .codeWith (ax_dy D) (ax_db D) (ax_dl D) (ax_dr D) (h :: t)
def ax_ari (y : MethodName) (n : Nat) : Prop := (parseMethodDescriptor y.desc).map (fun d => d.parameters.length) = some n
def ax_notMH (y : MethodName) : Prop := y.cls ≠ "java/lang/invoke/MethodHandle" ∧ y.cls ≠ "java/lang/invoke/VarHandle"
abbrev ax_Up : List String := ["java/lang/RuntimeException", "java/lang/Exception"]
/-- a call's row: its words -/
def ax_okc (T : Nat → ax_D) (a9 : String) (i9 : Nat) (x9 : MethodName) (own : String) (x : ax_I) : Prop := match x.1 with
  | .invokevirtual i => x.2.2.1 < 900 → (∀ w ∈ ([.methodLink own i (ax_dy (T x.2.2.1)), .instanceMethod (ax_dy (T x.2.2.1)), .selects (ax_dy (T x.2.2.1)).cls (ax_dy (T x.2.2.1)) (ax_dy (T x.2.2.1)), .initialized (ax_dy (T x.2.2.1)).cls] : List Cond), w ∈ ax_W) ∧ ax_ari (ax_dy (T x.2.2.1)) x.2.2.2.1
  | .invokespecial i => x.2.2.1 < 900 → (∀ w ∈ ([.methodLink own i (ax_dy (T x.2.2.1)), .instanceMethod (ax_dy (T x.2.2.1)), .initialized (ax_dy (T x.2.2.1)).cls] : List Cond), w ∈ ax_W) ∧ ax_ari (ax_dy (T x.2.2.1)) x.2.2.2.1 ∧ (ax_dy (T x.2.2.1)).name = "<init>" ∧ ax_dh (T x.2.2.1) = [] ∧ ax_dr (T x.2.2.1) = none
  | .invokestatic i => x.2.2.1 < 900 → (∀ w ∈ ([.static (ax_dy (T x.2.2.1)), .initialized (ax_dy (T x.2.2.1)).cls] : List Cond), w ∈ ax_W) ∧ ax_ari (ax_dy (T x.2.2.1)) x.2.2.2.1 ∧ (Cond.methodLink own i (ax_dy (T x.2.2.1)) ∈ ax_W ∨ (own = a9 ∧ i = i9 ∧ ax_dy (T x.2.2.1) = x9 ∧ ax_dh (T x.2.2.1) = []))
  | _ => True
/-- a throw's row -/
def ax_okx (Ss : List (String × Nat × String)) (D : ax_D) (pc : Nat) (q : String × String × Nat × Nat × Nat × Bool) : Prop := match q with
  | (cls, text, ik, is, ic, wide) => cls ∈ ax_Ex ∧ ((ax_dy D).cls, is, text) ∈ Ss ∧ ax_dh D = [] ∧ decode (ax_db D) pc = .ok (.new ik, 3) ∧ decode (ax_db D) (pc + 3) = .ok (.dup, 1) ∧
    (match wide with
      | false => decode (ax_db D) (pc + 4) = .ok (.ldc is, 2) ∧ decode (ax_db D) (pc + 6) = .ok (.invokespecial ic, 3) ∧ decode (ax_db D) (pc + 9) = .ok (.athrow, 1)
      | true => decode (ax_db D) (pc + 4) = .ok (.ldc_w is, 3) ∧ decode (ax_db D) (pc + 7) = .ok (.invokespecial ic, 3) ∧ decode (ax_db D) (pc + 10) = .ok (.athrow, 1)) ∧
    (∀ w ∈ Cond.classLink (ax_dy D).cls ik cls :: Cond.initialized cls :: (vx_atS (ax_dy D).cls ic cls ax_Up).filter goodWord, w ∈ ax_W) ∧
    (vx_atS (ax_dy D).cls ic cls ax_Up).filter (fun w => !goodWord w) = ax_De.map Cond.declares ++ [.castable cls cls]
/-- a method's tables are right -/
def ax_okM (Ss : List (String × Nat × String)) (T : Nat → ax_D) (a9 : String) (i9 : Nat) (x9 : MethodName) (D : ax_D) : Prop :=
  plainName (ax_dy D).cls = true ∧ ax_notMH (ax_dy D) ∧ ax_cw D ∈ ax_W ∧ ax_dl D ≤ 20 ∧
  (∀ pc x, (ax_dt D).lookup pc = some x → ax_ok (ax_dy D).cls (ax_db D) (decide ((ax_dy D).name = "<init>")) pc x ∧ ax_okc T a9 i9 x9 (ax_dy D).cls x) ∧
  (∀ pc q, (ax_dx D).lookup pc = some q → ax_okx Ss D pc q) ∧
  ∀ (k : Nat) (q : Nat × Nat × Nat × Nat), (ax_dh D)[k]? = some q → ∃ nm, (ax_dn D)[k]? = some nm ∧ nm ∈ ax_Ex ∧ q.2.2.2 ≠ 0 ∧ Cond.classLink (ax_dy D).cls q.2.2.2 nm ∈ ax_W
def ax_ret (rt : Option FieldType) (x : ax_I) (st : List Value) : Option (Option Value) := match x.1, st, rt with
  | .ireturn, [.int v], some .int => some (some (.int v))
  | .ireturn, [.int v], some .boolean => if v = 0 ∨ v = 1 then some (some (.int v)) else none
  | .lreturn, [.long v], some .long => some (some (.long v))
  | .return_, [], none => some none
  | .areturn, [.ref v], some (.object _) => some (some (.ref v))
  | _, _, _ => none
/-- what the end of a run asks of the promises of a walk -/
def ax_End (dC : Nat → ClassId) (dI : Nat → Nat → Nat) (cy : Nat → ClassId) (b base : Nat) (Qc : Array Value → State → Outcome → State → Prop) (XC : String → State → State → Prop) (args : Array Value) (s : State) (o : ax_O) : Prop := match o.1 with
  | .inl v => ∀ t : State, s.vm.Alike t.vm → va_F (ax_A base) s t → va_P (dC, dI) vwCl (ax_L b base cy o.2.1) t.heap → Qc args s (.returned (v.map (ax_tr b base))) t
  | .inr E => ∀ t : State, s.vm.Alike t.vm → va_F (ax_A base) s t → va_P (dC, dI) vwCl (ax_L b base cy o.2.1) t.heap → XC E s t
/-- THE TIE: wherever the machine stands in method D at the pure state, with so much room, it comes to the pure machine's end -/
def ax_P (Ss : List (String × Nat × String)) (Nw : Cond) (dC : Nat → ClassId) (dI : Nat → Nat → Nat) (cy : Nat → ClassId) (b base L : Nat) (xs : Nat → Int32) (T : Nat → ax_D) (d i pc : Nat) (lv : List (Nat × Value)) (st : List Value) (M : ax_M) (o : ax_O) : Prop :=
  ∀ (p : Program) (l : Launch) (e : Env) (R : Room) (s : State) (m : MethodId) (args : Array Value) (below : List Frame) (meth : Method) (c : Code) (Qc : Array Value → State → Outcome → State → Prop) (XC : String → State → State → Prop) (MC MS cells slots : Nat),
    l.stackTraces = false → ax_X Ss Nw dC dI cy b base L xs p s m args c (ax_dy (T i)).cls (ax_db (T i)) (ax_dl (T i)) → c.exceptionTable.toList = tableOf (ax_dh (T i)) → meth.locks = false → meth.sig.returnType = ax_dr (T i) → ((ax_dy (T i)).name = "<init>" → meth.name = "<init>") →
    d + 7 ≤ R.frames → 40 * d + 120 ≤ R.locals → cells + o.2.2.1 ≤ R.cells → slots + o.2.2.2 ≤ R.slots → cells + o.2.2.1 ≤ MC → slots + o.2.2.2 ≤ MS →
    ax_End dC dI cy b base Qc XC args s o →
    ax_V dC dI cy b base p l e R s m args below meth c (ax_dl (T i)) cells slots (vx_MQ below Qc XC args s MC MS (ax_A base)) pc lv st M
/-- a run's end, with what was made before it -/
def ax_add (o : ax_O) (c s : Nat) : ax_O := (o.1, o.2.1, c + o.2.2.1, s + o.2.2.2)
variable {Ss : List (String × Nat × String)} {Nw : Cond} {dC : Nat → ClassId} {dI : Nat → Nat → Nat} {cy : Nat → ClassId} {b base L : Nat} {xs : Nat → Int32} {T : Nat → ax_D} {a9 : String} {i9 : Nat} {x9 : MethodName}
theorem ax_or {α : Type} {a b : Option α} {r : α} (h : (a <|> b) = some r) : a = some r ∨ b = some r := by
  cases a with
  | none => exact Or.inr h
  | some v => exact Or.inl h
theorem ax_P_step {d i pc : Nat} {lv : List (Nat × Value)} {st : List Value} {M : ax_M} {o : ax_O} {x : ax_I} {r : ax_N} (hT : ∀ j, ax_okM Ss T a9 i9 x9 (T j)) (hx : (ax_dt (T i)).lookup pc = some x) (h : ax_s L xs (ax_dl (T i)) x pc lv st M = some r)
    (k : ax_P Ss Nw dC dI cy b base L xs T d i r.1 r.2.1 r.2.2.1 r.2.2.2.1 o) : ax_P Ss Nw dC dI cy b base L xs T d i pc lv st M (ax_add o r.2.2.2.2.1 r.2.2.2.2.2) := by
  intro p l e R s m args below meth c Qc XC MC MS cells slots hl X ht hlk hrt hin hRf hRl hRc hRs hMc hMs hE
  have hok := ((hT i).2.2.2.2.1 pc x hx).1
  have kk : ax_V dC dI cy b base p l e R s m args below meth c (ax_dl (T i)) (cells + r.2.2.2.2.1) (slots + r.2.2.2.2.2) (vx_MQ below Qc XC args s MC MS (ax_A base)) r.1 r.2.1 r.2.2.1 r.2.2.2.1 :=
    k p l e R s m args below meth c Qc XC MC MS (cells + r.2.2.2.2.1) (slots + r.2.2.2.2.2) hl X ht hlk hrt hin hRf hRl (by simp only [ax_add] at hRc; omega) (by simp only [ax_add] at hRs; omega) (by simp only [ax_add] at hMc; omega) (by simp only [ax_add] at hMs; omega) hE
  have hc1 : cells + r.2.2.2.2.1 ≤ R.cells := by simp only [ax_add] at hRc; omega
  have hs1 : slots + r.2.2.2.2.2 ≤ R.slots := by simp only [ax_add] at hRs; omega
  unfold ax_s at h
  rcases ax_or h with h | h
  · exact ax_const_ok X hok h kk
  rcases ax_or h with h | h
  · exact ax_load_ok X hok h kk
  rcases ax_or h with h | h
  · exact ax_store_ok X hok h kk
  rcases ax_or h with h | h
  · exact ax_inc_ok X hok h kk
  rcases ax_or h with h | h
  · exact ax_ints_ok X hok h kk
  rcases ax_or h with h | h
  · exact ax_longs_ok X hok h kk
  rcases ax_or h with h | h
  · exact ax_conv_ok X hok h kk
  rcases ax_or h with h | h
  · exact ax_jump_ok X hok h kk
  rcases ax_or h with h | h
  · exact ax_jump2_ok X hok h kk
  rcases ax_or h with h | h
  · exact ax_switch_ok X hok h kk
  rcases ax_or h with h | h
  · exact ax_getf_ok X hok h kk
  rcases ax_or h with h | h
  · exact ax_putf_ok X hok (fun h9 => hin (of_decide_eq_true h9)) h kk
  rcases ax_or h with h | h
  · exact ax_aload_ok X hok h kk
  rcases ax_or h with h | h
  · exact ax_astore_ok X hok h kk
  rcases ax_or h with h | h
  · exact ax_make_ok X hok hc1 hs1 h kk
  · exact ax_lib_ok X hok hc1 hs1 (by omega) (by omega) h kk
theorem ax_P_ret {d i pc : Nat} {lv : List (Nat × Value)} {st : List Value} {M : ax_M} {x : ax_I} {v : Option Value} (hT : ∀ j, ax_okM Ss T a9 i9 x9 (T j)) (hx : (ax_dt (T i)).lookup pc = some x) (h : ax_ret (ax_dr (T i)) x st = some v) :
    ax_P Ss Nw dC dI cy b base L xs T d i pc lv st M (.inl v, M, 0, 0) := by
  intro p l e R s m args below meth c Qc XC MC MS cells slots hl X ht hlk hrt hin hRf hRl hRc hRs hMc hMs hE
  have hok := ((hT i).2.2.2.2.1 pc x hx).1
  obtain ⟨hx2, hb, hml, hown, hts, hF⟩ := X
  obtain ⟨hd, -, hc⟩ := hok
  obtain ⟨ins, len, r1, r2, kc⟩ := x
  intro H locs ls hP hS hE2 hl2
  refine W.widen (k := MC) (n := MS) hMc hMs ?_
  refine vx_ret ?_
  have hq : ∀ t : State, t.heap = H → s.WarmedH t.vm → Qc args s (.returned (v.map (ax_tr b base))) t := fun t h1 h2 => hE t h2.alike (hS.F h1) (by rw [h1]; exact hP)
  simp only [ax_ret] at h
  split at h
  · rename_i hr
    have hlen : len = 1 := by simpa [ax_chk] using hc
    subst hlen; cases h
    exact W.iret hx2 hb (by rw [hrt, hr]) hq hS.2.2 hd hlk
  · rename_i hr
    have hlen : len = 1 := by simpa [ax_chk] using hc
    subst hlen
    split at h
    · rename_i v9 h01
      cases h
      exact W.zret hx2 hb (ty := .boolean) (by rw [hrt, hr]) (by rcases h01 with rfl | rfl <;> decide) hq hS.2.2 hd hlk
    · cases h
  · rename_i hr
    have hlen : len = 1 := by simpa [ax_chk] using hc
    subst hlen; cases h
    exact W.lret hx2 hb (by rw [hrt, hr]) hq hS.2.2 hd hlk
  · rename_i hr
    have hlen : len = 1 := by simpa [ax_chk] using hc
    subst hlen; cases h
    exact W.vret hx2 hb (by rw [hrt, hr]) hq hS.2.2 hd hlk
  · rename_i hr
    have hlen : len = 1 := by simpa [ax_chk] using hc
    subst hlen; cases h
    exact W.aret hx2 hb (by rw [hrt, hr]) (Or.inl ⟨_, rfl⟩) (Or.inr ⟨_, rfl⟩) hq hS.2.2 hd hlk
  · cases h
end AXM
end
section
section AXT
variable {Ss : List (String × Nat × String)} {Nw : Cond} {dC : Nat → ClassId} {dI : Nat → Nat → Nat} {cy : Nat → ClassId} {b base L : Nat} {xs : Nat → Int32} {T : Nat → ax_D} {a9 : String} {i9 : Nat} {x9 : MethodName}
theorem ax_fits : ∀ E ∈ ax_Ex, Bundle.fit E = true := by decide +kernel
theorem ax_fitUp : ∀ n ∈ ax_Up, Bundle.fit n = true := by decide +kernel
theorem ax_P_throw {d i pc : Nat} {lv : List (Nat × Value)} {st : List Value} {M : ax_M} {cls text : String} {ik is ic : Nat} {wide : Bool} (hT : ∀ j, ax_okM Ss T a9 i9 x9 (T j)) (hx : (ax_dx (T i)).lookup pc = some (cls, text, ik, is, ic, wide)) (hst : (st.map fun v => v.category).sum ≤ 30) :
    ax_P Ss Nw dC dI cy b base L xs T d i pc lv st M (.inr cls, (M.1, M.2.1, false), 1, 6) := by
  intro p l e R s m args below meth c Qc XC MC MS cells slots hl X ht hlk hrt hin hRf hRl hRc hRs hMc hMs hE
  obtain ⟨hE0, hS0, hdh, d0, d3, dw, hw, hng⟩ := (hT i).2.2.2.2.2.1 pc _ hx
  obtain ⟨hx2, hb, hml, hown, hts, hF⟩ := X
  obtain ⟨f1, f2, f3, f4, f5, f6, f7, f8, f9, f10⟩ := hF
  obtain ⟨sa, hsa⟩ := f4 _ hS0
  intro H locs ls hP hS hE2 hl2
  have hcast : (Cond.castable cls cls).before args s = true := va_Nw.use rfl (f5.1 cls hE0)
  have hBB : ∀ w ∈ ax_De.map Cond.declares ++ [.castable cls cls], w.before args s = true := by
    intro w h
    rcases List.mem_append.mp h with h | h
    · obtain ⟨y, hy, rfl⟩ := List.mem_map.mp h
      exact va_Nw.use rfl (f5.2 y hy)
    · rw [List.mem_singleton.mp h]; exact hcast
  have hat : ∀ w ∈ vx_atS (ax_dy (T i)).cls ic cls ax_Up, w.before args s = true :=
    vx_hat (B := ax_De.map Cond.declares ++ [.castable cls cls]) (fun w h => hts w (hw w (List.mem_cons_of_mem _ (List.mem_cons_of_mem _ h)))) (fun w h => by rw [hng] at h; exact h) hBB
  have hgood : ∀ w ∈ Cond.classLink (ax_dy (T i)).cls ik cls :: Cond.initialized cls :: vx_atS (ax_dy (T i)).cls ic cls ax_Up, vx_ot w = true := by
    intro w h
    rcases List.mem_cons.mp h with rfl | h
    · rfl
    rcases List.mem_cons.mp h with rfl | h
    · rfl
    by_cases g : goodWord w = true
    · unfold vx_ot; rw [g, Bool.or_true]
    · have : w ∈ (vx_atS (ax_dy (T i)).cls ic cls ax_Up).filter (fun w => !goodWord w) := List.mem_filter.mpr ⟨h, by simpa using g⟩
      rw [hng] at this
      rcases List.mem_append.mp this with h | h
      · obtain ⟨y, hy, rfl⟩ := List.mem_map.mp h
        rfl
      · rw [List.mem_singleton.mp h]; rfl
  have hout : ∀ (n : Nat), ∀ x ∈ c.exceptionTable.toList, covers x n = false := fun n x h => by
    rw [ht, hdh] at h
    cases h
  have hxx : ∀ t : State, s.vm.Alike t.vm → H.size ≤ t.heap.size → (∀ q : Nat, q < H.size → t.heap[q]? = H[q]?) → XC cls s t := fun t h1 h2 h3 =>
    hE t h1 ⟨Nat.le_trans hS.1 h2, fun q q1 q2 => (h3 q (Nat.lt_of_lt_of_le q1 hS.1)).trans (hS.2.1 q q1 q2)⟩ (hP.kept (fun k q hq => h3 q.1 ((hP k q hq).lt)))
  have hrl : ((st.map (ax_tr b base)).map fun v => v.category).sum + (13 * (ax_Up.length + 1) + 43) ≤ R.locals := by
    rw [ax_cats]
    show _ + (13 * 3 + 43) ≤ _
    omega
  cases wide with
  | false =>
    exact vx_throwS hx2 hb hl hown (ax_fits cls hE0) ax_fitUp (hts _ (hw _ List.mem_cons_self)) (hts _ (hw _ (List.mem_cons_of_mem _ List.mem_cons_self))) hsa hat hgood f2 f3 hS (by rw [hml]; exact hl2.1) d0 d3 dw.1 dw.2.1 dw.2.2 (hout _) (by show 2 + 3 < R.frames; omega) hrl (by simp only at hRc; omega) (by simp only at hRs; omega) hlk hxx hS.2.2 hMc hMs
  | true =>
    exact vx_throwSW hx2 hb hl hown (ax_fits cls hE0) ax_fitUp (hts _ (hw _ List.mem_cons_self)) (hts _ (hw _ (List.mem_cons_of_mem _ List.mem_cons_self))) hsa hat hgood f2 f3 hS (by rw [hml]; exact hl2.1) d0 d3 dw.1 dw.2.1 dw.2.2 (hout _) (by show 2 + 3 < R.frames; omega) hrl (by simp only at hRc; omega) (by simp only at hRs; omega) hlk hxx hS.2.2 hMc hMs
end AXT
end
section
section AXK
variable {Ss : List (String × Nat × String)} {dC : Nat → ClassId} {dI : Nat → Nat → Nat} {cy : Nat → ClassId} {b base L : Nat} {xs : Nat → Int32} {T : Nat → ax_D} {a9 h9 : String} {i9 : Nat} {x9 : MethodName}
def ax_Pc (Ss : List (String × Nat × String)) (Nw : Cond) (dC : Nat → ClassId) (dI : Nat → Nat → Nat) (cy : Nat → ClassId) (b base L : Nat) (xs : Nat → Int32) (as : List Value) (M : ax_M) : Array Value → State → Prop := fun v U =>
  v = (as.map (ax_tr b base)).toArray ∧ ax_F Ss Nw dC dI cy b base L xs U ∧ va_P (dC, dI) vwCl (ax_L b base cy M) U.heap ∧ (M.2.2 = true → U.heap.size ≤ base + M.1)
def ax_Qc (dC : Nat → ClassId) (dI : Nat → Nat → Nat) (cy : Nat → ClassId) (b base : Nat) (o : ax_O) : Array Value → State → Outcome → State → Prop := fun _ st oc t =>
  (∃ v, o.1 = .inl v ∧ oc = .returned (v.map (ax_tr b base))) ∧ va_F (ax_A base) st t ∧ va_P (dC, dI) vwCl (ax_L b base cy o.2.1) t.heap
def ax_XC (dC : Nat → ClassId) (dI : Nat → Nat → Nat) (cy : Nat → ClassId) (b base : Nat) (o : ax_O) : String → State → State → Prop := fun E st t =>
  o.1 = .inr E ∧ va_F (ax_A base) st t ∧ va_P (dC, dI) vwCl (ax_L b base cy o.2.1) t.heap
def ax_rm (d : Nat) (o : ax_O) : Room := { frames := d + 7, cells := o.2.2.1, slots := o.2.2.2, locals := 40 * d + 120 }
theorem ax_sl_tr (b base : Nat) (vs : List Value) : (lg_sl (vs.map (ax_tr b base))).length = (lg_sl vs).length := by
  induction vs with
  | nil => rfl
  | cons v t ih =>
    unfold lg_sl at ih ⊢
    rw [List.map_cons, List.flatMap_cons, List.flatMap_cons, List.length_append, List.length_append, ih, ax_cat]
    by_cases h : v.category = 2
    · rw [if_pos h, if_pos h]; rfl
    · rw [if_neg h, if_neg h]; rfl
theorem ax_met {l : Launch} {d j : Nat} {as : List Value} {M : ax_M} {o : ax_O} (hT : ∀ j, ax_okM Ss T a9 i9 x9 (T j)) (hl : l.stackTraces = false) (hsl : (lg_sl as).length ≤ ax_dl (T j))
    (k : ax_P Ss (.methodLinkNest a9 i9 x9 h9) dC dI cy b base L xs T d j 0 (lv_args 0 as) [] M o) :
    vx_Met l (ax_dy (T j)) (ax_cw (T j) :: ax_W) (ax_rm d o) (ax_Pc Ss (.methodLinkNest a9 i9 x9 h9) dC dI cy b base L xs as M) (ax_Qc dC dI cy b base o) (ax_XC dC dI cy b base o) o.2.2.1 o.2.2.2 (ax_A base) := by
  have hE : ∀ (args : Array Value) (s : State), ax_End dC dI cy b base (ax_Qc dC dI cy b base o) (ax_XC dC dI cy b base o) args s o := by
    intro args s
    unfold ax_End
    split
    · rename_i v hv
      exact fun t h1 h2 h3 => ⟨⟨v, hv, rfl⟩, h2, h3⟩
    · rename_i E hv
      exact fun t h1 h2 h3 => ⟨hv, h2, h3⟩
  have body : ∀ (p : Program) (e : Env) (s : State) (m : MethodId) (args : Array Value) (below : List Frame) (meth : Method) (c : Code) (s₁ : State), BodyLoose p l (ax_dy (T j)) (headSpec (ax_cw (T j) :: ax_W) (ax_rm d o)) (ax_db (T j)) (ax_dl (T j)) (ax_dr (T j)) e s m args below meth c s₁ → c.maxLocals = ax_dl (T j) → c.exceptionTable.toList = tableOf (ax_dh (T j)) → ax_Pc Ss (.methodLinkNest a9 i9 x9 h9) dC dI cy b base L xs as M args s →
      W p l e (headSpec (ax_cw (T j) :: ax_W) (ax_rm d o)).room s m args below meth c s.heap [] 0 0 (vx_MQ below (ax_Qc dC dI cy b base o) (ax_XC dC dI cy b base o) args s o.2.2.1 o.2.2.2 (ax_A base)) (entryFrame m args (ax_dl (T j))) := by
    intro p e s m args below meth c s₁ B hml ht hv
    obtain ⟨rfl, hF, hP, hsz⟩ := hv
    have hts := atoms_spec (ws := ax_cw (T j) :: ax_W) B.pre
    have hn := name_of_methodNamed B.named B.method
    rw [lg_entry_eq]
    have hlv := lv_entry (as.map (ax_tr b base)) (n := ax_dl (T j)) (by rw [ax_sl_tr]; exact hsl)
    rw [ax_args_tr] at hlv
    exact k p l e (ax_rm d o) s m _ below meth c _ _ _ _ 0 0 hl ⟨B.exec, B.bytes, hml, findClass_of_methodNamed B.named, fun w h => hts w (List.mem_cons_of_mem _ h), hF⟩ ht B.notSynchronized B.returns (fun h => hn.1.trans h)
      (Nat.le_refl _) (Nat.le_refl _) (by show 0 + o.2.2.1 ≤ o.2.2.1; omega) (by show 0 + o.2.2.2 ≤ o.2.2.2; omega) (by omega) (by omega) (hE _ _) s.heap [] _ hP va_S.rf (fun h => by have := hsz h; omega) hlv
  cases hh : ax_dh (T j) with
  | nil =>
    have hcw : ax_cw (T j) = .code (ax_dy (T j)) (ax_db (T j)) (ax_dl (T j)) (ax_dr (T j)) := by unfold ax_cw; rw [hh]
    refine vx_ofW (cc := ax_db (T j)) (maxL := ax_dl (T j)) (ret := ax_dr (T j)) (hT j).1 (by rw [hcw]) ?_
    intro p e s m args below meth c s₁ B hml ht hv
    refine body p e s m args below meth c s₁ B hml ?_ hv
    rw [hh]
    exact List.eq_nil_iff_forall_not_mem.mpr (fun x hx => ht x hx)
  | cons h0 t0 =>
    have hcw : ax_cw (T j) = .codeWith (ax_dy (T j)) (ax_db (T j)) (ax_dl (T j)) (ax_dr (T j)) (h0 :: t0) := by unfold ax_cw; rw [hh]
    refine vx_ofWH (cc := ax_db (T j)) (maxL := ax_dl (T j)) (ret := ax_dr (T j)) (hh := h0 :: t0) (hT j).1 (by rw [hcw]) ?_
    intro p e s m args below meth c s₁ B hml hv
    refine body p e s m args below meth c s₁ B hml ?_ hv
    rw [hh]
    exact vx_table (x := ax_dy (T j)) B (atoms_spec (ws := ax_cw (T j) :: ax_W) B.pre _ (by rw [hcw]; exact List.mem_cons_self))
/-- a contract that never throws -/
theorem ax_toMet {l : Launch} {y : MethodName} {ws : List Cond} {rm : Room} {Pc : Array Value → State → Prop} {Qc : Array Value → State → Outcome → State → Prop} {XC : String → State → State → Prop} {mc ms : Nat} {free : Addr → Prop}
    (h : vx_Met l y ws rm Pc Qc XC mc ms free) (hx : ∀ E st t, ¬ XC E st t) : Met l y ws rm Pc Qc mc ms free := by
  intro p e ha hc hk s m args below hf happ hP hK
  obtain ⟨n, o, h1, h2, h3, h4⟩ := h p e ha hc hk s m args below hf happ hP hK
  refine ⟨n, o, h1, h2, h3, ?_⟩
  rcases h4 with h4 | ⟨q, -, E, ce, L, hxc, -⟩
  · exact h4
  · exact absurd hxc (hx _ _ _)
/-- which method a row calls, with what, what stays on the stack -/
def ax_call (x : ax_I) (st : List Value) : Option (Nat × List Value × List Value) := match x.1 with
  | .invokevirtual _ => if x.2.2.1 < 900 ∧ x.2.2.2.1 ≤ st.length then match st.drop x.2.2.2.1 with
    | .ref q :: rest => some (x.2.2.1, .ref q :: (st.take x.2.2.2.1).reverse, rest)
    | _ => none
    else none
  | .invokespecial _ => if x.2.2.1 < 900 ∧ x.2.2.2.1 ≤ st.length then match st.drop x.2.2.2.1 with
    | .ref q :: rest => some (x.2.2.1, .ref q :: (st.take x.2.2.2.1).reverse, rest)
    | _ => none
    else none
  | .invokestatic _ => if x.2.2.1 < 900 ∧ x.2.2.2.1 ≤ st.length then some (x.2.2.1, (st.take x.2.2.2.1).reverse, st.drop x.2.2.2.1) else none
  | _ => none
/-- the receiver of a virtual call is an object of the method's class -/
def ax_recv (T : Nat → ax_D) (x : ax_I) (as : List Value) (M : ax_M) : Prop := match x.1, as with
  | .invokevirtual _, .ref (i + 1) :: _ => match M.2.1 (i + 1) with
    | .inr o => i < M.1 ∧ (vwCl[o.1]?).map (fun q => q.1) = some (ax_dy (T x.2.2.1)).cls
    | .inl _ => False
  | .invokevirtual _, _ => False
  | _, _ => True
theorem ax_blind {as : List Value} {M : ax_M} : FrameBlind (ax_Pc Ss (.methodLinkNest a9 i9 x9 h9) dC dI cy b base L xs as M) := fun a U g mk q => ⟨q.1, ax_F.calling q.2.1, q.2.2.1, q.2.2.2⟩
theorem ax_goodW {l1 : List Cond} {w0 : Cond} (h : ∀ w ∈ l1, w ∈ ax_W) (h0 : w0 ∈ ax_W) : GoodIn ax_W (l1 ++ w0 :: ax_W) := by
  intro w hw
  have hm : w ∈ ax_W := by
    rcases List.mem_append.mp hw with h1 | h1
    · exact h w h1
    · rcases List.mem_cons.mp h1 with rfl | h2
      · exact h0
      · exact h2
  exact ⟨hm, good_of_word (ax_W_good w hm).2⟩
section
variable {p : Program} {l : Launch} {e : Env} {R : Room} {s : State} {m : MethodId} {args : Array Value} {below : List Frame} {meth : Method} {c : Code} {H : Heap} {locs : List Loc} {cells slots : Nat}
theorem ax_run {d i pc j : Nat} {ls : Array Slot} {st as rest : List Value} {M : ax_M} {o : ax_O} {x : ax_I} (hT : ∀ j, ax_okM Ss T a9 i9 x9 (T j)) (hl : l.stackTraces = false)
    (X : ax_X Ss (.methodLinkNest a9 i9 x9 h9) dC dI cy b base L xs p s m args c (ax_dy (T i)).cls (ax_db (T i)) (ax_dl (T i))) (hx : (ax_dt (T i)).lookup pc = some x) (hca : ax_call x st = some (j, as, rest)) (hre : ax_recv T x as M)
    (hws : (rest.map fun v => v.category).sum ≤ 8) (hsl : (lg_sl as).length ≤ ax_dl (T j)) (hno : (∃ n, x.1 = .invokespecial n) ∨ ax_dy (T j) = x9 → ∃ v, o.1 = .inl v)
    (k : ax_P Ss (.methodLinkNest a9 i9 x9 h9) dC dI cy b base L xs T d j 0 (lv_args 0 as) [] M o)
    (hP : va_P (dC, dI) vwCl (ax_L b base cy M) H) (hS : va_S (ax_A base) s.heap H locs) (hsz : M.2.2 = true → H.size ≤ base + M.1) (hls : ls.size = ax_dl (T i))
    (hRf : d + 1 + 7 ≤ R.frames) (hRl : 40 * (d + 1) + 120 ≤ R.locals) (hRc : cells + o.2.2.1 ≤ R.cells) (hRs : slots + o.2.2.2 ≤ R.slots) :
    vx_Run p l e R s m args below meth c H locs cells slots o.2.2.1 o.2.2.2 (F0 m pc ls (st.map (ax_tr b base))) (rest.map (ax_tr b base)) (ax_Qc dC dI cy b base o (as.map (ax_tr b base)).toArray) (ax_XC dC dI cy b base o) (ax_A base) := by
  have hM := ax_met (h9 := h9) hT hl hsl k
  obtain ⟨hok, hokc⟩ := (hT i).2.2.2.2.1 pc x hx
  obtain ⟨hxx, hb, hml, hown, hts, hF⟩ := X
  obtain ⟨hd, -, hch⟩ := hok
  obtain ⟨ins, len, r1, r2, kc⟩ := x
  obtain ⟨-, hmh, hcwW, hml20, -⟩ := hT j
  have hU : ∀ U : State, U.heap = H → s.WarmedH U.vm → ax_Pc Ss (.methodLinkNest a9 i9 x9 h9) dC dI cy b base L xs as M (as.map (ax_tr b base)).toArray U := fun U h1 h2 => ⟨rfl, hF.kept hS h1 h2, by rw [h1]; exact hP, fun h => by rw [h1]; exact hsz h⟩
  have hR : (ax_rm d o).frames + 1 ≤ R.frames ∧ 8 + (ax_dl (T j) + 11) + (ax_rm d o).locals ≤ R.locals := ⟨by show d + 7 + 1 ≤ _; omega, by show _ + _ + (40 * d + 120) ≤ _; omega⟩
  have hws2 : 2 * (F0 m pc ls (st.map (ax_tr b base))).monitorRoom + ((rest.map (ax_tr b base)).map fun v => v.category).sum ≤ 8 := by
    rw [ax_cats]
    show 2 * 0 + _ ≤ 8
    omega
  simp only [ax_call] at hca
  split at hca
  · rename_i idx
    split at hca
    · rename_i hlt
      have hlen : len = 3 := by simpa [ax_chk] using hch
      subst hlen
      split at hca
      · rename_i q rr hdr
        simp only [Option.some.injEq, Prod.mk.injEq] at hca
        obtain ⟨e1, e2, e3⟩ := hca
        subst e1; subst e2; subst e3
        obtain ⟨hw4, hari⟩ := hokc hlt.1
        simp only at hw4 hari
        match q, hre with
        | q + 1, hre =>
          simp only [ax_recv] at hre
          split at hre
          · rename_i oo hoo
            obtain ⟨hq, hcl⟩ := hre
            cases hcq : vwCl[oo.1]? with
            | none => rw [hcq] at hcl; cases hcl
            | some qq =>
              rw [hcq] at hcl
              have hcl : qq.1 = (ax_dy (T r1)).cls := Option.some.inj hcl
              have hrec := va_recv (D := (dC, dI)) (q0 := q) (a := base + q) (ci := oo.1) (fs := oo.2.map (ax_tr b base)) hF.1 hP hcq (by rw [ax_L_get hq, hoo]; rfl)
              rw [hcl] at hrec
              have hstk : (F0 m pc ls (st.map (ax_tr b base))).stack = (((st.take r2).reverse).map (ax_tr b base)).reverse ++ .ref (base + q) :: rr.map (ax_tr b base) := by
                show st.map (ax_tr b base) = _
                rw [← List.map_reverse, List.reverse_reverse]
                conv => lhs; rw [← List.take_append_drop r2 st, hdr]
                rw [List.map_append]
                rfl
              have hpv : PreV s H (ax_dy (T r1)).cls (base + q) (ax_Pc Ss (.methodLinkNest a9 i9 x9 h9) dC dI cy b base L xs (.ref (q + 1) :: (st.take r2).reverse) M) (((st.take r2).reverse).map (ax_tr b base)) := ⟨ax_blind, hrec, hU⟩
              have hnn : (((st.take r2).reverse).map (ax_tr b base)).length = r2 := by rw [List.length_map, List.length_reverse, List.length_take]; omega
              cases hh : ax_dh (T r1) with
              | nil =>
                have hcw : ax_cw (T r1) = .code (ax_dy (T r1)) (ax_db (T r1)) (ax_dl (T r1)) (ax_dr (T r1)) := by unfold ax_cw; rw [hh]
                exact vx_runV (rest := rr.map (ax_tr b base)) ⟨hxx, hb, hml, hown, hts⟩ hM (cwV r2 hts (ax_goodW hw4 hcwW) (by rw [hcw]) rfl rfl ⟨rfl, hmh.1, hmh.2, hari⟩ hR) hpv rfl hnn hls hstk hws2 hd ⟨hRc, hRs⟩
              | cons h0 t0 =>
                have hcw : ax_cw (T r1) = .codeWith (ax_dy (T r1)) (ax_db (T r1)) (ax_dl (T r1)) (ax_dr (T r1)) (h0 :: t0) := by unfold ax_cw; rw [hh]
                exact vx_runVX (hh := h0 :: t0) (rest := rr.map (ax_tr b base)) ⟨hxx, hb, hml, hown, hts⟩ hM (vx_cwVW r2 hts (ax_goodW hw4 hcwW) (by rw [hcw]) rfl rfl ⟨rfl, hmh.1, hmh.2, hari⟩ hR) hpv rfl hnn hls hstk hws2 hd ⟨hRc, hRs⟩
          · exact hre.elim
      · cases hca
    · cases hca
  · rename_i idx
    split at hca
    · rename_i hlt
      have hlen : len = 3 := by simpa [ax_chk] using hch
      subst hlen
      split at hca
      · rename_i q rr hdr
        simp only [Option.some.injEq, Prod.mk.injEq] at hca
        obtain ⟨e1, e2, e3⟩ := hca
        subst e1; subst e2; subst e3
        obtain ⟨hw3, hari, hname, hh, hret⟩ := hokc hlt.1
        simp only at hw3 hari hname hh hret
        obtain ⟨v, hv⟩ := hno (Or.inl ⟨_, rfl⟩)
        have hcw : ax_cw (T r1) = .code (ax_dy (T r1)) (ax_db (T r1)) (ax_dl (T r1)) none := by unfold ax_cw; rw [hh, hret]
        have hstk : (F0 m pc ls (st.map (ax_tr b base))).stack = (((st.take r2).reverse).map (ax_tr b base)).reverse ++ .ref (ax_ad b base q) :: rr.map (ax_tr b base) := by
          show st.map (ax_tr b base) = _
          rw [← List.map_reverse, List.reverse_reverse]
          conv => lhs; rw [← List.take_append_drop r2 st, hdr]
          rw [List.map_append]
          rfl
        have hnn : (((st.take r2).reverse).map (ax_tr b base)).length = r2 := by rw [List.length_map, List.length_reverse, List.length_take]; omega
        have hMm := ax_toMet hM (fun E st9 t h => by have := h.1.symm.trans hv; cases this)
        have hg0 : GoodIn ax_W ([] ++ ax_cw (T r1) :: ax_W) := ax_goodW (fun w h => by cases h) hcwW
        have hrun := va_runI (rest := rr.map (ax_tr b base)) (b := ax_ad b base q) (As := ((st.take r2).reverse).map (ax_tr b base)) (p := p) (l := l) (e := e) (R := R) (s := s) (m := m) (args := args) (below := below) (meth := meth) (c := c) (H := H) (locs := locs) (cells := cells) (slots := slots) (g := F0 m pc ls (st.map (ax_tr b base))) ⟨hxx, hb, hml, hown, hts⟩ hMm
          (cwI r2 hts hg0 (by rw [hcw]) rfl rfl (hts _ (hw3 _ (by simp))) (hts _ (hw3 _ (by simp))) (hts _ (hw3 _ (by simp))) hname ⟨hmh.1, hmh.2, hari⟩ hR) ⟨ax_blind, hU⟩ rfl hnn hls hstk hws2 hd ⟨hRc, hRs⟩
        exact fun T9 hT9 X9 => Or.inl (hrun T9 hT9 X9)
      · cases hca
    · cases hca
  · rename_i idx
    split at hca
    · rename_i hlt
      have hlen : len = 3 := by simpa [ax_chk] using hch
      subst hlen
      simp only [Option.some.injEq, Prod.mk.injEq] at hca
      obtain ⟨e1, e2, e3⟩ := hca
      subst e1; subst e2; subst e3
      obtain ⟨hw2, hari, hlink⟩ := hokc hlt.1
      simp only at hw2 hari hlink
      have hstk : (F0 m pc ls (st.map (ax_tr b base))).stack = (((st.take r2).reverse).map (ax_tr b base)).reverse ++ (st.drop r2).map (ax_tr b base) := by
        show st.map (ax_tr b base) = _
        rw [← List.map_reverse, List.reverse_reverse, ← List.map_append, List.take_append_drop]
      have hnn : (((st.take r2).reverse).map (ax_tr b base)).length = r2 := by rw [List.length_map, List.length_reverse, List.length_take]; omega
      have hps : PreS s H (ax_Pc Ss (.methodLinkNest a9 i9 x9 h9) dC dI cy b base L xs (st.take r2).reverse M) (((st.take r2).reverse).map (ax_tr b base)) := ⟨ax_blind, hU⟩
      rcases hlink with hlink | ⟨n1, n2, n3, hh⟩
      · have hw3 : ∀ w ∈ ([.methodLink (ax_dy (T i)).cls idx (ax_dy (T r1)), .static (ax_dy (T r1)), .initialized (ax_dy (T r1)).cls] : List Cond), w ∈ ax_W := fun w h => by
          rcases List.mem_cons.mp h with rfl | h
          · exact hlink
          · exact hw2 w h
        cases hh : ax_dh (T r1) with
        | nil =>
          have hcw : ax_cw (T r1) = .code (ax_dy (T r1)) (ax_db (T r1)) (ax_dl (T r1)) (ax_dr (T r1)) := by unfold ax_cw; rw [hh]
          exact vx_runS (rest := (st.drop r2).map (ax_tr b base)) ⟨hxx, hb, hml, hown, hts⟩ hM (va_cwS r2 hts (ax_goodW hw3 hcwW) (by rw [hcw]) rfl rfl ⟨hmh.1, hmh.2, hari⟩ hR) hps rfl hnn hls hstk hws2 hd ⟨hRc, hRs⟩
        | cons h0 t0 =>
          have hcw : ax_cw (T r1) = .codeWith (ax_dy (T r1)) (ax_db (T r1)) (ax_dl (T r1)) (ax_dr (T r1)) (h0 :: t0) := by unfold ax_cw; rw [hh]
          exact vx_runSX (hh := h0 :: t0) (rest := (st.drop r2).map (ax_tr b base)) ⟨hxx, hb, hml, hown, hts⟩ hM (vx_cwSW r2 hts (ax_goodW hw3 hcwW) (by rw [hcw]) rfl rfl ⟨hmh.1, hmh.2, hari⟩ hR) hps rfl hnn hls hstk hws2 hd ⟨hRc, hRs⟩
      · obtain ⟨v, hv⟩ := hno (Or.inr n3)
        have hcw : ax_cw (T r1) = .code (ax_dy (T r1)) (ax_db (T r1)) (ax_dl (T r1)) (ax_dr (T r1)) := by unfold ax_cw; rw [hh]
        have hMm := ax_toMet hM (fun E st9 t h => by have := h.1.symm.trans hv; cases this)
        have hg0 : GoodIn ax_W ([] ++ ax_cw (T r1) :: ax_W) := ax_goodW (fun w h => by cases h) hcwW
        have hnl : va_Nw (.methodLinkNest (ax_dy (T i)).cls idx (ax_dy (T r1)) h9) s := by rw [n1, n2, n3]; exact hF.2.2.2.2.2.2.1
        have hrun := va_runSN (rest := (st.drop r2).map (ax_tr b base)) (As := ((st.take r2).reverse).map (ax_tr b base)) (p := p) (l := l) (e := e) (R := R) (s := s) (m := m) (args := args) (below := below) (meth := meth) (c := c) (H := H) (locs := locs) (cells := cells) (slots := slots) (g := F0 m pc ls (st.map (ax_tr b base))) ⟨hxx, hb, hml, hown, hts⟩ hMm
          ⟨va_cnB (host := h9) r2 hts hg0 (by rw [hcw]) rfl rfl hnl (hts _ (hw2 _ (by simp))) ⟨hmh.1, hmh.2, hari⟩ hR, hts _ (hw2 _ (by simp)), trivial⟩ hps rfl hnn hls hstk hws2 hd ⟨hRc, hRs⟩
        exact fun T9 hT9 X9 => Or.inl (hrun T9 hT9 X9)
    · cases hca
  · cases hca
end
end AXK
end
section
section AXR
variable {Ss : List (String × Nat × String)} {dC : Nat → ClassId} {dI : Nat → Nat → Nat} {cy : Nat → ClassId} {b base L : Nat} {xs : Nat → Int32} {T : Nat → ax_D} {a9 h9 : String} {i9 : Nat} {x9 : MethodName}
theorem ax_S_after {base : Nat} {s st0 t : State} {H : Heap} {locs L9 : List Loc} (hS : va_S (ax_A base) s.heap H locs) (h0 : st0.heap = H) (hF : va_F (ax_A base) st0 t) (hL : ∀ q ∈ L9, ax_A base q.base) : va_S (ax_A base) s.heap t.heap (locs ++ L9) := by
  obtain ⟨f1, f2⟩ := hF
  rw [h0] at f1 f2
  refine ⟨Nat.le_trans hS.1 f1, fun q h1 h2 => (f2 q (Nat.lt_of_lt_of_le h1 hS.1) h2).trans (hS.2.1 q h1 h2), fun q hq => ?_⟩
  rcases List.mem_append.mp hq with h | h
  · exact hS.2.2 q h
  · exact hL q h
theorem ax_P_call {d i pc j : Nat} {lv : List (Nat × Value)} {st as rest : List Value} {M : ax_M} {o1 o : ax_O} {x : ax_I} {v : Option Value} (hT : ∀ j, ax_okM Ss T a9 i9 x9 (T j)) (hx : (ax_dt (T i)).lookup pc = some x) (hca : ax_call x st = some (j, as, rest)) (hre : ax_recv T x as M)
    (hws : (rest.map fun v => v.category).sum ≤ 8) (hsl : (lg_sl as).length ≤ ax_dl (T j)) (k1 : ax_P Ss (.methodLinkNest a9 i9 x9 h9) dC dI cy b base L xs T d j 0 (lv_args 0 as) [] M o1) (hv : o1.1 = .inl v)
    (hsz : o1.2.1.2.2 = true → M.2.2 = true ∧ o1.2.1.1 = M.1 + o1.2.2.1) (k2 : ax_P Ss (.methodLinkNest a9 i9 x9 h9) dC dI cy b base L xs T (d + 1) i (pc + 3) lv (v.toList ++ rest) o1.2.1 o) :
    ax_P Ss (.methodLinkNest a9 i9 x9 h9) dC dI cy b base L xs T (d + 1) i pc lv st M (ax_add o o1.2.2.1 o1.2.2.2) := by
  intro p l e R s m args below meth c Qc XC MC MS cells slots hl X ht hlk hrt hin hRf hRl hRc hRs hMc hMs hE
  intro H locs ls hP hS hE2 hl2 T9 hT9 X9
  simp only [ax_add] at hRc hRs hMc hMs
  have hszH : M.2.2 = true → H.size ≤ base + M.1 := fun h => by
    have h1 := X9.heapSize
    have h2 := hE2 h
    rw [hT9] at h1
    omega
  rcases ax_run (h9 := h9) (p := p) (l := l) (e := e) (R := R) (s := s) (m := m) (args := args) (below := below) (meth := meth) (c := c) (H := H) (locs := locs) (cells := cells) (slots := slots) (ls := ls) hT hl X hx hca hre hws hsl (fun _ => ⟨v, hv⟩) k1 hP hS hszH hl2.1 (by omega) (by omega) (by omega) (by omega) T9 hT9 X9 with ⟨v', st0, t, T', L9, h0, X', hL, e1, e2, ⟨⟨v2, hv2, hret⟩, hF9, hP9⟩, go⟩ | ⟨q, st0, t, T', L9, E, ce, h0, X', hL, e1, e2, hxc, hce, hcv, hcl, stp⟩
  · have hvv : v2 = v := Sum.inl.inj (hv2.symm.trans hv)
    subst hvv
    cases hret
    obtain ⟨t2, a1, b1⟩ := k2 p l e R s m args below meth c Qc XC MC MS (cells + o1.2.2.1) (slots + o1.2.2.2) hl X ht hlk hrt hin hRf hRl (by omega) (by omega) (by omega) (by omega) hE T'.heap (locs ++ L9) ls (by rw [e1]; exact hP9) (by rw [e1]; exact ax_S_after hS h0 hF9 hL) (fun h => by have h1 := hsz h; have h2 := hE2 h1.1; omega) hl2 T' rfl X'
    refine ⟨t2, go t2 ?_, b1⟩
    have hst : ((v2.toList ++ rest).map (ax_tr b base)) = (v2.map (ax_tr b base)).toList ++ rest.map (ax_tr b base) := by cases v2 <;> rfl
    rw [hst] at a1
    exact a1
  · have := hxc.1.symm.trans hv
    cases this
theorem ax_P_out {d i pc j : Nat} {lv : List (Nat × Value)} {st as rest : List Value} {M : ax_M} {o1 : ax_O} {x : ax_I} {E : String} (hT : ∀ j, ax_okM Ss T a9 i9 x9 (T j)) (hx : (ax_dt (T i)).lookup pc = some x) (hca : ax_call x st = some (j, as, rest)) (hre : ax_recv T x as M)
    (hws : (rest.map fun v => v.category).sum ≤ 8) (hsl : (lg_sl as).length ≤ ax_dl (T j)) (k1 : ax_P Ss (.methodLinkNest a9 i9 x9 h9) dC dI cy b base L xs T d j 0 (lv_args 0 as) [] M o1) (hv : o1.1 = .inr E)
    (hni : (∀ n, x.1 ≠ .invokespecial n) ∧ ax_dy (T j) ≠ x9) (hdh : ax_dh (T i) = []) :
    ax_P Ss (.methodLinkNest a9 i9 x9 h9) dC dI cy b base L xs T (d + 1) i pc lv st M o1 := by
  intro p l e R s m args below meth c Qc XC MC MS cells slots hl X ht hlk hrt hin hRf hRl hRc hRs hMc hMs hE
  intro H locs ls hP hS hE2 hl2 T9 hT9 X9
  have hszH : M.2.2 = true → H.size ≤ base + M.1 := fun h => by
    have h1 := X9.heapSize
    have h2 := hE2 h
    rw [hT9] at h1
    omega
  rcases ax_run (h9 := h9) (p := p) (l := l) (e := e) (R := R) (s := s) (m := m) (args := args) (below := below) (meth := meth) (c := c) (H := H) (locs := locs) (cells := cells) (slots := slots) (ls := ls) hT hl X hx hca hre hws hsl (fun h => by rcases h with ⟨n, h⟩ | h; exact absurd h (hni.1 n); exact absurd h hni.2) k1 hP hS hszH hl2.1 (by omega) (by omega) (by omega) (by omega) T9 hT9 X9 with ⟨v', st0, t, T', L9, h0, X', hL, e1, e2, ⟨⟨v2, hv2, hret⟩, hF9, hP9⟩, go⟩ | ⟨q, st0, t, T', L9, E2, ce, h0, X', hL, e1, e2, ⟨hxc, hF9, hP9⟩, hce, hcv, hcl, stp⟩
  · have := hv2.symm.trans hv
    cases this
  · have hEE : E2 = E := Sum.inr.inj (hxc.symm.trans hv)
    subst hEE
    have hS9 : va_S (ax_A base) s.heap T'.heap (locs ++ L9) := by rw [e1]; exact ax_S_after hS h0 hF9 hL
    have hEnd : ∀ t' : State, s.vm.Alike t'.vm → va_F (ax_A base) s t' → va_P (dC, dI) vwCl (ax_L b base cy o1.2.1) t'.heap → XC E2 s t' := by
      unfold ax_End at hE
      rw [hv] at hE
      exact hE
    have hvx := vx_out (p := p) (l := l) (e := e) (R := R) (s := s) (m := m) (args := args) (below := below) (meth := meth) (c := c) (H := T'.heap) (locs := locs ++ L9) (cells := cells + o1.2.2.1) (slots := slots + o1.2.2.2) (Qc := Qc) (XC := XC) (mc := MC) (ms := MS) (free := ax_A base) (ls := ls) (rest := rest.map (ax_tr b base)) (pc := pc) (E := E2) (ce := ce) (q := q)
      (fun x h => by rw [ht, hdh] at h; cases h) hlk (by rw [e1]; exact hce) hcv hcl (fun t' h1 h2 => hEnd t' h2 (hS9.F h1) (by rw [h1, e1]; exact hP9)) hS9.2.2 (by omega) (by omega)
    obtain ⟨t2, a1, b1⟩ := hvx T' rfl X'
    exact ⟨t2, stp.trans a1, b1⟩
/-- the row of a table that takes an exception of class E at pc -/
def ax_hand : List (Nat × Nat × Nat × Nat) → List String → Nat → String → Option Nat
  | q :: t, nm :: ns, pc, E => if q.1 ≤ pc ∧ pc < q.2.1 ∧ nm = E then some q.2.2.1 else ax_hand t ns pc E
  | _, _, _, _ => none
theorem ax_hand_spec {ok : String → Nat × Nat × Nat × Nat → Prop} {pc hpc : Nat} {E : String} : ∀ (hh : List (Nat × Nat × Nat × Nat)) (ns : List String), (∀ (k : Nat) (q : Nat × Nat × Nat × Nat), hh[k]? = some q → ∃ nm, ns[k]? = some nm ∧ ok nm q) → ax_hand hh ns pc E = some hpc →
    ∃ pre q suf, hh = pre ++ q :: suf ∧ q.2.2.1 = hpc ∧ q.1 ≤ pc ∧ pc < q.2.1 ∧ ok E q ∧ ∀ z ∈ pre, ¬ (z.1 ≤ pc ∧ pc < z.2.1) ∨ ∃ nm, nm ≠ E ∧ ok nm z
  | [], ns, _, h => by simp [ax_hand] at h
  | q :: t, [], _, h => by simp [ax_hand] at h
  | q :: t, nm :: ns, hok, h => by
    obtain ⟨nm', hn1, hn2⟩ := hok 0 q rfl
    cases hn1
    unfold ax_hand at h
    split at h
    · rename_i hc
      cases h
      exact ⟨[], q, t, rfl, rfl, hc.1, hc.2.1, hc.2.2 ▸ hn2, fun z hz => by cases hz⟩
    · rename_i hc
      obtain ⟨pre, q2, suf, h1, h2, h3, h4, h5, h6⟩ := ax_hand_spec t ns (fun k q hq => hok (k + 1) q hq) h
      refine ⟨q :: pre, q2, suf, by rw [h1]; rfl, h2, h3, h4, h5, fun z hz => ?_⟩
      rcases List.mem_cons.mp hz with rfl | hz
      · by_cases hcov : z.1 ≤ pc ∧ pc < z.2.1
        · exact Or.inr ⟨nm, fun e => hc ⟨hcov.1, hcov.2, e⟩, hn2⟩
        · exact Or.inl hcov
      · exact h6 z hz
/-- a handler begins by putting the thrown object away -/
def ax_hst (x : ax_I) : Option Nat := match x.1 with
  | .astore_n i => some (i : Nat)
  | .astore i => some i
  | _ => none
def ax_drop (lv : List (Nat × Value)) (i : Nat) : List (Nat × Value) := lv.filter (fun q => !(q.1 == i) && !(q.1 + 1 == i && q.2.category == 2))
theorem ax_P_catch {d i pc j hpc jj : Nat} {lv : List (Nat × Value)} {st as rest : List Value} {M : ax_M} {o1 o : ax_O} {x x2 : ax_I} {E : String} (hT : ∀ j, ax_okM Ss T a9 i9 x9 (T j)) (hx : (ax_dt (T i)).lookup pc = some x) (hca : ax_call x st = some (j, as, rest)) (hre : ax_recv T x as M)
    (hws : (rest.map fun v => v.category).sum ≤ 8) (hsl : (lg_sl as).length ≤ ax_dl (T j)) (k1 : ax_P Ss (.methodLinkNest a9 i9 x9 h9) dC dI cy b base L xs T d j 0 (lv_args 0 as) [] M o1) (hv : o1.1 = .inr E) (hEx : E ∈ ax_Ex)
    (hni : (∀ n, x.1 ≠ .invokespecial n) ∧ ax_dy (T j) ≠ x9) (hhd : ax_hand (ax_dh (T i)) (ax_dn (T i)) pc E = some hpc) (hx2 : (ax_dt (T i)).lookup hpc = some x2) (hj : ax_hst x2 = some jj) (hjl : jj < ax_dl (T i))
    (hsz : o1.2.1.2.2 = true → M.2.2 = true ∧ o1.2.1.1 = M.1 + o1.2.2.1) (k2 : ax_P Ss (.methodLinkNest a9 i9 x9 h9) dC dI cy b base L xs T (d + 1) i (hpc + x2.2.1) (ax_drop lv jj) [] o1.2.1 o) :
    ax_P Ss (.methodLinkNest a9 i9 x9 h9) dC dI cy b base L xs T (d + 1) i pc lv st M (ax_add o o1.2.2.1 o1.2.2.2) := by
  intro p l e R s m args below meth c Qc XC MC MS cells slots hl X ht hlk hrt hin hRf hRl hRc hRs hMc hMs hE
  intro H locs ls hP hS hE2 hl2 T9 hT9 X9
  simp only [ax_add] at hRc hRs hMc hMs
  have hszH : M.2.2 = true → H.size ≤ base + M.1 := fun h => by
    have h1 := X9.heapSize
    have h2 := hE2 h
    rw [hT9] at h1
    omega
  rcases ax_run (h9 := h9) (p := p) (l := l) (e := e) (R := R) (s := s) (m := m) (args := args) (below := below) (meth := meth) (c := c) (H := H) (locs := locs) (cells := cells) (slots := slots) (ls := ls) hT hl X hx hca hre hws hsl (fun h => by rcases h with ⟨n, h⟩ | h; exact absurd h (hni.1 n); exact absurd h hni.2) k1 hP hS hszH hl2.1 (by omega) (by omega) (by omega) (by omega) T9 hT9 X9 with ⟨v', st0, t, T', L9, h0, X', hL, e1, e2, ⟨⟨v2, hv2, hret⟩, hF9, hP9⟩, go⟩ | ⟨q, st0, t, T', L9, E2, ce, h0, X', hL, e1, e2, ⟨hxc, hF9, hP9⟩, hce, hcv, hcl, stp⟩
  · have := hv2.symm.trans hv
    cases this
  · have hEE : E2 = E := Sum.inr.inj (hxc.symm.trans hv)
    subst hEE
    have hS9 : va_S (ax_A base) s.heap T'.heap (locs ++ L9) := by rw [e1]; exact ax_S_after hS h0 hF9 hL
    have X0 := X
    obtain ⟨hxx, hb, hml, hown, hts, hF⟩ := X
    obtain ⟨pre, q2, suf, h1, h2, h3, h4, ⟨h5a, h5b, h5c⟩, h6⟩ := ax_hand_spec (ok := fun nm q => nm ∈ ax_Ex ∧ q.2.2.2 ≠ 0 ∧ Cond.classLink (ax_dy (T i)).cls q.2.2.2 nm ∈ ax_W) (ax_dh (T i)) (ax_dn (T i)) (hT i).2.2.2.2.2.2 hhd
    have hsplit : c.exceptionTable.toList = tableOf pre ++ (⟨q2.1, q2.2.1, q2.2.2.1, q2.2.2.2⟩ : ExceptionTableEntry) :: tableOf suf := by
      rw [ht, h1]
      unfold tableOf
      rw [List.map_append, List.map_cons]
    have kk : W p l e R s m args below meth c T'.heap (locs ++ L9) (cells + o1.2.2.1) (slots + o1.2.2.2) (vx_MQ below Qc XC args s MC MS (ax_A base)) (F0 m hpc ls [.ref q]) := by
      have kv := k2 p l e R s m args below meth c Qc XC MC MS (cells + o1.2.2.1) (slots + o1.2.2.2) hl X0 ht hlk hrt hin hRf hRl (by omega) (by omega) (by omega) (by omega) hE
      have hsub : ∀ ls' : Array Slot, lv_has ls' (ax_dl (T i)) ((jj, Value.ref q) :: (ax_lv b base lv).filter (fun q => !(q.1 == jj) && !(q.1 + 1 == jj && q.2.category == 2))) → lv_has ls' (ax_dl (T i)) (ax_lv b base (ax_drop lv jj)) := by
        intro ls' h
        refine ⟨h.1, h.2.1, fun z hz => h.2.2 z (List.mem_cons_of_mem _ ?_)⟩
        have := ax_st1_tr b base lv jj (.int 0)
        have e9 : (ax_lv b base lv).filter (fun q => !(q.1 == jj) && !(q.1 + 1 == jj && q.2.category == 2)) = ax_lv b base (ax_drop lv jj) := (List.cons.inj this).2
        rw [e9]
        exact hz
      have fin : ∀ ls' : Array Slot, lv_has ls' (ax_dl (T i)) ((jj, Value.ref q) :: (ax_lv b base lv).filter (fun q => !(q.1 == jj) && !(q.1 + 1 == jj && q.2.category == 2))) → W p l e R s m args below meth c T'.heap (locs ++ L9) (cells + o1.2.2.1) (slots + o1.2.2.2) (vx_MQ below Qc XC args s MC MS (ax_A base)) (F0 m (hpc + x2.2.1) ls' []) :=
        fun ls' h => kv T'.heap (locs ++ L9) ls' (by rw [e1]; exact hP9) hS9 (fun h => by have h1 := hsz h; have h2 := hE2 h1.1; omega) (hsub ls' h)
      obtain ⟨hd2, -, hc2⟩ := ((hT i).2.2.2.2.1 hpc x2 hx2).1
      obtain ⟨ins, len, r1, r2, kc⟩ := x2
      simp only [ax_hst] at hj
      split at hj
      · have hlen : len = 1 := by simpa [ax_chk] using hc2
        subst hlen; cases hj
        exact lv_astore_n hxx hb hd2 rfl hl2 hjl rfl fin
      · have hlen : len = 2 := by simpa [ax_chk] using hc2
        subst hlen; cases hj
        exact lv_astore hxx hb hd2 hl2 hjl rfl fin
      · cases hj
    have hcov : covers (⟨q2.1, q2.2.1, q2.2.2.1, q2.2.2.2⟩ : ExceptionTableEntry) pc = true := by simp [covers, h3, h4]
    have hvx := ax_catch (p := p) (l := l) (e := e) (R := R) (s := s) (m := m) (args := args) (below := below) (meth := meth) (c := c) (H := T'.heap) (locs := locs ++ L9) (cells := cells + o1.2.2.1) (slots := slots + o1.2.2.2) (Q := vx_MQ below Qc XC args s MC MS (ax_A base)) (ls := ls) (rest := rest.map (ax_tr b base)) (pc := pc) (E := E2) (ce := ce) (q := q) (name := E2) hown (tableOf pre) ⟨q2.1, q2.2.1, q2.2.2.1, q2.2.2.2⟩ (tableOf suf) hsplit
      (fun z hz => by
        obtain ⟨w, hw1, rfl⟩ := List.mem_map.mp hz
        rcases h6 w hw1 with h | ⟨nm, hne, hn1, hn2, hn3⟩
        · exact Or.inl (by simpa [covers] using h)
        · exact Or.inr ⟨hn2, nm, hts _ hn3, hF.2.2.2.2.2.1 E2 hEx nm hn1 (fun e => hne e.symm)⟩)
      hcov h5b (hts _ h5c) (va_Nw.use rfl (hF.2.2.2.2.1.1 E2 hEx)) (by rw [e1]; exact hce) hcv hcl (by show W _ _ _ _ _ _ _ _ _ _ _ _ _ _ _ (F0 m q2.2.2.1 ls [.ref q]); rw [h2]; exact kk)
    obtain ⟨t2, a1, b1⟩ := hvx T' rfl X'
    exact ⟨t2, stp.trans a1, b1⟩
end AXR
end
section
section AXU
/-! THE PURE MACHINE'S RUNS, as the least relation that its rules close -/
abbrev ax_Q : Type := Nat → Nat → Nat → List (Nat × Value) → List Value → ax_M → ax_O → Prop
def ax_Cl (L : Nat) (xs : Nat → Int32) (T : Nat → ax_D) (x9 : MethodName) (P : ax_Q) : Prop :=
  (∀ (d i pc : Nat) (lv : List (Nat × Value)) (st : List Value) (M : ax_M) (o : ax_O) (x : ax_I) (r : ax_N), (ax_dt (T i)).lookup pc = some x → ax_s L xs (ax_dl (T i)) x pc lv st M = some r → P d i r.1 r.2.1 r.2.2.1 r.2.2.2.1 o → P d i pc lv st M (ax_add o r.2.2.2.2.1 r.2.2.2.2.2)) ∧
  (∀ (d i pc : Nat) (lv : List (Nat × Value)) (st : List Value) (M : ax_M) (x : ax_I) (v : Option Value), (ax_dt (T i)).lookup pc = some x → ax_ret (ax_dr (T i)) x st = some v → P d i pc lv st M (.inl v, M, 0, 0)) ∧
  (∀ (d i pc j : Nat) (lv : List (Nat × Value)) (st as rest : List Value) (M : ax_M) (o1 o : ax_O) (x : ax_I) (v : Option Value), (ax_dt (T i)).lookup pc = some x → ax_call x st = some (j, as, rest) → ax_recv T x as M → (rest.map fun v => v.category).sum ≤ 8 → (lg_sl as).length ≤ ax_dl (T j) → P d j 0 (lv_args 0 as) [] M o1 → o1.1 = .inl v →
    (o1.2.1.2.2 = true → M.2.2 = true ∧ o1.2.1.1 = M.1 + o1.2.2.1) → P (d + 1) i (pc + 3) lv (v.toList ++ rest) o1.2.1 o → P (d + 1) i pc lv st M (ax_add o o1.2.2.1 o1.2.2.2)) ∧
  (∀ (d i pc j : Nat) (lv : List (Nat × Value)) (st as rest : List Value) (M : ax_M) (o1 : ax_O) (x : ax_I) (E : String), (ax_dt (T i)).lookup pc = some x → ax_call x st = some (j, as, rest) → ax_recv T x as M → (rest.map fun v => v.category).sum ≤ 8 → (lg_sl as).length ≤ ax_dl (T j) → P d j 0 (lv_args 0 as) [] M o1 → o1.1 = .inr E →
    ((∀ n, x.1 ≠ .invokespecial n) ∧ ax_dy (T j) ≠ x9) → ax_dh (T i) = [] → P (d + 1) i pc lv st M o1) ∧
  (∀ (d i pc j hpc jj : Nat) (lv : List (Nat × Value)) (st as rest : List Value) (M : ax_M) (o1 o : ax_O) (x x2 : ax_I) (E : String), (ax_dt (T i)).lookup pc = some x → ax_call x st = some (j, as, rest) → ax_recv T x as M → (rest.map fun v => v.category).sum ≤ 8 → (lg_sl as).length ≤ ax_dl (T j) → P d j 0 (lv_args 0 as) [] M o1 → o1.1 = .inr E → E ∈ ax_Ex →
    ((∀ n, x.1 ≠ .invokespecial n) ∧ ax_dy (T j) ≠ x9) → ax_hand (ax_dh (T i)) (ax_dn (T i)) pc E = some hpc → (ax_dt (T i)).lookup hpc = some x2 → ax_hst x2 = some jj → jj < ax_dl (T i) → (o1.2.1.2.2 = true → M.2.2 = true ∧ o1.2.1.1 = M.1 + o1.2.2.1) →
    P (d + 1) i (hpc + x2.2.1) (ax_drop lv jj) [] o1.2.1 o → P (d + 1) i pc lv st M (ax_add o o1.2.2.1 o1.2.2.2)) ∧
  ∀ (d i pc : Nat) (lv : List (Nat × Value)) (st : List Value) (M : ax_M) (cls text : String) (ik is ic : Nat) (wide : Bool), (ax_dx (T i)).lookup pc = some (cls, text, ik, is, ic, wide) → (st.map fun v => v.category).sum ≤ 30 → P d i pc lv st M (.inr cls, (M.1, M.2.1, false), 1, 6)
def ax_R (L : Nat) (xs : Nat → Int32) (T : Nat → ax_D) (x9 : MethodName) (d i pc : Nat) (lv : List (Nat × Value)) (st : List Value) (M : ax_M) (o : ax_O) : Prop := ∀ P : ax_Q, ax_Cl L xs T x9 P → P d i pc lv st M o
/-- EVERY PURE RUN IS THE MACHINE'S -/
theorem ax_sound {Ss : List (String × Nat × String)} {dC : Nat → ClassId} {dI : Nat → Nat → Nat} {cy : Nat → ClassId} {b base L : Nat} {xs : Nat → Int32} {T : Nat → ax_D} {a9 h9 : String} {i9 : Nat} {x9 : MethodName} (hT : ∀ j, ax_okM Ss T a9 i9 x9 (T j)) {d i pc : Nat} {lv : List (Nat × Value)} {st : List Value} {M : ax_M} {o : ax_O}
    (h : ax_R L xs T x9 d i pc lv st M o) : ax_P Ss (.methodLinkNest a9 i9 x9 h9) dC dI cy b base L xs T d i pc lv st M o :=
  h (fun d i pc lv st M o => ax_P Ss (.methodLinkNest a9 i9 x9 h9) dC dI cy b base L xs T d i pc lv st M o)
    ⟨fun _ _ _ _ _ _ _ _ _ h1 h2 h3 => ax_P_step hT h1 h2 h3, fun _ _ _ _ _ _ _ _ h1 h2 => ax_P_ret hT h1 h2,
      fun _ _ _ _ _ _ _ _ _ _ _ _ _ h1 h2 h3 h4 h5 h6 h7 h8 h10 => ax_P_call hT h1 h2 h3 h4 h5 h6 h7 h8 h10, fun _ _ _ _ _ _ _ _ _ _ _ _ h1 h2 h3 h4 h5 h6 h7 h8 h10 => ax_P_out hT h1 h2 h3 h4 h5 h6 h7 h8 h10,
      fun _ _ _ _ _ _ _ _ _ _ _ _ _ _ _ _ h1 h2 h3 h4 h5 h6 h7 h8 h10 h11 h12 h13 h14 h15 h16 => ax_P_catch hT h1 h2 h3 h4 h5 h6 h7 h8 h10 h11 h12 h13 h14 h15 h16,
      fun _ _ _ _ _ _ _ _ _ _ _ _ h1 h2 => ax_P_throw hT h1 h2⟩
variable {L : Nat} {xs : Nat → Int32} {T : Nat → ax_D} {x9 : MethodName} {d i pc : Nat} {lv lv' : List (Nat × Value)} {st st' : List Value} {M M' : ax_M} {o : ax_O} {x : ax_I}
theorem ax_R.step {r : ax_N} (h1 : (ax_dt (T i)).lookup pc = some x) (h2 : ax_s L xs (ax_dl (T i)) x pc lv st M = some r) (k : ax_R L xs T x9 d i r.1 r.2.1 r.2.2.1 r.2.2.2.1 o) : ax_R L xs T x9 d i pc lv st M (ax_add o r.2.2.2.2.1 r.2.2.2.2.2) := fun P hP => hP.1 _ _ _ _ _ _ _ _ _ h1 h2 (k P hP)
theorem ax_add0 (o : ax_O) : ax_add o 0 0 = o := by
  unfold ax_add
  rw [Nat.zero_add, Nat.zero_add]
theorem ax_R.s {pc' : Nat} (h1 : (ax_dt (T i)).lookup pc = some x) (h2 : ax_s L xs (ax_dl (T i)) x pc lv st M = some (pc', lv', st', M', 0, 0)) (k : ax_R L xs T x9 d i pc' lv' st' M' o) : ax_R L xs T x9 d i pc lv st M o := by
  have := ax_R.step h1 h2 k
  rw [ax_add0] at this
  exact this
theorem ax_R.ret {v : Option Value} (h1 : (ax_dt (T i)).lookup pc = some x) (h2 : ax_ret (ax_dr (T i)) x st = some v) : ax_R L xs T x9 d i pc lv st M (.inl v, M, 0, 0) := fun _ hP => hP.2.1 _ _ _ _ _ _ _ _ h1 h2
theorem ax_R.call {j c1 s1 : Nat} {as rest : List Value} {v : Option Value} (h1 : (ax_dt (T i)).lookup pc = some x) (h2 : ax_call x st = some (j, as, rest)) (h3 : ax_recv T x as M) (h4 : (rest.map fun v => v.category).sum ≤ 8) (h5 : (lg_sl as).length ≤ ax_dl (T j))
    (k1 : ax_R L xs T x9 d j 0 (lv_args 0 as) [] M (.inl v, M', c1, s1)) (h8 : M'.2.2 = true → M.2.2 = true ∧ M'.1 = M.1 + c1) (k2 : ax_R L xs T x9 (d + 1) i (pc + 3) lv (v.toList ++ rest) M' o) : ax_R L xs T x9 (d + 1) i pc lv st M (ax_add o c1 s1) :=
  fun P hP => hP.2.2.1 _ _ _ _ _ _ _ _ _ _ _ _ _ h1 h2 h3 h4 h5 (k1 P hP) rfl h8 (k2 P hP)
/-- a call that makes nothing -/
theorem ax_R.c {j : Nat} {as rest : List Value} {v : Option Value} (h1 : (ax_dt (T i)).lookup pc = some x) (h2 : ax_call x st = some (j, as, rest)) (h3 : ax_recv T x as M) (h4 : (rest.map fun v => v.category).sum ≤ 8) (h5 : (lg_sl as).length ≤ ax_dl (T j))
    (k1 : ax_R L xs T x9 d j 0 (lv_args 0 as) [] M (.inl v, M', 0, 0)) (h8 : M'.1 = M.1 ∧ M'.2.2 = M.2.2) (k2 : ax_R L xs T x9 (d + 1) i (pc + 3) lv (v.toList ++ rest) M' o) : ax_R L xs T x9 (d + 1) i pc lv st M o := by
  have := ax_R.call h1 h2 h3 h4 h5 k1 (fun h => ⟨by rw [← h8.2]; exact h, h8.1⟩) k2
  rw [ax_add0] at this
  exact this
theorem ax_R.out {j c1 s1 : Nat} {as rest : List Value} {E : String} (h1 : (ax_dt (T i)).lookup pc = some x) (h2 : ax_call x st = some (j, as, rest)) (h3 : ax_recv T x as M) (h4 : (rest.map fun v => v.category).sum ≤ 8) (h5 : (lg_sl as).length ≤ ax_dl (T j))
    (k1 : ax_R L xs T x9 d j 0 (lv_args 0 as) [] M (.inr E, M', c1, s1)) (h8 : (∀ n, x.1 ≠ .invokespecial n) ∧ ax_dy (T j) ≠ x9) (h10 : ax_dh (T i) = []) : ax_R L xs T x9 (d + 1) i pc lv st M (.inr E, M', c1, s1) :=
  fun P hP => hP.2.2.2.1 _ _ _ _ _ _ _ _ _ _ _ _ h1 h2 h3 h4 h5 (k1 P hP) rfl h8 h10
theorem ax_R.catch_ {j c1 s1 hpc jj : Nat} {as rest : List Value} {x2 : ax_I} {E : String} (h1 : (ax_dt (T i)).lookup pc = some x) (h2 : ax_call x st = some (j, as, rest)) (h3 : ax_recv T x as M) (h4 : (rest.map fun v => v.category).sum ≤ 8) (h5 : (lg_sl as).length ≤ ax_dl (T j))
    (k1 : ax_R L xs T x9 d j 0 (lv_args 0 as) [] M (.inr E, M', c1, s1)) (h7 : E ∈ ax_Ex) (h8 : (∀ n, x.1 ≠ .invokespecial n) ∧ ax_dy (T j) ≠ x9) (h9 : ax_hand (ax_dh (T i)) (ax_dn (T i)) pc E = some hpc) (h10 : (ax_dt (T i)).lookup hpc = some x2) (h11 : ax_hst x2 = some jj) (h12 : jj < ax_dl (T i))
    (h13 : M'.2.2 = true → M.2.2 = true ∧ M'.1 = M.1 + c1) (k2 : ax_R L xs T x9 (d + 1) i (hpc + x2.2.1) (ax_drop lv jj) [] M' o) : ax_R L xs T x9 (d + 1) i pc lv st M (ax_add o c1 s1) :=
  fun P hP => hP.2.2.2.2.1 _ _ _ _ _ _ _ _ _ _ _ _ _ _ _ _ h1 h2 h3 h4 h5 (k1 P hP) rfl h7 h8 h9 h10 h11 h12 h13 (k2 P hP)
theorem ax_R.throw_ {cls text : String} {ik is ic : Nat} {wide : Bool} (h1 : (ax_dx (T i)).lookup pc = some (cls, text, ik, is, ic, wide)) (h2 : (st.map fun v => v.category).sum ≤ 30) : ax_R L xs T x9 d i pc lv st M (.inr cls, (M.1, M.2.1, false), 1, 6) :=
  fun P hP => hP.2.2.2.2.2 _ _ _ _ _ _ _ _ _ _ _ _ h1 h2
end AXU
end
section
section AXTB
def at_X0_init : List (Nat × ax_I) := [(0, .aload_n 0, 1, 0, 0, 0), (1, .invokespecial 3, 3, 901, 0, 0), (4, .aload_n 0, 1, 0, 0, 0), (5, .sipush 256, 3, 0, 0, 0), (8, .newarray .int, 2, 0, 0, 0), (10, .putfield 11, 3, 0, 0, 0), (13, .aload_n 0, 1, 0, 0, 0), (14, .iload_n 1, 1, 0, 0, 0), (15, .iconst 0, 1, 0, 0, 0), (16, .invokestatic 15, 3, 900, 0, 0), (19, .newarray .int, 2, 0, 0, 0), (21, .putfield 21, 3, 0, 1, 0), (24, .return_, 1, 0, 0, 0)]
def aD_X0_init : ax_D := (yX0_init, cX0_init, 2, none, [], [], at_X0_init, [])
def at_X0_forget : List (Nat × ax_I) := [(0, .aload_n 0, 1, 0, 0, 0), (1, .getfield 11, 3, 0, 0, 0), (4, .iconst (-1), 1, 0, 0, 0), (5, .invokestatic 24, 3, 220, 2, 0), (8, .return_, 1, 0, 0, 0)]
def aD_X0_forget : ax_D := (yX0_forget, cX0_forget, 1, none, [], [], at_X0_forget, [])
def at_X0_first : List (Nat × ax_I) := [(0, .aload_n 0, 1, 0, 0, 0), (1, .getfield 11, 3, 0, 0, 0), (4, .iload_n 1, 1, 0, 0, 0), (5, .invokestatic 30, 3, 5, 1, 0), (8, .iaload, 1, 0, 0, 0), (9, .ireturn, 1, 0, 0, 0)]
def aD_X0_first : ax_D := (yX0_first, cX0_first, 2, (some .int), [], [], at_X0_first, [])
def at_X0_after : List (Nat × ax_I) := [(0, .iload_n 1, 1, 0, 0, 0), (1, .ifCond .lt 21, 3, 0, 0, 0), (4, .iload_n 1, 1, 0, 0, 0), (5, .aload_n 0, 1, 0, 0, 0), (6, .getfield 21, 3, 0, 1, 0), (9, .arraylength, 1, 0, 0, 0), (10, .if_icmp .ge 12, 3, 0, 0, 0), (13, .aload_n 0, 1, 0, 0, 0), (14, .getfield 21, 3, 0, 1, 0), (17, .iload_n 1, 1, 0, 0, 0), (18, .iaload, 1, 0, 0, 0), (19, .goto 4, 3, 0, 0, 0), (22, .iconst (-1), 1, 0, 0, 0), (23, .ireturn, 1, 0, 0, 0)]
def aD_X0_after : ax_D := (yX0_after, cX0_after, 2, (some .int), [], [], at_X0_after, [])
def at_X0_add : List (Nat × ax_I) := [(0, .iload_n 2, 1, 0, 0, 0), (1, .ifCond .lt 36, 3, 0, 0, 0), (4, .iload_n 2, 1, 0, 0, 0), (5, .aload_n 0, 1, 0, 0, 0), (6, .getfield 21, 3, 0, 1, 0), (9, .arraylength, 1, 0, 0, 0), (10, .if_icmp .ge 27, 3, 0, 0, 0), (13, .iload_n 1, 1, 0, 0, 0), (14, .invokestatic 30, 3, 5, 1, 0), (17, .istore_n 3, 1, 0, 0, 0), (18, .aload_n 0, 1, 0, 0, 0), (19, .getfield 21, 3, 0, 1, 0), (22, .iload_n 2, 1, 0, 0, 0), (23, .aload_n 0, 1, 0, 0, 0), (24, .getfield 11, 3, 0, 0, 0), (27, .iload_n 3, 1, 0, 0, 0), (28, .iaload, 1, 0, 0, 0), (29, .iastore, 1, 0, 0, 0), (30, .aload_n 0, 1, 0, 0, 0), (31, .getfield 11, 3, 0, 0, 0), (34, .iload_n 3, 1, 0, 0, 0), (35, .iload_n 2, 1, 0, 0, 0), (36, .iastore, 1, 0, 0, 0), (37, .return_, 1, 0, 0, 0)]
def aD_X0_add : ax_D := (yX0_add, cX0_add, 4, none, [], [], at_X0_add, [])
def at_X0_bucket : List (Nat × ax_I) := [(0, .iload_n 0, 1, 0, 0, 0), (1, .iload_n 0, 1, 0, 0, 0), (2, .bipush 8, 2, 0, 0, 0), (4, .iushr, 1, 0, 0, 0), (5, .ixor, 1, 0, 0, 0), (6, .iload_n 0, 1, 0, 0, 0), (7, .bipush 16, 2, 0, 0, 0), (9, .iushr, 1, 0, 0, 0), (10, .ixor, 1, 0, 0, 0), (11, .sipush 255, 3, 0, 0, 0), (14, .iand, 1, 0, 0, 0), (15, .ireturn, 1, 0, 0, 0)]
def aD_X0_bucket : ax_D := (yX0_bucket, cX0_bucket, 1, (some .int), [], [], at_X0_bucket, [])
def at_X1_init : List (Nat × ax_I) := [(0, .aload_n 0, 1, 0, 0, 0), (1, .invokespecial 3, 3, 901, 0, 0), (4, .aload_n 0, 1, 0, 0, 0), (5, .new 9, 3, 5, 0, 0), (8, .dup, 1, 0, 0, 0), (9, .iconst 0, 1, 0, 0, 0), (10, .invokespecial 11, 3, 52, 1, 0), (13, .putfield 14, 3, 1, 6, 0), (16, .return_, 1, 0, 0, 0)]
def aD_X1_init : ax_D := (yX1_init, cX1_init, 1, none, [], [], at_X1_init, [])
def at_X1_over : List (Nat × ax_I) := [(0, .aload_n 0, 1, 0, 0, 0), (1, .aload_n 1, 1, 0, 0, 0), (2, .iload_n 2, 1, 0, 0, 0), (3, .invokevirtual 20, 3, 51, 1, 0), (6, .putfield 14, 3, 1, 6, 0), (9, .aload_n 0, 1, 0, 0, 0), (10, .iload_n 2, 1, 0, 0, 0), (11, .putfield 26, 3, 1, 5, 0), (14, .aload_n 0, 1, 0, 0, 0), (15, .iload_n 3, 1, 0, 0, 0), (16, .putfield 30, 3, 1, 0, 0), (19, .aload_n 0, 1, 0, 0, 0), (20, .iload 4, 2, 0, 0, 0), (22, .putfield 33, 3, 1, 1, 0), (25, .return_, 1, 0, 0, 0)]
def aD_X1_over : ax_D := (yX1_over, cX1_over, 5, none, [], [], at_X1_over, [])
def at_X1_forgetFault : List (Nat × ax_I) := [(0, .aload_n 0, 1, 0, 0, 0), (1, .iconst 0, 1, 0, 0, 0), (2, .putfield 36, 3, 1, 2, 0), (5, .aload_n 0, 1, 0, 0, 0), (6, .iconst 0, 1, 0, 0, 0), (7, .putfield 39, 3, 1, 3, 0), (10, .aload_n 0, 1, 0, 0, 0), (11, .iconst 0, 1, 0, 0, 0), (12, .putfield 42, 3, 1, 4, 0), (15, .return_, 1, 0, 0, 0)]
def aD_X1_forgetFault : ax_D := (yX1_forgetFault, cX1_forgetFault, 1, none, [], [], at_X1_forgetFault, [])
def at_X1_refuse : List (Nat × ax_I) := [(0, .aload_n 0, 1, 0, 0, 0), (1, .iload_n 1, 1, 0, 0, 0), (2, .putfield 36, 3, 1, 2, 0), (5, .aload_n 0, 1, 0, 0, 0), (6, .aload_n 0, 1, 0, 0, 0), (7, .getfield 26, 3, 1, 5, 0), (10, .putfield 39, 3, 1, 3, 0), (13, .aload_n 0, 1, 0, 0, 0), (14, .iload_n 2, 1, 0, 0, 0), (15, .putfield 42, 3, 1, 4, 0)]
def aD_X1_refuse : ax_D := (yX1_refuse, cX1_refuse, 3, none, [], [], at_X1_refuse, [(18, "java/lang/IllegalStateException", "the sections are wrong", 45, 47, 49, false)])
def at_X1_lowFirst : List (Nat × ax_I) := [(0, .aload_n 0, 1, 0, 0, 0), (1, .getfield 33, 3, 1, 1, 0), (4, .aload_n 0, 1, 0, 0, 0), (5, .getfield 30, 3, 1, 0, 0), (8, .isub, 1, 0, 0, 0), (9, .iload_n 1, 1, 0, 0, 0), (10, .if_icmp .ge 12, 3, 0, 0, 0), (13, .aload_n 0, 1, 0, 0, 0), (14, .iconst 1, 1, 0, 0, 0), (15, .aload_n 0, 1, 0, 0, 0), (16, .getfield 33, 3, 1, 1, 0), (19, .invokevirtual 52, 3, 9, 2, 0), (22, .lconst 0, 1, 0, 0, 0), (23, .lstore_n 2, 1, 0, 0, 0), (24, .iconst 0, 1, 0, 0, 0), (25, .istore 4, 2, 0, 0, 0), (27, .iload 4, 2, 0, 0, 0), (29, .iload_n 1, 1, 0, 0, 0), (30, .if_icmp .ge 33, 3, 0, 0, 0), (33, .lload_n 2, 1, 0, 0, 0), (34, .aload_n 0, 1, 0, 0, 0), (35, .getfield 14, 3, 1, 6, 0), (38, .aload_n 0, 1, 0, 0, 0), (39, .getfield 30, 3, 1, 0, 0), (42, .iload 4, 2, 0, 0, 0), (44, .iadd, 1, 0, 0, 0), (45, .invokevirtual 56, 3, 56, 1, 0), (48, .i2l, 1, 0, 0, 0), (49, .bipush 8, 2, 0, 0, 0), (51, .iload 4, 2, 0, 0, 0), (53, .imul, 1, 0, 0, 0), (54, .lshl, 1, 0, 0, 0), (55, .lor, 1, 0, 0, 0), (56, .lstore_n 2, 1, 0, 0, 0), (57, .iinc 4 1, 3, 0, 0, 0), (60, .goto (-33), 3, 0, 0, 0), (63, .aload_n 0, 1, 0, 0, 0), (64, .dup, 1, 0, 0, 0), (65, .getfield 30, 3, 1, 0, 0), (68, .iload_n 1, 1, 0, 0, 0), (69, .iadd, 1, 0, 0, 0), (70, .putfield 30, 3, 1, 0, 0), (73, .lload_n 2, 1, 0, 0, 0), (74, .lreturn, 1, 0, 0, 0)]
def aD_X1_lowFirst : ax_D := (yX1_lowFirst, cX1_lowFirst, 5, (some .long), [], [], at_X1_lowFirst, [])
def at_X1_row : List (Nat × ax_I) := [(0, .aload_n 0, 1, 0, 0, 0), (1, .getfield 30, 3, 1, 0, 0), (4, .istore_n 2, 1, 0, 0, 0), (5, .lconst 0, 1, 0, 0, 0), (6, .lstore_n 3, 1, 0, 0, 0), (7, .iconst 0, 1, 0, 0, 0), (8, .istore 5, 2, 0, 0, 0), (10, .iload 5, 2, 0, 0, 0), (12, .bipush 10, 2, 0, 0, 0), (14, .if_icmp .ge 162, 3, 0, 0, 0), (17, .aload_n 0, 1, 0, 0, 0), (18, .getfield 30, 3, 1, 0, 0), (21, .aload_n 0, 1, 0, 0, 0), (22, .getfield 33, 3, 1, 1, 0), (25, .if_icmp .lt 12, 3, 0, 0, 0), (28, .aload_n 0, 1, 0, 0, 0), (29, .iconst 1, 1, 0, 0, 0), (30, .aload_n 0, 1, 0, 0, 0), (31, .getfield 33, 3, 1, 1, 0), (34, .invokevirtual 52, 3, 9, 2, 0), (37, .aload_n 0, 1, 0, 0, 0), (38, .getfield 14, 3, 1, 6, 0), (41, .aload_n 0, 1, 0, 0, 0), (42, .getfield 30, 3, 1, 0, 0), (45, .invokevirtual 56, 3, 56, 1, 0), (48, .istore 6, 2, 0, 0, 0), (50, .aload_n 0, 1, 0, 0, 0), (51, .dup, 1, 0, 0, 0), (52, .getfield 30, 3, 1, 0, 0), (55, .iconst 1, 1, 0, 0, 0), (56, .iadd, 1, 0, 0, 0), (57, .putfield 30, 3, 1, 0, 0), (60, .iload 5, 2, 0, 0, 0), (62, .bipush 9, 2, 0, 0, 0), (64, .if_icmp .ne 7, 3, 0, 0, 0), (67, .iconst 1, 1, 0, 0, 0), (68, .goto 4, 3, 0, 0, 0), (71, .iconst 0, 1, 0, 0, 0), (72, .istore 7, 2, 0, 0, 0), (74, .iload 7, 2, 0, 0, 0), (76, .ifCond .eq 25, 3, 0, 0, 0), (79, .iload 6, 2, 0, 0, 0), (81, .ifCond .eq 20, 3, 0, 0, 0), (84, .iload_n 1, 1, 0, 0, 0), (85, .ifCond .eq 10, 3, 0, 0, 0), (88, .iload 6, 2, 0, 0, 0), (90, .bipush 127, 2, 0, 0, 0), (92, .if_icmp .eq 9, 3, 0, 0, 0), (95, .aload_n 0, 1, 0, 0, 0), (96, .iconst 4, 1, 0, 0, 0), (97, .iload_n 2, 1, 0, 0, 0), (98, .invokevirtual 52, 3, 9, 2, 0), (101, .lload_n 3, 1, 0, 0, 0), (102, .iload 6, 2, 0, 0, 0), (104, .bipush 127, 2, 0, 0, 0), (106, .iand, 1, 0, 0, 0), (107, .i2l, 1, 0, 0, 0), (108, .bipush 7, 2, 0, 0, 0), (110, .iload 5, 2, 0, 0, 0), (112, .imul, 1, 0, 0, 0), (113, .lshl, 1, 0, 0, 0), (114, .lor, 1, 0, 0, 0), (115, .lstore_n 3, 1, 0, 0, 0), (116, .iload 6, 2, 0, 0, 0), (118, .sipush 128, 3, 0, 0, 0), (121, .if_icmp .ge 49, 3, 0, 0, 0), (124, .iload_n 1, 1, 0, 0, 0), (125, .ifCond .eq 14, 3, 0, 0, 0), (128, .iload 6, 2, 0, 0, 0), (130, .bipush 64, 2, 0, 0, 0), (132, .if_icmp .lt 7, 3, 0, 0, 0), (135, .iconst 1, 1, 0, 0, 0), (136, .goto 4, 3, 0, 0, 0), (139, .iconst 0, 1, 0, 0, 0), (140, .istore 8, 2, 0, 0, 0), (142, .iload 8, 2, 0, 0, 0), (144, .ifCond .eq 24, 3, 0, 0, 0), (147, .iload 7, 2, 0, 0, 0), (149, .ifCond .ne 19, 3, 0, 0, 0), (152, .lload_n 3, 1, 0, 0, 0), (153, .ldc2_w 59, 3, 0, 0, (-1)), (156, .bipush 7, 2, 0, 0, 0), (158, .iload 5, 2, 0, 0, 0), (160, .iconst 1, 1, 0, 0, 0), (161, .iadd, 1, 0, 0, 0), (162, .imul, 1, 0, 0, 0), (163, .lshl, 1, 0, 0, 0), (164, .lor, 1, 0, 0, 0), (165, .goto 4, 3, 0, 0, 0), (168, .lload_n 3, 1, 0, 0, 0), (169, .lreturn, 1, 0, 0, 0), (170, .iinc 5 1, 3, 0, 0, 0), (173, .goto (-163), 3, 0, 0, 0), (176, .lload_n 3, 1, 0, 0, 0), (177, .lreturn, 1, 0, 0, 0)]
def aD_X1_row : ax_D := (yX1_row, cX1_row, 9, (some .long), [], [], at_X1_row, [])
def at_X1_smallRow : List (Nat × ax_I) := [(0, .aload_n 0, 1, 0, 0, 0), (1, .getfield 30, 3, 1, 0, 0), (4, .istore_n 1, 1, 0, 0, 0), (5, .aload_n 0, 1, 0, 0, 0), (6, .iconst 0, 1, 0, 0, 0), (7, .invokevirtual 61, 3, 11, 1, 0), (10, .lstore_n 2, 1, 0, 0, 0), (11, .lload_n 2, 1, 0, 0, 0), (12, .ldc2_w 65, 3, 0, 0, 2147483647), (15, .lcmp, 1, 0, 0, 0), (16, .ifCond .le 9, 3, 0, 0, 0), (19, .aload_n 0, 1, 0, 0, 0), (20, .iconst 4, 1, 0, 0, 0), (21, .iload_n 1, 1, 0, 0, 0), (22, .invokevirtual 52, 3, 9, 2, 0), (25, .lload_n 2, 1, 0, 0, 0), (26, .l2i, 1, 0, 0, 0), (27, .ireturn, 1, 0, 0, 0)]
def aD_X1_smallRow : ax_D := (yX1_smallRow, cX1_smallRow, 4, (some .int), [], [], at_X1_smallRow, [])
def at_X1_textLength : List (Nat × ax_I) := [(0, .aload_n 0, 1, 0, 0, 0), (1, .getfield 30, 3, 1, 0, 0), (4, .istore_n 1, 1, 0, 0, 0), (5, .aload_n 0, 1, 0, 0, 0), (6, .getfield 14, 3, 1, 6, 0), (9, .iload_n 1, 1, 0, 0, 0), (10, .aload_n 0, 1, 0, 0, 0), (11, .getfield 33, 3, 1, 1, 0), (14, .invokevirtual 67, 3, 68, 2, 0), (17, .istore_n 2, 1, 0, 0, 0), (18, .iload_n 2, 1, 0, 0, 0), (19, .iconst (-1), 1, 0, 0, 0), (20, .if_icmp .ne 12, 3, 0, 0, 0), (23, .aload_n 0, 1, 0, 0, 0), (24, .iconst 1, 1, 0, 0, 0), (25, .aload_n 0, 1, 0, 0, 0), (26, .getfield 33, 3, 1, 1, 0), (29, .invokevirtual 52, 3, 9, 2, 0), (32, .aload_n 0, 1, 0, 0, 0), (33, .iload_n 2, 1, 0, 0, 0), (34, .iconst 1, 1, 0, 0, 0), (35, .iadd, 1, 0, 0, 0), (36, .putfield 30, 3, 1, 0, 0), (39, .iload_n 2, 1, 0, 0, 0), (40, .iload_n 1, 1, 0, 0, 0), (41, .isub, 1, 0, 0, 0), (42, .ireturn, 1, 0, 0, 0)]
def aD_X1_textLength : ax_D := (yX1_textLength, cX1_textLength, 3, (some .int), [], [], at_X1_textLength, [])
def at_X1_skip : List (Nat × ax_I) := [(0, .aload_n 0, 1, 0, 0, 0), (1, .getfield 33, 3, 1, 1, 0), (4, .aload_n 0, 1, 0, 0, 0), (5, .getfield 30, 3, 1, 0, 0), (8, .isub, 1, 0, 0, 0), (9, .iload_n 1, 1, 0, 0, 0), (10, .if_icmp .ge 12, 3, 0, 0, 0), (13, .aload_n 0, 1, 0, 0, 0), (14, .iconst 1, 1, 0, 0, 0), (15, .aload_n 0, 1, 0, 0, 0), (16, .getfield 33, 3, 1, 1, 0), (19, .invokevirtual 52, 3, 9, 2, 0), (22, .aload_n 0, 1, 0, 0, 0), (23, .dup, 1, 0, 0, 0), (24, .getfield 30, 3, 1, 0, 0), (27, .iload_n 1, 1, 0, 0, 0), (28, .iadd, 1, 0, 0, 0), (29, .putfield 30, 3, 1, 0, 0), (32, .return_, 1, 0, 0, 0)]
def aD_X1_skip : ax_D := (yX1_skip, cX1_skip, 2, none, [], [], at_X1_skip, [])
def at_X2_isText : List (Nat × ax_I) := [(0, .iload_n 0, 1, 0, 0, 0), (1, .bipush 8, 2, 0, 0, 0), (3, .if_icmp .eq 9, 3, 0, 0, 0), (6, .iload_n 0, 1, 0, 0, 0), (7, .bipush 14, 2, 0, 0, 0), (9, .if_icmp .ne 7, 3, 0, 0, 0), (12, .iconst 1, 1, 0, 0, 0), (13, .goto 4, 3, 0, 0, 0), (16, .iconst 0, 1, 0, 0, 0), (17, .ireturn, 1, 0, 0, 0)]
def aD_X2_isText : ax_D := (yX2_isText, cX2_isText, 1, (some .boolean), [], [], at_X2_isText, [])
def at_X2_isLetters : List (Nat × ax_I) := [(0, .iload_n 0, 1, 0, 0, 0), (1, .invokestatic 9, 3, 15, 1, 0), (4, .ifCond .ne 9, 3, 0, 0, 0), (7, .iload_n 0, 1, 0, 0, 0), (8, .bipush 10, 2, 0, 0, 0), (10, .if_icmp .ne 7, 3, 0, 0, 0), (13, .iconst 1, 1, 0, 0, 0), (14, .goto 4, 3, 0, 0, 0), (17, .iconst 0, 1, 0, 0, 0), (18, .ireturn, 1, 0, 0, 0)]
def aD_X2_isLetters : ax_D := (yX2_isLetters, cX2_isLetters, 1, (some .boolean), [], [], at_X2_isLetters, [])
def at_X2_isReference : List (Nat × ax_I) := [(0, .iload_n 0, 1, 0, 0, 0), (1, .bipush 19, 2, 0, 0, 0), (3, .if_icmp .eq 9, 3, 0, 0, 0), (6, .iload_n 0, 1, 0, 0, 0), (7, .bipush 21, 2, 0, 0, 0), (9, .if_icmp .ne 7, 3, 0, 0, 0), (12, .iconst 1, 1, 0, 0, 0), (13, .goto 4, 3, 0, 0, 0), (16, .iconst 0, 1, 0, 0, 0), (17, .ireturn, 1, 0, 0, 0)]
def aD_X2_isReference : ax_D := (yX2_isReference, cX2_isReference, 1, (some .boolean), [], [], at_X2_isReference, [])
def at_X2_isNumber : List (Nat × ax_I) := [(0, .iload_n 0, 1, 0, 0, 0), (1, .tableswitch 101 5 25 #[99, 99, 99, 101, 101, 101, 99, 99, 99, 101, 99, 101, 101, 101, 101, 101, 101, 101, 101, 101, 99], 99, 0, 0, 0), (100, .iconst 1, 1, 0, 0, 0), (101, .ireturn, 1, 0, 0, 0), (102, .iconst 0, 1, 0, 0, 0), (103, .ireturn, 1, 0, 0, 0)]
def aD_X2_isNumber : ax_D := (yX2_isNumber, cX2_isNumber, 1, (some .boolean), [], [], at_X2_isNumber, [])
def at_X2_isForm : List (Nat × ax_I) := [(0, .iload_n 0, 1, 0, 0, 0), (1, .invokestatic 13, 3, 18, 1, 0), (4, .ifCond .ne 17, 3, 0, 0, 0), (7, .iload_n 0, 1, 0, 0, 0), (8, .invokestatic 16, 3, 16, 1, 0), (11, .ifCond .ne 10, 3, 0, 0, 0), (14, .iload_n 0, 1, 0, 0, 0), (15, .invokestatic 19, 3, 17, 1, 0), (18, .ifCond .eq 7, 3, 0, 0, 0), (21, .iconst 1, 1, 0, 0, 0), (22, .goto 4, 3, 0, 0, 0), (25, .iconst 0, 1, 0, 0, 0), (26, .ireturn, 1, 0, 0, 0)]
def aD_X2_isForm : ax_D := (yX2_isForm, cX2_isForm, 1, (some .boolean), [], [], at_X2_isForm, [])
def at_X2_holds : List (Nat × ax_I) := [(0, .iload_n 0, 1, 0, 0, 0), (1, .lookupswitch 161 #[(5, 79), (6, 99), (11, 59), (12, 131), (15, 119), (25, 149)], 59, 0, 0, 0), (60, .lload_n 1, 1, 0, 0, 0), (61, .lconst 0, 1, 0, 0, 0), (62, .lcmp, 1, 0, 0, 0), (63, .ifCond .lt 15, 3, 0, 0, 0), (66, .lload_n 1, 1, 0, 0, 0), (67, .ldc2_w 22, 3, 0, 0, 255), (70, .lcmp, 1, 0, 0, 0), (71, .ifCond .gt 7, 3, 0, 0, 0), (74, .iconst 1, 1, 0, 0, 0), (75, .goto 4, 3, 0, 0, 0), (78, .iconst 0, 1, 0, 0, 0), (79, .ireturn, 1, 0, 0, 0), (80, .lload_n 1, 1, 0, 0, 0), (81, .lconst 0, 1, 0, 0, 0), (82, .lcmp, 1, 0, 0, 0), (83, .ifCond .lt 15, 3, 0, 0, 0), (86, .lload_n 1, 1, 0, 0, 0), (87, .ldc2_w 24, 3, 0, 0, 65535), (90, .lcmp, 1, 0, 0, 0), (91, .ifCond .gt 7, 3, 0, 0, 0), (94, .iconst 1, 1, 0, 0, 0), (95, .goto 4, 3, 0, 0, 0), (98, .iconst 0, 1, 0, 0, 0), (99, .ireturn, 1, 0, 0, 0), (100, .lload_n 1, 1, 0, 0, 0), (101, .lconst 0, 1, 0, 0, 0), (102, .lcmp, 1, 0, 0, 0), (103, .ifCond .lt 15, 3, 0, 0, 0), (106, .lload_n 1, 1, 0, 0, 0), (107, .ldc2_w 26, 3, 0, 0, 4294967295), (110, .lcmp, 1, 0, 0, 0), (111, .ifCond .gt 7, 3, 0, 0, 0), (114, .iconst 1, 1, 0, 0, 0), (115, .goto 4, 3, 0, 0, 0), (118, .iconst 0, 1, 0, 0, 0), (119, .ireturn, 1, 0, 0, 0), (120, .lload_n 1, 1, 0, 0, 0), (121, .lconst 0, 1, 0, 0, 0), (122, .lcmp, 1, 0, 0, 0), (123, .ifCond .lt 7, 3, 0, 0, 0), (126, .iconst 1, 1, 0, 0, 0), (127, .goto 4, 3, 0, 0, 0), (130, .iconst 0, 1, 0, 0, 0), (131, .ireturn, 1, 0, 0, 0), (132, .lload_n 1, 1, 0, 0, 0), (133, .lconst 0, 1, 0, 0, 0), (134, .lcmp, 1, 0, 0, 0), (135, .ifCond .eq 9, 3, 0, 0, 0), (138, .lload_n 1, 1, 0, 0, 0), (139, .lconst 1, 1, 0, 0, 0), (140, .lcmp, 1, 0, 0, 0), (141, .ifCond .ne 7, 3, 0, 0, 0), (144, .iconst 1, 1, 0, 0, 0), (145, .goto 4, 3, 0, 0, 0), (148, .iconst 0, 1, 0, 0, 0), (149, .ireturn, 1, 0, 0, 0), (150, .lload_n 1, 1, 0, 0, 0), (151, .lconst 1, 1, 0, 0, 0), (152, .lcmp, 1, 0, 0, 0), (153, .ifCond .ne 7, 3, 0, 0, 0), (156, .iconst 1, 1, 0, 0, 0), (157, .goto 4, 3, 0, 0, 0), (160, .iconst 0, 1, 0, 0, 0), (161, .ireturn, 1, 0, 0, 0), (162, .iconst 1, 1, 0, 0, 0), (163, .ireturn, 1, 0, 0, 0)]
def aD_X2_holds : ax_D := (yX2_holds, cX2_holds, 3, (some .boolean), [], [], at_X2_holds, [])
def at_X2_width : List (Nat × ax_I) := [(0, .iload_n 0, 1, 0, 0, 0), (1, .tableswitch 84 5 19 #[77, 79, 81, 84, 84, 84, 75, 75, 84, 79, 84, 84, 84, 84, 79], 75, 0, 0, 0), (76, .iconst 1, 1, 0, 0, 0), (77, .ireturn, 1, 0, 0, 0), (78, .iconst 2, 1, 0, 0, 0), (79, .ireturn, 1, 0, 0, 0), (80, .iconst 4, 1, 0, 0, 0), (81, .ireturn, 1, 0, 0, 0), (82, .bipush 8, 2, 0, 0, 0), (84, .ireturn, 1, 0, 0, 0), (85, .iconst 0, 1, 0, 0, 0), (86, .ireturn, 1, 0, 0, 0)]
def aD_X2_width : ax_D := (yX2_width, cX2_width, 1, (some .int), [], [], at_X2_width, [])
def at_X3_init : List (Nat × ax_I) := [(0, .aload_n 0, 1, 0, 0, 0), (1, .invokespecial 3, 3, 901, 0, 0), (4, .aload_n 0, 1, 0, 0, 0), (5, .sipush 400, 3, 0, 0, 0), (8, .newarray .int, 2, 0, 0, 0), (10, .putfield 9, 3, 2, 7, 0), (13, .aload_n 0, 1, 0, 0, 0), (14, .bipush 7, 2, 0, 0, 0), (16, .newarray .int, 2, 0, 0, 0), (18, .putfield 15, 3, 2, 8, 0), (21, .aload_n 0, 1, 0, 0, 0), (22, .bipush 6, 2, 0, 0, 0), (24, .newarray .int, 2, 0, 0, 0), (26, .putfield 18, 3, 2, 9, 0), (29, .aload_n 0, 1, 0, 0, 0), (30, .sipush 400, 3, 0, 0, 0), (33, .newarray .int, 2, 0, 0, 0), (35, .putfield 21, 3, 2, 10, 0), (38, .aload_n 0, 1, 0, 0, 0), (39, .sipush 400, 3, 0, 0, 0), (42, .newarray .int, 2, 0, 0, 0), (44, .putfield 24, 3, 2, 11, 0), (47, .aload_n 0, 1, 0, 0, 0), (48, .sipush 400, 3, 0, 0, 0), (51, .newarray .int, 2, 0, 0, 0), (53, .putfield 27, 3, 2, 12, 0), (56, .aload_n 0, 1, 0, 0, 0), (57, .sipush 400, 3, 0, 0, 0), (60, .newarray .int, 2, 0, 0, 0), (62, .putfield 30, 3, 2, 13, 0), (65, .aload_n 0, 1, 0, 0, 0), (66, .sipush 400, 3, 0, 0, 0), (69, .newarray .int, 2, 0, 0, 0), (71, .putfield 33, 3, 2, 14, 0), (74, .aload_n 0, 1, 0, 0, 0), (75, .sipush 3200, 3, 0, 0, 0), (78, .newarray .int, 2, 0, 0, 0), (80, .putfield 36, 3, 2, 15, 0), (83, .aload_n 0, 1, 0, 0, 0), (84, .sipush 3200, 3, 0, 0, 0), (87, .newarray .int, 2, 0, 0, 0), (89, .putfield 39, 3, 2, 16, 0), (92, .aload_n 0, 1, 0, 0, 0), (93, .new 42, 3, 0, 0, 0), (96, .dup, 1, 0, 0, 0), (97, .sipush 400, 3, 0, 0, 0), (100, .invokespecial 44, 3, 0, 1, 0), (103, .putfield 47, 3, 2, 17, 0), (106, .aload_n 0, 1, 0, 0, 0), (107, .new 42, 3, 0, 0, 0), (110, .dup, 1, 0, 0, 0), (111, .sipush 3200, 3, 0, 0, 0), (114, .invokespecial 44, 3, 0, 1, 0), (117, .putfield 51, 3, 2, 18, 0), (120, .return_, 1, 0, 0, 0)]
def aD_X3_init : ax_D := (yX3_init, cX3_init, 1, none, [], [], at_X3_init, [])
def at_X3_forget : List (Nat × ax_I) := [(0, .aload_n 0, 1, 0, 0, 0), (1, .iconst 0, 1, 0, 0, 0), (2, .putfield 54, 3, 2, 6, 0), (5, .return_, 1, 0, 0, 0)]
def aD_X3_forget : ax_D := (yX3_forget, cX3_forget, 1, none, [], [], at_X3_forget, [])
def at_X3_reckon : List (Nat × ax_I) := [(0, .aload_n 0, 1, 0, 0, 0), (1, .getfield 54, 3, 2, 6, 0), (4, .ifCond .eq 4, 3, 0, 0, 0), (7, .return_, 1, 0, 0, 0), (8, .aload_n 0, 1, 0, 0, 0), (9, .aload_n 1, 1, 0, 0, 0), (10, .invokevirtual 58, 3, 25, 1, 0), (13, .aload_n 0, 1, 0, 0, 0), (14, .aload_n 1, 1, 0, 0, 0), (15, .invokevirtual 62, 3, 27, 1, 0), (18, .aload_n 0, 1, 0, 0, 0), (19, .aload_n 1, 1, 0, 0, 0), (20, .aload_n 2, 1, 0, 0, 0), (21, .invokevirtual 65, 3, 32, 2, 0), (24, .aload_n 0, 1, 0, 0, 0), (25, .aload_n 1, 1, 0, 0, 0), (26, .invokevirtual 69, 3, 35, 1, 0), (29, .aload_n 0, 1, 0, 0, 0), (30, .iconst 1, 1, 0, 0, 0), (31, .putfield 54, 3, 2, 6, 0), (34, .return_, 1, 0, 0, 0)]
def aD_X3_reckon : ax_D := (yX3_reckon, cX3_reckon, 3, none, [], [], at_X3_reckon, [])
def at_X3_orderEntries : List (Nat × ax_I) := [(0, .aload_n 0, 1, 0, 0, 0), (1, .iconst 0, 1, 0, 0, 0), (2, .putfield 72, 3, 2, 5, 0), (5, .iconst 0, 1, 0, 0, 0), (6, .istore_n 2, 1, 0, 0, 0), (7, .iload_n 2, 1, 0, 0, 0), (8, .aload_n 1, 1, 0, 0, 0), (9, .getfield 76, 3, 7, 0, 0), (12, .if_icmp .ge 101, 3, 0, 0, 0), (15, .aload_n 0, 1, 0, 0, 0), (16, .getfield 15, 3, 2, 8, 0), (19, .iload_n 2, 1, 0, 0, 0), (20, .aload_n 0, 1, 0, 0, 0), (21, .getfield 72, 3, 2, 5, 0), (24, .iastore, 1, 0, 0, 0), (25, .aload_n 1, 1, 0, 0, 0), (26, .getfield 81, 3, 7, 2, 0), (29, .iload_n 2, 1, 0, 0, 0), (30, .iaload, 1, 0, 0, 0), (31, .istore_n 3, 1, 0, 0, 0), (32, .iconst 0, 1, 0, 0, 0), (33, .istore 4, 2, 0, 0, 0), (35, .iload 4, 2, 0, 0, 0), (37, .aload_n 1, 1, 0, 0, 0), (38, .getfield 84, 3, 7, 1, 0), (41, .if_icmp .ge 66, 3, 0, 0, 0), (44, .iload_n 3, 1, 0, 0, 0), (45, .iconst (-1), 1, 0, 0, 0), (46, .if_icmp .eq 61, 3, 0, 0, 0), (49, .aload_n 0, 1, 0, 0, 0), (50, .getfield 9, 3, 2, 7, 0), (53, .aload_n 0, 1, 0, 0, 0), (54, .getfield 72, 3, 2, 5, 0), (57, .iload_n 3, 1, 0, 0, 0), (58, .iastore, 1, 0, 0, 0), (59, .aload_n 0, 1, 0, 0, 0), (60, .dup, 1, 0, 0, 0), (61, .getfield 72, 3, 2, 5, 0), (64, .iconst 1, 1, 0, 0, 0), (65, .iadd, 1, 0, 0, 0), (66, .putfield 72, 3, 2, 5, 0), (69, .aload_n 0, 1, 0, 0, 0), (70, .getfield 21, 3, 2, 10, 0), (73, .iload_n 3, 1, 0, 0, 0), (74, .iconst 0, 1, 0, 0, 0), (75, .iastore, 1, 0, 0, 0), (76, .aload_n 1, 1, 0, 0, 0), (77, .getfield 87, 3, 7, 7, 0), (80, .iload_n 3, 1, 0, 0, 0), (81, .iaload, 1, 0, 0, 0), (82, .ifCond .le 12, 3, 0, 0, 0), (85, .aload_n 1, 1, 0, 0, 0), (86, .getfield 90, 3, 7, 8, 0), (89, .iload_n 3, 1, 0, 0, 0), (90, .iaload, 1, 0, 0, 0), (91, .goto 9, 3, 0, 0, 0), (94, .aload_n 0, 1, 0, 0, 0), (95, .aload_n 1, 1, 0, 0, 0), (96, .iload_n 3, 1, 0, 0, 0), (97, .invokevirtual 93, 3, 26, 2, 0), (100, .istore_n 3, 1, 0, 0, 0), (101, .iinc 4 1, 3, 0, 0, 0), (104, .goto (-69), 3, 0, 0, 0), (107, .iinc 2 1, 3, 0, 0, 0), (110, .goto (-103), 3, 0, 0, 0), (113, .aload_n 0, 1, 0, 0, 0), (114, .getfield 15, 3, 2, 8, 0), (117, .aload_n 1, 1, 0, 0, 0), (118, .getfield 76, 3, 7, 0, 0), (121, .aload_n 0, 1, 0, 0, 0), (122, .getfield 72, 3, 2, 5, 0), (125, .iastore, 1, 0, 0, 0), (126, .return_, 1, 0, 0, 0)]
def aD_X3_orderEntries : ax_D := (yX3_orderEntries, cX3_orderEntries, 5, none, [], [], at_X3_orderEntries, [])
def at_X3_climb : List (Nat × ax_I) := [(0, .iload_n 2, 1, 0, 0, 0), (1, .istore_n 3, 1, 0, 0, 0), (2, .aload_n 1, 1, 0, 0, 0), (3, .getfield 97, 3, 7, 6, 0), (6, .iload_n 2, 1, 0, 0, 0), (7, .iaload, 1, 0, 0, 0), (8, .istore 4, 2, 0, 0, 0), (10, .iload 4, 2, 0, 0, 0), (12, .ifCond .le 43, 3, 0, 0, 0), (15, .aload_n 1, 1, 0, 0, 0), (16, .getfield 100, 3, 7, 10, 0), (19, .iload_n 3, 1, 0, 0, 0), (20, .iaload, 1, 0, 0, 0), (21, .iconst (-1), 1, 0, 0, 0), (22, .if_icmp .eq 10, 3, 0, 0, 0), (25, .aload_n 1, 1, 0, 0, 0), (26, .getfield 100, 3, 7, 10, 0), (29, .iload_n 3, 1, 0, 0, 0), (30, .iaload, 1, 0, 0, 0), (31, .ireturn, 1, 0, 0, 0), (32, .aload_n 1, 1, 0, 0, 0), (33, .getfield 103, 3, 7, 4, 0), (36, .iload_n 3, 1, 0, 0, 0), (37, .iaload, 1, 0, 0, 0), (38, .istore_n 3, 1, 0, 0, 0), (39, .aload_n 0, 1, 0, 0, 0), (40, .getfield 21, 3, 2, 10, 0), (43, .iload_n 2, 1, 0, 0, 0), (44, .dup2, 1, 0, 0, 0), (45, .iaload, 1, 0, 0, 0), (46, .iconst 1, 1, 0, 0, 0), (47, .iadd, 1, 0, 0, 0), (48, .iastore, 1, 0, 0, 0), (49, .iinc 4 (-1), 3, 0, 0, 0), (52, .goto (-42), 3, 0, 0, 0), (55, .iconst (-1), 1, 0, 0, 0), (56, .ireturn, 1, 0, 0, 0)]
def aD_X3_climb : ax_D := (yX3_climb, cX3_climb, 5, (some .int), [], [], at_X3_climb, [])
def at_X3_numberShapes : List (Nat × ax_I) := [(0, .aload_n 0, 1, 0, 0, 0), (1, .iconst 0, 1, 0, 0, 0), (2, .putfield 106, 3, 2, 0, 0), (5, .aload_n 0, 1, 0, 0, 0), (6, .iconst 1, 1, 0, 0, 0), (7, .putfield 109, 3, 2, 3, 0), (10, .aload_n 0, 1, 0, 0, 0), (11, .getfield 47, 3, 2, 17, 0), (14, .invokevirtual 112, 3, 1, 0, 0), (17, .iconst 0, 1, 0, 0, 0), (18, .istore_n 2, 1, 0, 0, 0), (19, .iload_n 2, 1, 0, 0, 0), (20, .aload_n 0, 1, 0, 0, 0), (21, .getfield 72, 3, 2, 5, 0), (24, .if_icmp .ge 102, 3, 0, 0, 0), (27, .aload_n 0, 1, 0, 0, 0), (28, .getfield 9, 3, 2, 7, 0), (31, .iload_n 2, 1, 0, 0, 0), (32, .iaload, 1, 0, 0, 0), (33, .istore_n 3, 1, 0, 0, 0), (34, .aload_n 1, 1, 0, 0, 0), (35, .iload_n 3, 1, 0, 0, 0), (36, .invokestatic 115, 3, 29, 2, 0), (39, .istore 4, 2, 0, 0, 0), (41, .aload_n 0, 1, 0, 0, 0), (42, .aload_n 1, 1, 0, 0, 0), (43, .iload_n 3, 1, 0, 0, 0), (44, .iload 4, 2, 0, 0, 0), (46, .invokevirtual 118, 3, 28, 3, 0), (49, .istore 5, 2, 0, 0, 0), (51, .iload 5, 2, 0, 0, 0), (53, .iconst (-1), 1, 0, 0, 0), (54, .if_icmp .ne 56, 3, 0, 0, 0), (57, .aload_n 0, 1, 0, 0, 0), (58, .getfield 106, 3, 2, 0, 0), (61, .istore 5, 2, 0, 0, 0), (63, .aload_n 0, 1, 0, 0, 0), (64, .getfield 33, 3, 2, 14, 0), (67, .iload 5, 2, 0, 0, 0), (69, .iload_n 3, 1, 0, 0, 0), (70, .iastore, 1, 0, 0, 0), (71, .aload_n 0, 1, 0, 0, 0), (72, .getfield 47, 3, 2, 17, 0), (75, .iload 4, 2, 0, 0, 0), (77, .iload 5, 2, 0, 0, 0), (79, .invokevirtual 122, 3, 4, 2, 0), (82, .aload_n 0, 1, 0, 0, 0), (83, .dup, 1, 0, 0, 0), (84, .getfield 106, 3, 2, 0, 0), (87, .iconst 1, 1, 0, 0, 0), (88, .iadd, 1, 0, 0, 0), (89, .putfield 106, 3, 2, 0, 0), (92, .aload_n 0, 1, 0, 0, 0), (93, .dup, 1, 0, 0, 0), (94, .getfield 109, 3, 2, 3, 0), (97, .aload_n 1, 1, 0, 0, 0), (98, .iload_n 3, 1, 0, 0, 0), (99, .aload_n 0, 1, 0, 0, 0), (100, .getfield 106, 3, 2, 0, 0), (103, .invokestatic 126, 3, 31, 3, 0), (106, .iadd, 1, 0, 0, 0), (107, .putfield 109, 3, 2, 3, 0), (110, .aload_n 0, 1, 0, 0, 0), (111, .getfield 30, 3, 2, 13, 0), (114, .iload_n 3, 1, 0, 0, 0), (115, .iload 5, 2, 0, 0, 0), (117, .iconst 1, 1, 0, 0, 0), (118, .iadd, 1, 0, 0, 0), (119, .iastore, 1, 0, 0, 0), (120, .iinc 2 1, 3, 0, 0, 0), (123, .goto (-104), 3, 0, 0, 0), (126, .return_, 1, 0, 0, 0)]
def aD_X3_numberShapes : ax_D := (yX3_numberShapes, cX3_numberShapes, 6, none, [], [], at_X3_numberShapes, [])
def at_X3_knownShape : List (Nat × ax_I) := [(0, .aload_n 0, 1, 0, 0, 0), (1, .getfield 47, 3, 2, 17, 0), (4, .iload_n 3, 1, 0, 0, 0), (5, .invokevirtual 129, 3, 2, 1, 0), (8, .istore 4, 2, 0, 0, 0), (10, .iconst 0, 1, 0, 0, 0), (11, .istore 5, 2, 0, 0, 0), (13, .iload 5, 2, 0, 0, 0), (15, .aload_n 0, 1, 0, 0, 0), (16, .getfield 106, 3, 2, 0, 0), (19, .if_icmp .ge 44, 3, 0, 0, 0), (22, .iload 4, 2, 0, 0, 0), (24, .iconst (-1), 1, 0, 0, 0), (25, .if_icmp .eq 38, 3, 0, 0, 0), (28, .aload_n 1, 1, 0, 0, 0), (29, .iload_n 2, 1, 0, 0, 0), (30, .aload_n 0, 1, 0, 0, 0), (31, .getfield 33, 3, 2, 14, 0), (34, .iload 4, 2, 0, 0, 0), (36, .iaload, 1, 0, 0, 0), (37, .invokestatic 133, 3, 30, 3, 0), (40, .ifCond .eq 6, 3, 0, 0, 0), (43, .iload 4, 2, 0, 0, 0), (45, .ireturn, 1, 0, 0, 0), (46, .aload_n 0, 1, 0, 0, 0), (47, .getfield 47, 3, 2, 17, 0), (50, .iload 4, 2, 0, 0, 0), (52, .invokevirtual 137, 3, 3, 1, 0), (55, .istore 4, 2, 0, 0, 0), (57, .iinc 5 1, 3, 0, 0, 0), (60, .goto (-47), 3, 0, 0, 0), (63, .iconst (-1), 1, 0, 0, 0), (64, .ireturn, 1, 0, 0, 0)]
def aD_X3_knownShape : ax_D := (yX3_knownShape, cX3_knownShape, 6, (some .int), [], [], at_X3_knownShape, [])
def at_X3_shapeHash : List (Nat × ax_I) := [(0, .aload_n 0, 1, 0, 0, 0), (1, .getfield 140, 3, 7, 3, 0), (4, .iload_n 1, 1, 0, 0, 0), (5, .iaload, 1, 0, 0, 0), (6, .iconst 2, 1, 0, 0, 0), (7, .imul, 1, 0, 0, 0), (8, .aload_n 0, 1, 0, 0, 0), (9, .getfield 87, 3, 7, 7, 0), (12, .iload_n 1, 1, 0, 0, 0), (13, .iaload, 1, 0, 0, 0), (14, .ifCond .le 7, 3, 0, 0, 0), (17, .iconst 1, 1, 0, 0, 0), (18, .goto 4, 3, 0, 0, 0), (21, .iconst 0, 1, 0, 0, 0), (22, .iadd, 1, 0, 0, 0), (23, .istore_n 2, 1, 0, 0, 0), (24, .iconst 0, 1, 0, 0, 0), (25, .istore_n 3, 1, 0, 0, 0), (26, .iload_n 3, 1, 0, 0, 0), (27, .aload_n 0, 1, 0, 0, 0), (28, .getfield 143, 3, 7, 11, 0), (31, .iload_n 1, 1, 0, 0, 0), (32, .iaload, 1, 0, 0, 0), (33, .if_icmp .ge 40, 3, 0, 0, 0), (36, .iload_n 1, 1, 0, 0, 0), (37, .iload_n 3, 1, 0, 0, 0), (38, .invokestatic 146, 3, 78, 2, 0), (41, .istore 4, 2, 0, 0, 0), (43, .iload_n 2, 1, 0, 0, 0), (44, .bipush 31, 2, 0, 0, 0), (46, .imul, 1, 0, 0, 0), (47, .aload_n 0, 1, 0, 0, 0), (48, .getfield 150, 3, 7, 12, 0), (51, .iload 4, 2, 0, 0, 0), (53, .iaload, 1, 0, 0, 0), (54, .iadd, 1, 0, 0, 0), (55, .bipush 31, 2, 0, 0, 0), (57, .imul, 1, 0, 0, 0), (58, .aload_n 0, 1, 0, 0, 0), (59, .getfield 153, 3, 7, 13, 0), (62, .iload 4, 2, 0, 0, 0), (64, .iaload, 1, 0, 0, 0), (65, .iadd, 1, 0, 0, 0), (66, .istore_n 2, 1, 0, 0, 0), (67, .iinc 3 1, 3, 0, 0, 0), (70, .goto (-44), 3, 0, 0, 0), (73, .iload_n 2, 1, 0, 0, 0), (74, .ireturn, 1, 0, 0, 0)]
def aD_X3_shapeHash : ax_D := (yX3_shapeHash, cX3_shapeHash, 5, (some .int), [], [], at_X3_shapeHash, [])
def at_X3_sameShape : List (Nat × ax_I) := [(0, .aload_n 0, 1, 0, 0, 0), (1, .getfield 140, 3, 7, 3, 0), (4, .iload_n 1, 1, 0, 0, 0), (5, .iaload, 1, 0, 0, 0), (6, .aload_n 0, 1, 0, 0, 0), (7, .getfield 140, 3, 7, 3, 0), (10, .iload_n 2, 1, 0, 0, 0), (11, .iaload, 1, 0, 0, 0), (12, .if_icmp .ne 49, 3, 0, 0, 0), (15, .aload_n 0, 1, 0, 0, 0), (16, .getfield 143, 3, 7, 11, 0), (19, .iload_n 1, 1, 0, 0, 0), (20, .iaload, 1, 0, 0, 0), (21, .aload_n 0, 1, 0, 0, 0), (22, .getfield 143, 3, 7, 11, 0), (25, .iload_n 2, 1, 0, 0, 0), (26, .iaload, 1, 0, 0, 0), (27, .if_icmp .ne 34, 3, 0, 0, 0), (30, .aload_n 0, 1, 0, 0, 0), (31, .getfield 87, 3, 7, 7, 0), (34, .iload_n 1, 1, 0, 0, 0), (35, .iaload, 1, 0, 0, 0), (36, .ifCond .le 7, 3, 0, 0, 0), (39, .iconst 1, 1, 0, 0, 0), (40, .goto 4, 3, 0, 0, 0), (43, .iconst 0, 1, 0, 0, 0), (44, .aload_n 0, 1, 0, 0, 0), (45, .getfield 87, 3, 7, 7, 0), (48, .iload_n 2, 1, 0, 0, 0), (49, .iaload, 1, 0, 0, 0), (50, .ifCond .le 7, 3, 0, 0, 0), (53, .iconst 1, 1, 0, 0, 0), (54, .goto 4, 3, 0, 0, 0), (57, .iconst 0, 1, 0, 0, 0), (58, .if_icmp .eq 5, 3, 0, 0, 0), (61, .iconst 0, 1, 0, 0, 0), (62, .ireturn, 1, 0, 0, 0), (63, .iconst 0, 1, 0, 0, 0), (64, .istore_n 3, 1, 0, 0, 0), (65, .iload_n 3, 1, 0, 0, 0), (66, .aload_n 0, 1, 0, 0, 0), (67, .getfield 143, 3, 7, 11, 0), (70, .iload_n 1, 1, 0, 0, 0), (71, .iaload, 1, 0, 0, 0), (72, .if_icmp .ge 59, 3, 0, 0, 0), (75, .iload_n 1, 1, 0, 0, 0), (76, .iload_n 3, 1, 0, 0, 0), (77, .invokestatic 146, 3, 78, 2, 0), (80, .istore 4, 2, 0, 0, 0), (82, .iload_n 2, 1, 0, 0, 0), (83, .iload_n 3, 1, 0, 0, 0), (84, .invokestatic 146, 3, 78, 2, 0), (87, .istore 5, 2, 0, 0, 0), (89, .aload_n 0, 1, 0, 0, 0), (90, .getfield 150, 3, 7, 12, 0), (93, .iload 4, 2, 0, 0, 0), (95, .iaload, 1, 0, 0, 0), (96, .aload_n 0, 1, 0, 0, 0), (97, .getfield 150, 3, 7, 12, 0), (100, .iload 5, 2, 0, 0, 0), (102, .iaload, 1, 0, 0, 0), (103, .if_icmp .ne 20, 3, 0, 0, 0), (106, .aload_n 0, 1, 0, 0, 0), (107, .getfield 153, 3, 7, 13, 0), (110, .iload 4, 2, 0, 0, 0), (112, .iaload, 1, 0, 0, 0), (113, .aload_n 0, 1, 0, 0, 0), (114, .getfield 153, 3, 7, 13, 0), (117, .iload 5, 2, 0, 0, 0), (119, .iaload, 1, 0, 0, 0), (120, .if_icmp .eq 5, 3, 0, 0, 0), (123, .iconst 0, 1, 0, 0, 0), (124, .ireturn, 1, 0, 0, 0), (125, .iinc 3 1, 3, 0, 0, 0), (128, .goto (-63), 3, 0, 0, 0), (131, .iconst 1, 1, 0, 0, 0), (132, .ireturn, 1, 0, 0, 0)]
def aD_X3_sameShape : ax_D := (yX3_sameShape, cX3_sameShape, 6, (some .boolean), [], [], at_X3_sameShape, [])
def at_X3_shapeSize : List (Nat × ax_I) := [(0, .iload_n 2, 1, 0, 0, 0), (1, .i2l, 1, 0, 0, 0), (2, .invokestatic 156, 3, 69, 1, 0), (5, .aload_n 0, 1, 0, 0, 0), (6, .getfield 140, 3, 7, 3, 0), (9, .iload_n 1, 1, 0, 0, 0), (10, .iaload, 1, 0, 0, 0), (11, .i2l, 1, 0, 0, 0), (12, .invokestatic 156, 3, 69, 1, 0), (15, .iadd, 1, 0, 0, 0), (16, .iconst 1, 1, 0, 0, 0), (17, .iadd, 1, 0, 0, 0), (18, .istore_n 3, 1, 0, 0, 0), (19, .iconst 0, 1, 0, 0, 0), (20, .istore 4, 2, 0, 0, 0), (22, .iload 4, 2, 0, 0, 0), (24, .aload_n 0, 1, 0, 0, 0), (25, .getfield 143, 3, 7, 11, 0), (28, .iload_n 1, 1, 0, 0, 0), (29, .iaload, 1, 0, 0, 0), (30, .if_icmp .ge 43, 3, 0, 0, 0), (33, .iload_n 1, 1, 0, 0, 0), (34, .iload 4, 2, 0, 0, 0), (36, .invokestatic 146, 3, 78, 2, 0), (39, .istore 5, 2, 0, 0, 0), (41, .iload_n 3, 1, 0, 0, 0), (42, .aload_n 0, 1, 0, 0, 0), (43, .getfield 150, 3, 7, 12, 0), (46, .iload 5, 2, 0, 0, 0), (48, .iaload, 1, 0, 0, 0), (49, .i2l, 1, 0, 0, 0), (50, .invokestatic 156, 3, 69, 1, 0), (53, .aload_n 0, 1, 0, 0, 0), (54, .getfield 153, 3, 7, 13, 0), (57, .iload 5, 2, 0, 0, 0), (59, .iaload, 1, 0, 0, 0), (60, .i2l, 1, 0, 0, 0), (61, .invokestatic 156, 3, 69, 1, 0), (64, .iadd, 1, 0, 0, 0), (65, .iadd, 1, 0, 0, 0), (66, .istore_n 3, 1, 0, 0, 0), (67, .iinc 4 1, 3, 0, 0, 0), (70, .goto (-48), 3, 0, 0, 0), (73, .iload_n 3, 1, 0, 0, 0), (74, .iconst 2, 1, 0, 0, 0), (75, .iadd, 1, 0, 0, 0), (76, .ireturn, 1, 0, 0, 0)]
def aD_X3_shapeSize : ax_D := (yX3_shapeSize, cX3_shapeSize, 6, (some .int), [], [], at_X3_shapeSize, [])
def at_X3_placeTexts : List (Nat × ax_I) := [(0, .aload_n 0, 1, 0, 0, 0), (1, .iconst 0, 1, 0, 0, 0), (2, .putfield 162, 3, 2, 1, 0), (5, .aload_n 0, 1, 0, 0, 0), (6, .iconst 0, 1, 0, 0, 0), (7, .putfield 165, 3, 2, 4, 0), (10, .aload_n 0, 1, 0, 0, 0), (11, .getfield 51, 3, 2, 18, 0), (14, .invokevirtual 112, 3, 1, 0, 0), (17, .iconst 0, 1, 0, 0, 0), (18, .istore_n 3, 1, 0, 0, 0), (19, .iload_n 3, 1, 0, 0, 0), (20, .aload_n 0, 1, 0, 0, 0), (21, .getfield 72, 3, 2, 5, 0), (24, .if_icmp .ge 67, 3, 0, 0, 0), (27, .aload_n 0, 1, 0, 0, 0), (28, .getfield 9, 3, 2, 7, 0), (31, .iload_n 3, 1, 0, 0, 0), (32, .iaload, 1, 0, 0, 0), (33, .istore 4, 2, 0, 0, 0), (35, .iconst 0, 1, 0, 0, 0), (36, .istore 5, 2, 0, 0, 0), (38, .iload 5, 2, 0, 0, 0), (40, .aload_n 1, 1, 0, 0, 0), (41, .getfield 143, 3, 7, 11, 0), (44, .iload 4, 2, 0, 0, 0), (46, .iaload, 1, 0, 0, 0), (47, .if_icmp .ge 38, 3, 0, 0, 0), (50, .iload 4, 2, 0, 0, 0), (52, .iload 5, 2, 0, 0, 0), (54, .invokestatic 146, 3, 78, 2, 0), (57, .istore 6, 2, 0, 0, 0), (59, .aload_n 1, 1, 0, 0, 0), (60, .getfield 153, 3, 7, 13, 0), (63, .iload 6, 2, 0, 0, 0), (65, .iaload, 1, 0, 0, 0), (66, .bipush 14, 2, 0, 0, 0), (68, .if_icmp .ne 11, 3, 0, 0, 0), (71, .aload_n 0, 1, 0, 0, 0), (72, .aload_n 1, 1, 0, 0, 0), (73, .aload_n 2, 1, 0, 0, 0), (74, .iload 6, 2, 0, 0, 0), (76, .invokevirtual 170, 3, 33, 3, 0), (79, .iinc 5 1, 3, 0, 0, 0), (82, .goto (-44), 3, 0, 0, 0), (85, .iinc 3 1, 3, 0, 0, 0), (88, .goto (-69), 3, 0, 0, 0), (91, .return_, 1, 0, 0, 0)]
def aD_X3_placeTexts : ax_D := (yX3_placeTexts, cX3_placeTexts, 7, none, [], [], at_X3_placeTexts, [])
def at_X3_placeText : List (Nat × ax_I) := [(0, .aload_n 2, 1, 0, 0, 0), (1, .aload_n 1, 1, 0, 0, 0), (2, .iload_n 3, 1, 0, 0, 0), (3, .invokevirtual 174, 3, 85, 1, 0), (6, .aload_n 1, 1, 0, 0, 0), (7, .getfield 177, 3, 7, 15, 0), (10, .iload_n 3, 1, 0, 0, 0), (11, .iaload, 1, 0, 0, 0), (12, .invokevirtual 180, 3, 67, 2, 0), (15, .istore 4, 2, 0, 0, 0), (17, .aload_n 0, 1, 0, 0, 0), (18, .aload_n 1, 1, 0, 0, 0), (19, .aload_n 2, 1, 0, 0, 0), (20, .iload_n 3, 1, 0, 0, 0), (21, .iload 4, 2, 0, 0, 0), (23, .invokevirtual 183, 3, 34, 4, 0), (26, .istore 5, 2, 0, 0, 0), (28, .iload 5, 2, 0, 0, 0), (30, .iconst (-1), 1, 0, 0, 0), (31, .if_icmp .ne 66, 3, 0, 0, 0), (34, .aload_n 0, 1, 0, 0, 0), (35, .getfield 39, 3, 2, 16, 0), (38, .aload_n 0, 1, 0, 0, 0), (39, .getfield 162, 3, 2, 1, 0), (42, .iload_n 3, 1, 0, 0, 0), (43, .iastore, 1, 0, 0, 0), (44, .aload_n 0, 1, 0, 0, 0), (45, .getfield 51, 3, 2, 18, 0), (48, .iload 4, 2, 0, 0, 0), (50, .aload_n 0, 1, 0, 0, 0), (51, .getfield 162, 3, 2, 1, 0), (54, .invokevirtual 122, 3, 4, 2, 0), (57, .aload_n 0, 1, 0, 0, 0), (58, .dup, 1, 0, 0, 0), (59, .getfield 162, 3, 2, 1, 0), (62, .iconst 1, 1, 0, 0, 0), (63, .iadd, 1, 0, 0, 0), (64, .putfield 162, 3, 2, 1, 0), (67, .aload_n 0, 1, 0, 0, 0), (68, .getfield 36, 3, 2, 15, 0), (71, .iload_n 3, 1, 0, 0, 0), (72, .aload_n 0, 1, 0, 0, 0), (73, .getfield 165, 3, 2, 4, 0), (76, .iastore, 1, 0, 0, 0), (77, .aload_n 0, 1, 0, 0, 0), (78, .dup, 1, 0, 0, 0), (79, .getfield 165, 3, 2, 4, 0), (82, .aload_n 1, 1, 0, 0, 0), (83, .getfield 177, 3, 7, 15, 0), (86, .iload_n 3, 1, 0, 0, 0), (87, .iaload, 1, 0, 0, 0), (88, .iconst 1, 1, 0, 0, 0), (89, .iadd, 1, 0, 0, 0), (90, .iadd, 1, 0, 0, 0), (91, .putfield 165, 3, 2, 4, 0), (94, .goto 21, 3, 0, 0, 0), (97, .aload_n 0, 1, 0, 0, 0), (98, .getfield 36, 3, 2, 15, 0), (101, .iload_n 3, 1, 0, 0, 0), (102, .aload_n 0, 1, 0, 0, 0), (103, .getfield 36, 3, 2, 15, 0), (106, .aload_n 0, 1, 0, 0, 0), (107, .getfield 39, 3, 2, 16, 0), (110, .iload 5, 2, 0, 0, 0), (112, .iaload, 1, 0, 0, 0), (113, .iaload, 1, 0, 0, 0), (114, .iastore, 1, 0, 0, 0), (115, .return_, 1, 0, 0, 0)]
def aD_X3_placeText : ax_D := (yX3_placeText, cX3_placeText, 6, none, [], [], at_X3_placeText, [])
def at_X3_knownText : List (Nat × ax_I) := [(0, .aload_n 0, 1, 0, 0, 0), (1, .getfield 51, 3, 2, 18, 0), (4, .iload 4, 2, 0, 0, 0), (6, .invokevirtual 129, 3, 2, 1, 0), (9, .istore 5, 2, 0, 0, 0), (11, .iconst 0, 1, 0, 0, 0), (12, .istore 6, 2, 0, 0, 0), (14, .iload 6, 2, 0, 0, 0), (16, .aload_n 0, 1, 0, 0, 0), (17, .getfield 162, 3, 2, 1, 0), (20, .if_icmp .ge 79, 3, 0, 0, 0), (23, .iload 5, 2, 0, 0, 0), (25, .iconst (-1), 1, 0, 0, 0), (26, .if_icmp .eq 73, 3, 0, 0, 0), (29, .aload_n 0, 1, 0, 0, 0), (30, .getfield 39, 3, 2, 16, 0), (33, .iload 5, 2, 0, 0, 0), (35, .iaload, 1, 0, 0, 0), (36, .istore 7, 2, 0, 0, 0), (38, .aload_n 1, 1, 0, 0, 0), (39, .getfield 177, 3, 7, 15, 0), (42, .iload_n 3, 1, 0, 0, 0), (43, .iaload, 1, 0, 0, 0), (44, .aload_n 1, 1, 0, 0, 0), (45, .getfield 177, 3, 7, 15, 0), (48, .iload 7, 2, 0, 0, 0), (50, .iaload, 1, 0, 0, 0), (51, .if_icmp .ne 31, 3, 0, 0, 0), (54, .aload_n 2, 1, 0, 0, 0), (55, .aload_n 1, 1, 0, 0, 0), (56, .iload_n 3, 1, 0, 0, 0), (57, .invokevirtual 174, 3, 85, 1, 0), (60, .aload_n 2, 1, 0, 0, 0), (61, .aload_n 1, 1, 0, 0, 0), (62, .iload 7, 2, 0, 0, 0), (64, .invokevirtual 174, 3, 85, 1, 0), (67, .aload_n 1, 1, 0, 0, 0), (68, .getfield 177, 3, 7, 15, 0), (71, .iload_n 3, 1, 0, 0, 0), (72, .iaload, 1, 0, 0, 0), (73, .invokevirtual 187, 3, 66, 4, 0), (76, .ifCond .eq 6, 3, 0, 0, 0), (79, .iload 5, 2, 0, 0, 0), (81, .ireturn, 1, 0, 0, 0), (82, .aload_n 0, 1, 0, 0, 0), (83, .getfield 51, 3, 2, 18, 0), (86, .iload 5, 2, 0, 0, 0), (88, .invokevirtual 137, 3, 3, 1, 0), (91, .istore 5, 2, 0, 0, 0), (93, .iinc 6 1, 3, 0, 0, 0), (96, .goto (-82), 3, 0, 0, 0), (99, .iconst (-1), 1, 0, 0, 0), (100, .ireturn, 1, 0, 0, 0)]
def aD_X3_knownText : ax_D := (yX3_knownText, cX3_knownText, 8, (some .int), [], [], at_X3_knownText, [])
def at_X3_placeEntries : List (Nat × ax_I) := [(0, .iconst 0, 1, 0, 0, 0), (1, .istore_n 2, 1, 0, 0, 0), (2, .iload_n 2, 1, 0, 0, 0), (3, .aload_n 0, 1, 0, 0, 0), (4, .getfield 72, 3, 2, 5, 0), (7, .if_icmp .ge 52, 3, 0, 0, 0), (10, .aload_n 0, 1, 0, 0, 0), (11, .getfield 9, 3, 2, 7, 0), (14, .iload_n 2, 1, 0, 0, 0), (15, .iaload, 1, 0, 0, 0), (16, .istore_n 3, 1, 0, 0, 0), (17, .aload_n 0, 1, 0, 0, 0), (18, .getfield 24, 3, 2, 11, 0), (21, .iload_n 3, 1, 0, 0, 0), (22, .aload_n 0, 1, 0, 0, 0), (23, .getfield 30, 3, 2, 13, 0), (26, .iload_n 3, 1, 0, 0, 0), (27, .iaload, 1, 0, 0, 0), (28, .i2l, 1, 0, 0, 0), (29, .invokestatic 156, 3, 69, 1, 0), (32, .aload_n 1, 1, 0, 0, 0), (33, .iload_n 3, 1, 0, 0, 0), (34, .invokestatic 191, 3, 38, 2, 0), (37, .iadd, 1, 0, 0, 0), (38, .aload_n 0, 1, 0, 0, 0), (39, .getfield 21, 3, 2, 10, 0), (42, .iload_n 3, 1, 0, 0, 0), (43, .iaload, 1, 0, 0, 0), (44, .iadd, 1, 0, 0, 0), (45, .iastore, 1, 0, 0, 0), (46, .aload_n 0, 1, 0, 0, 0), (47, .getfield 27, 3, 2, 12, 0), (50, .iload_n 3, 1, 0, 0, 0), (51, .iconst 0, 1, 0, 0, 0), (52, .iastore, 1, 0, 0, 0), (53, .iinc 2 1, 3, 0, 0, 0), (56, .goto (-54), 3, 0, 0, 0), (59, .aload_n 0, 1, 0, 0, 0), (60, .iconst 0, 1, 0, 0, 0), (61, .putfield 194, 3, 2, 2, 0), (64, .iconst 0, 1, 0, 0, 0), (65, .istore_n 2, 1, 0, 0, 0), (66, .iload_n 2, 1, 0, 0, 0), (67, .aload_n 1, 1, 0, 0, 0), (68, .getfield 76, 3, 7, 0, 0), (71, .if_icmp .ge 54, 3, 0, 0, 0), (74, .iconst 1, 1, 0, 0, 0), (75, .istore_n 3, 1, 0, 0, 0), (76, .iconst 0, 1, 0, 0, 0), (77, .istore 4, 2, 0, 0, 0), (79, .iload_n 3, 1, 0, 0, 0), (80, .ifCond .eq 24, 3, 0, 0, 0), (83, .iload 4, 2, 0, 0, 0), (85, .sipush 9600, 3, 0, 0, 0), (88, .if_icmp .ge 16, 3, 0, 0, 0), (91, .aload_n 0, 1, 0, 0, 0), (92, .aload_n 1, 1, 0, 0, 0), (93, .iload_n 2, 1, 0, 0, 0), (94, .invokevirtual 197, 3, 36, 2, 0), (97, .istore_n 3, 1, 0, 0, 0), (98, .iinc 4 1, 3, 0, 0, 0), (101, .goto (-22), 3, 0, 0, 0), (104, .aload_n 0, 1, 0, 0, 0), (105, .dup, 1, 0, 0, 0), (106, .getfield 194, 3, 2, 2, 0), (109, .aload_n 0, 1, 0, 0, 0), (110, .getfield 18, 3, 2, 9, 0), (113, .iload_n 2, 1, 0, 0, 0), (114, .iaload, 1, 0, 0, 0), (115, .iadd, 1, 0, 0, 0), (116, .putfield 194, 3, 2, 2, 0), (119, .iinc 2 1, 3, 0, 0, 0), (122, .goto (-56), 3, 0, 0, 0), (125, .return_, 1, 0, 0, 0)]
def aD_X3_placeEntries : ax_D := (yX3_placeEntries, cX3_placeEntries, 5, none, [], [], at_X3_placeEntries, [])
def at_X3_moveEntries : List (Nat × ax_I) := [(0, .iconst 0, 1, 0, 0, 0), (1, .istore_n 3, 1, 0, 0, 0), (2, .bipush 11, 2, 0, 0, 0), (4, .istore 4, 2, 0, 0, 0), (6, .aload_n 0, 1, 0, 0, 0), (7, .getfield 15, 3, 2, 8, 0), (10, .iload_n 2, 1, 0, 0, 0), (11, .iaload, 1, 0, 0, 0), (12, .istore 5, 2, 0, 0, 0), (14, .iload 5, 2, 0, 0, 0), (16, .aload_n 0, 1, 0, 0, 0), (17, .getfield 15, 3, 2, 8, 0), (20, .iload_n 2, 1, 0, 0, 0), (21, .iconst 1, 1, 0, 0, 0), (22, .iadd, 1, 0, 0, 0), (23, .iaload, 1, 0, 0, 0), (24, .if_icmp .ge 61, 3, 0, 0, 0), (27, .aload_n 0, 1, 0, 0, 0), (28, .getfield 9, 3, 2, 7, 0), (31, .iload 5, 2, 0, 0, 0), (33, .iaload, 1, 0, 0, 0), (34, .istore 6, 2, 0, 0, 0), (36, .aload_n 0, 1, 0, 0, 0), (37, .getfield 27, 3, 2, 12, 0), (40, .iload 6, 2, 0, 0, 0), (42, .iaload, 1, 0, 0, 0), (43, .iload 4, 2, 0, 0, 0), (45, .if_icmp .eq 14, 3, 0, 0, 0), (48, .aload_n 0, 1, 0, 0, 0), (49, .getfield 27, 3, 2, 12, 0), (52, .iload 6, 2, 0, 0, 0), (54, .iload 4, 2, 0, 0, 0), (56, .iastore, 1, 0, 0, 0), (57, .iconst 1, 1, 0, 0, 0), (58, .istore_n 3, 1, 0, 0, 0), (59, .iload 4, 2, 0, 0, 0), (61, .aload_n 0, 1, 0, 0, 0), (62, .getfield 24, 3, 2, 11, 0), (65, .iload 6, 2, 0, 0, 0), (67, .iaload, 1, 0, 0, 0), (68, .aload_n 0, 1, 0, 0, 0), (69, .aload_n 1, 1, 0, 0, 0), (70, .iload 6, 2, 0, 0, 0), (72, .invokevirtual 201, 3, 37, 2, 0), (75, .iadd, 1, 0, 0, 0), (76, .iadd, 1, 0, 0, 0), (77, .istore 4, 2, 0, 0, 0), (79, .iinc 5 1, 3, 0, 0, 0), (82, .goto (-68), 3, 0, 0, 0), (85, .aload_n 0, 1, 0, 0, 0), (86, .getfield 18, 3, 2, 9, 0), (89, .iload_n 2, 1, 0, 0, 0), (90, .iload 4, 2, 0, 0, 0), (92, .iastore, 1, 0, 0, 0), (93, .iload_n 3, 1, 0, 0, 0), (94, .ireturn, 1, 0, 0, 0)]
def aD_X3_moveEntries : ax_D := (yX3_moveEntries, cX3_moveEntries, 7, (some .boolean), [], [], at_X3_moveEntries, [])
def at_X3_referenceRowBytes : List (Nat × ax_I) := [(0, .iconst 0, 1, 0, 0, 0), (1, .istore_n 3, 1, 0, 0, 0), (2, .iconst 0, 1, 0, 0, 0), (3, .istore 4, 2, 0, 0, 0), (5, .iload 4, 2, 0, 0, 0), (7, .aload_n 1, 1, 0, 0, 0), (8, .getfield 143, 3, 7, 11, 0), (11, .iload_n 2, 1, 0, 0, 0), (12, .iaload, 1, 0, 0, 0), (13, .if_icmp .ge 49, 3, 0, 0, 0), (16, .iload_n 2, 1, 0, 0, 0), (17, .iload 4, 2, 0, 0, 0), (19, .invokestatic 146, 3, 78, 2, 0), (22, .istore 5, 2, 0, 0, 0), (24, .aload_n 1, 1, 0, 0, 0), (25, .getfield 153, 3, 7, 13, 0), (28, .iload 5, 2, 0, 0, 0), (30, .iaload, 1, 0, 0, 0), (31, .bipush 21, 2, 0, 0, 0), (33, .if_icmp .ne 23, 3, 0, 0, 0), (36, .iload_n 3, 1, 0, 0, 0), (37, .aload_n 0, 1, 0, 0, 0), (38, .getfield 27, 3, 2, 12, 0), (41, .aload_n 1, 1, 0, 0, 0), (42, .getfield 204, 3, 7, 14, 0), (45, .iload 5, 2, 0, 0, 0), (47, .laload, 1, 0, 0, 0), (48, .l2i, 1, 0, 0, 0), (49, .iaload, 1, 0, 0, 0), (50, .i2l, 1, 0, 0, 0), (51, .invokestatic 156, 3, 69, 1, 0), (54, .iadd, 1, 0, 0, 0), (55, .istore_n 3, 1, 0, 0, 0), (56, .iinc 4 1, 3, 0, 0, 0), (59, .goto (-54), 3, 0, 0, 0), (62, .iload_n 3, 1, 0, 0, 0), (63, .ireturn, 1, 0, 0, 0)]
def aD_X3_referenceRowBytes : ax_D := (yX3_referenceRowBytes, cX3_referenceRowBytes, 6, (some .int), [], [], at_X3_referenceRowBytes, [])
def at_X3_steadyValueBytes : List (Nat × ax_I) := [(0, .iconst 0, 1, 0, 0, 0), (1, .istore_n 2, 1, 0, 0, 0), (2, .iconst 0, 1, 0, 0, 0), (3, .istore_n 3, 1, 0, 0, 0), (4, .iload_n 3, 1, 0, 0, 0), (5, .aload_n 0, 1, 0, 0, 0), (6, .getfield 143, 3, 7, 11, 0), (9, .iload_n 1, 1, 0, 0, 0), (10, .iaload, 1, 0, 0, 0), (11, .if_icmp .ge 131, 3, 0, 0, 0), (14, .iload_n 1, 1, 0, 0, 0), (15, .iload_n 3, 1, 0, 0, 0), (16, .invokestatic 146, 3, 78, 2, 0), (19, .istore 4, 2, 0, 0, 0), (21, .aload_n 0, 1, 0, 0, 0), (22, .getfield 153, 3, 7, 13, 0), (25, .iload 4, 2, 0, 0, 0), (27, .iaload, 1, 0, 0, 0), (28, .tableswitch 95 8 15 #[80, 95, 80, 95, 95, 48, 95, 64], 48, 0, 0, 0), (76, .iload_n 2, 1, 0, 0, 0), (77, .aload_n 0, 1, 0, 0, 0), (78, .getfield 204, 3, 7, 14, 0), (81, .iload 4, 2, 0, 0, 0), (83, .laload, 1, 0, 0, 0), (84, .invokestatic 208, 3, 70, 1, 0), (87, .iadd, 1, 0, 0, 0), (88, .istore_n 2, 1, 0, 0, 0), (89, .goto 47, 3, 0, 0, 0), (92, .iload_n 2, 1, 0, 0, 0), (93, .aload_n 0, 1, 0, 0, 0), (94, .getfield 204, 3, 7, 14, 0), (97, .iload 4, 2, 0, 0, 0), (99, .laload, 1, 0, 0, 0), (100, .invokestatic 156, 3, 69, 1, 0), (103, .iadd, 1, 0, 0, 0), (104, .istore_n 2, 1, 0, 0, 0), (105, .goto 31, 3, 0, 0, 0), (108, .iload_n 2, 1, 0, 0, 0), (109, .aload_n 0, 1, 0, 0, 0), (110, .getfield 177, 3, 7, 15, 0), (113, .iload 4, 2, 0, 0, 0), (115, .iaload, 1, 0, 0, 0), (116, .iconst 1, 1, 0, 0, 0), (117, .iadd, 1, 0, 0, 0), (118, .iadd, 1, 0, 0, 0), (119, .istore_n 2, 1, 0, 0, 0), (120, .goto 16, 3, 0, 0, 0), (123, .iload_n 2, 1, 0, 0, 0), (124, .aload_n 0, 1, 0, 0, 0), (125, .getfield 153, 3, 7, 13, 0), (128, .iload 4, 2, 0, 0, 0), (130, .iaload, 1, 0, 0, 0), (131, .invokestatic 211, 3, 21, 1, 0), (134, .iadd, 1, 0, 0, 0), (135, .istore_n 2, 1, 0, 0, 0), (136, .iinc 3 1, 3, 0, 0, 0), (139, .goto (-135), 3, 0, 0, 0), (142, .iload_n 2, 1, 0, 0, 0), (143, .ireturn, 1, 0, 0, 0)]
def aD_X3_steadyValueBytes : ax_D := (yX3_steadyValueBytes, cX3_steadyValueBytes, 5, (some .int), [], [], at_X3_steadyValueBytes, [])
def at_X4_init : List (Nat × ax_I) := [(0, .aload_n 0, 1, 0, 0, 0), (1, .invokespecial 3, 3, 901, 0, 0), (4, .aload_n 0, 1, 0, 0, 0), (5, .new 9, 3, 7, 0, 0), (8, .dup, 1, 0, 0, 0), (9, .invokespecial 11, 3, 77, 0, 0), (12, .putfield 12, 3, 3, 0, 0), (15, .aload_n 0, 1, 0, 0, 0), (16, .new 18, 3, 1, 0, 0), (19, .dup, 1, 0, 0, 0), (20, .invokespecial 20, 3, 6, 0, 0), (23, .putfield 21, 3, 3, 1, 0), (26, .aload_n 0, 1, 0, 0, 0), (27, .new 25, 3, 6, 0, 0), (30, .dup, 1, 0, 0, 0), (31, .invokespecial 27, 3, 71, 0, 0), (34, .putfield 28, 3, 3, 2, 0), (37, .aload_n 0, 1, 0, 0, 0), (38, .sipush 400, 3, 0, 0, 0), (41, .newarray .int, 2, 0, 0, 0), (43, .putfield 32, 3, 3, 5, 0), (46, .aload_n 0, 1, 0, 0, 0), (47, .sipush 3200, 3, 0, 0, 0), (50, .newarray .int, 2, 0, 0, 0), (52, .putfield 36, 3, 3, 6, 0), (55, .return_, 1, 0, 0, 0)]
def aD_X4_init : ax_D := (yX4_init, cX4_init, 1, none, [], [], at_X4_init, [])
def at_X4_readUnits : List (Nat × ax_I) := [(0, .aload_n 0, 1, 0, 0, 0), (1, .getfield 21, 3, 3, 1, 0), (4, .invokevirtual 39, 3, 8, 0, 0), (7, .aload_n 0, 1, 0, 0, 0), (8, .getfield 12, 3, 3, 0, 0), (11, .invokevirtual 42, 3, 79, 0, 0), (14, .aload_n 0, 1, 0, 0, 0), (15, .iconst (-1), 1, 0, 0, 0), (16, .putfield 45, 3, 3, 3, 0), (19, .aload_n 0, 1, 0, 0, 0), (20, .iconst 0, 1, 0, 0, 0), (21, .putfield 49, 3, 3, 4, 0), (24, .aload_n 1, 1, 0, 0, 0), (25, .getfield 52, 3, 4, 0, 0), (28, .invokevirtual 58, 3, 53, 0, 0), (31, .istore_n 2, 1, 0, 0, 0), (32, .iconst 0, 1, 0, 0, 0), (33, .istore_n 3, 1, 0, 0, 0), (34, .iconst 0, 1, 0, 0, 0), (35, .istore 4, 2, 0, 0, 0), (37, .iload 4, 2, 0, 0, 0), (39, .bipush 6, 2, 0, 0, 0), (41, .if_icmp .gt 131, 3, 0, 0, 0), (44, .iload_n 3, 1, 0, 0, 0), (45, .iload_n 2, 1, 0, 0, 0), (46, .if_icmp .ge 126, 3, 0, 0, 0), (49, .aload_n 0, 1, 0, 0, 0), (50, .getfield 21, 3, 3, 1, 0), (53, .aload_n 1, 1, 0, 0, 0), (54, .iconst 0, 1, 0, 0, 0), (55, .iload_n 3, 1, 0, 0, 0), (56, .iload_n 2, 1, 0, 0, 0), (57, .invokevirtual 64, 3, 7, 4, 0), (60, .iload 4, 2, 0, 0, 0), (62, .bipush 6, 2, 0, 0, 0), (64, .if_icmp .ne 13, 3, 0, 0, 0), (67, .aload_n 0, 1, 0, 0, 0), (68, .getfield 21, 3, 3, 1, 0), (71, .bipush 8, 2, 0, 0, 0), (73, .iload_n 3, 1, 0, 0, 0), (74, .invokevirtual 68, 3, 9, 2, 0), (77, .aload_n 0, 1, 0, 0, 0), (78, .aload_n 1, 1, 0, 0, 0), (79, .iload_n 3, 1, 0, 0, 0), (80, .invokevirtual 72, 3, 41, 2, 0), (83, .istore 5, 2, 0, 0, 0), (85, .aload_n 0, 1, 0, 0, 0), (86, .getfield 21, 3, 3, 1, 0), (89, .getfield 76, 3, 1, 1, 0), (92, .istore 6, 2, 0, 0, 0), (94, .aload_n 0, 1, 0, 0, 0), (95, .aload_n 1, 1, 0, 0, 0), (96, .iload 5, 2, 0, 0, 0), (98, .invokevirtual 79, 3, 42, 2, 0), (101, .aload_n 0, 1, 0, 0, 0), (102, .getfield 21, 3, 3, 1, 0), (105, .aload_n 1, 1, 0, 0, 0), (106, .iconst 0, 1, 0, 0, 0), (107, .iload_n 3, 1, 0, 0, 0), (108, .bipush 11, 2, 0, 0, 0), (110, .iadd, 1, 0, 0, 0), (111, .iload 6, 2, 0, 0, 0), (113, .invokevirtual 64, 3, 7, 4, 0), (116, .aload_n 0, 1, 0, 0, 0), (117, .aload_n 1, 1, 0, 0, 0), (118, .iload_n 3, 1, 0, 0, 0), (119, .invokevirtual 83, 3, 43, 2, 0), (122, .aload_n 0, 1, 0, 0, 0), (123, .getfield 21, 3, 3, 1, 0), (126, .getfield 86, 3, 1, 0, 0), (129, .iload 6, 2, 0, 0, 0), (131, .if_icmp .ge 18, 3, 0, 0, 0), (134, .aload_n 0, 1, 0, 0, 0), (135, .getfield 21, 3, 3, 1, 0), (138, .iconst 5, 1, 0, 0, 0), (139, .aload_n 0, 1, 0, 0, 0), (140, .getfield 21, 3, 3, 1, 0), (143, .getfield 86, 3, 1, 0, 0), (146, .invokevirtual 68, 3, 9, 2, 0), (149, .aload_n 0, 1, 0, 0, 0), (150, .aload_n 0, 1, 0, 0, 0), (151, .getfield 12, 3, 3, 0, 0), (154, .getfield 89, 3, 7, 2, 0), (157, .iload 4, 2, 0, 0, 0), (159, .iaload, 1, 0, 0, 0), (160, .invokevirtual 92, 3, 48, 1, 0), (163, .iload 6, 2, 0, 0, 0), (165, .istore_n 3, 1, 0, 0, 0), (166, .iinc 4 1, 3, 0, 0, 0), (169, .goto (-132), 3, 0, 0, 0), (172, .return_, 1, 0, 0, 0)]
def aD_X4_readUnits : ax_D := (yX4_readUnits, cX4_readUnits, 7, none, [], [], at_X4_readUnits, [])
def at_X4_readHeader : List (Nat × ax_I) := [(0, .aload_n 0, 1, 0, 0, 0), (1, .getfield 21, 3, 3, 1, 0), (4, .iconst 4, 1, 0, 0, 0), (5, .invokevirtual 96, 3, 10, 1, 0), (8, .lstore_n 3, 1, 0, 0, 0), (9, .lload_n 3, 1, 0, 0, 0), (10, .aload_n 0, 1, 0, 0, 0), (11, .getfield 21, 3, 3, 1, 0), (14, .getfield 76, 3, 1, 1, 0), (17, .aload_n 0, 1, 0, 0, 0), (18, .getfield 21, 3, 3, 1, 0), (21, .getfield 86, 3, 1, 0, 0), (24, .isub, 1, 0, 0, 0), (25, .i2l, 1, 0, 0, 0), (26, .lcmp, 1, 0, 0, 0), (27, .ifCond .le 12, 3, 0, 0, 0), (30, .aload_n 0, 1, 0, 0, 0), (31, .getfield 21, 3, 3, 1, 0), (34, .iconst 2, 1, 0, 0, 0), (35, .iload_n 2, 1, 0, 0, 0), (36, .invokevirtual 68, 3, 9, 2, 0), (39, .aload_n 0, 1, 0, 0, 0), (40, .getfield 21, 3, 3, 1, 0), (43, .aload_n 0, 1, 0, 0, 0), (44, .getfield 21, 3, 3, 1, 0), (47, .getfield 86, 3, 1, 0, 0), (50, .lload_n 3, 1, 0, 0, 0), (51, .l2i, 1, 0, 0, 0), (52, .iadd, 1, 0, 0, 0), (53, .putfield 76, 3, 1, 1, 0), (56, .aload_n 0, 1, 0, 0, 0), (57, .getfield 21, 3, 3, 1, 0), (60, .getfield 86, 3, 1, 0, 0), (63, .istore 5, 2, 0, 0, 0), (65, .aload_n 0, 1, 0, 0, 0), (66, .getfield 21, 3, 3, 1, 0), (69, .iconst 2, 1, 0, 0, 0), (70, .invokevirtual 96, 3, 10, 1, 0), (73, .ldc2_w 100, 3, 0, 0, 4), (76, .lcmp, 1, 0, 0, 0), (77, .ifCond .eq 13, 3, 0, 0, 0), (80, .aload_n 0, 1, 0, 0, 0), (81, .getfield 21, 3, 3, 1, 0), (84, .iconst 2, 1, 0, 0, 0), (85, .iload 5, 2, 0, 0, 0), (87, .invokevirtual 68, 3, 9, 2, 0), (90, .aload_n 0, 1, 0, 0, 0), (91, .getfield 21, 3, 3, 1, 0), (94, .getfield 86, 3, 1, 0, 0), (97, .istore 5, 2, 0, 0, 0), (99, .aload_n 0, 1, 0, 0, 0), (100, .getfield 21, 3, 3, 1, 0), (103, .iconst 4, 1, 0, 0, 0), (104, .invokevirtual 96, 3, 10, 1, 0), (107, .lstore 6, 2, 0, 0, 0), (109, .lload 6, 2, 0, 0, 0), (111, .aload_n 1, 1, 0, 0, 0), (112, .getfield 102, 3, 4, 1, 0), (115, .invokevirtual 58, 3, 53, 0, 0), (118, .i2l, 1, 0, 0, 0), (119, .lcmp, 1, 0, 0, 0), (120, .ifCond .le 13, 3, 0, 0, 0), (123, .aload_n 0, 1, 0, 0, 0), (124, .getfield 21, 3, 3, 1, 0), (127, .iconst 2, 1, 0, 0, 0), (128, .iload 5, 2, 0, 0, 0), (130, .invokevirtual 68, 3, 9, 2, 0), (133, .aload_n 0, 1, 0, 0, 0), (134, .getfield 21, 3, 3, 1, 0), (137, .getfield 86, 3, 1, 0, 0), (140, .istore 5, 2, 0, 0, 0), (142, .aload_n 0, 1, 0, 0, 0), (143, .getfield 21, 3, 3, 1, 0), (146, .iconst 1, 1, 0, 0, 0), (147, .invokevirtual 96, 3, 10, 1, 0), (150, .ldc2_w 105, 3, 0, 0, 8), (153, .lcmp, 1, 0, 0, 0), (154, .ifCond .eq 13, 3, 0, 0, 0), (157, .aload_n 0, 1, 0, 0, 0), (158, .getfield 21, 3, 3, 1, 0), (161, .iconst 2, 1, 0, 0, 0), (162, .iload 5, 2, 0, 0, 0), (164, .invokevirtual 68, 3, 9, 2, 0), (167, .lload 6, 2, 0, 0, 0), (169, .l2i, 1, 0, 0, 0), (170, .ireturn, 1, 0, 0, 0)]
def aD_X4_readHeader : ax_D := (yX4_readHeader, cX4_readHeader, 8, (some .int), [], [], at_X4_readHeader, [])
def at_X4_readTable : List (Nat × ax_I) := [(0, .iload_n 2, 1, 0, 0, 0), (1, .aload_n 0, 1, 0, 0, 0), (2, .getfield 45, 3, 3, 3, 0), (5, .if_icmp .eq 36, 3, 0, 0, 0), (8, .aload_n 0, 1, 0, 0, 0), (9, .getfield 21, 3, 3, 1, 0), (12, .aload_n 1, 1, 0, 0, 0), (13, .iconst 1, 1, 0, 0, 0), (14, .iload_n 2, 1, 0, 0, 0), (15, .aload_n 1, 1, 0, 0, 0), (16, .getfield 102, 3, 4, 1, 0), (19, .invokevirtual 58, 3, 53, 0, 0), (22, .invokevirtual 64, 3, 7, 4, 0), (25, .aload_n 0, 1, 0, 0, 0), (26, .getfield 28, 3, 3, 2, 0), (29, .aload_n 0, 1, 0, 0, 0), (30, .getfield 21, 3, 3, 1, 0), (33, .invokevirtual 107, 3, 73, 1, 0), (36, .aload_n 0, 1, 0, 0, 0), (37, .iload_n 2, 1, 0, 0, 0), (38, .putfield 45, 3, 3, 3, 0), (41, .return_, 1, 0, 0, 0)]
def aD_X4_readTable : ax_D := (yX4_readTable, cX4_readTable, 3, none, [], [], at_X4_readTable, [])
def at_X4_readEntries : List (Nat × ax_I) := [(0, .iconst (-1), 1, 0, 0, 0), (1, .istore_n 3, 1, 0, 0, 0), (2, .iconst 0, 1, 0, 0, 0), (3, .istore 4, 2, 0, 0, 0), (5, .iload 4, 2, 0, 0, 0), (7, .sipush 24000, 3, 0, 0, 0), (10, .if_icmp .gt 126, 3, 0, 0, 0), (13, .aload_n 0, 1, 0, 0, 0), (14, .getfield 21, 3, 3, 1, 0), (17, .getfield 86, 3, 1, 0, 0), (20, .istore 5, 2, 0, 0, 0), (22, .aload_n 0, 1, 0, 0, 0), (23, .getfield 21, 3, 3, 1, 0), (26, .invokevirtual 111, 3, 12, 0, 0), (29, .istore 6, 2, 0, 0, 0), (31, .iload 6, 2, 0, 0, 0), (33, .ifCond .ne 21, 3, 0, 0, 0), (36, .iload_n 3, 1, 0, 0, 0), (37, .iconst (-1), 1, 0, 0, 0), (38, .if_icmp .eq 16, 3, 0, 0, 0), (41, .aload_n 0, 1, 0, 0, 0), (42, .getfield 12, 3, 3, 0, 0), (45, .getfield 114, 3, 7, 4, 0), (48, .iload_n 3, 1, 0, 0, 0), (49, .iaload, 1, 0, 0, 0), (50, .istore_n 3, 1, 0, 0, 0), (51, .goto 73, 3, 0, 0, 0), (54, .aload_n 0, 1, 0, 0, 0), (55, .getfield 28, 3, 3, 2, 0), (58, .iload 6, 2, 0, 0, 0), (60, .invokevirtual 117, 3, 72, 1, 0), (63, .istore 7, 2, 0, 0, 0), (65, .iload 7, 2, 0, 0, 0), (67, .iconst (-1), 1, 0, 0, 0), (68, .if_icmp .ne 13, 3, 0, 0, 0), (71, .aload_n 0, 1, 0, 0, 0), (72, .getfield 21, 3, 3, 1, 0), (75, .iconst 5, 1, 0, 0, 0), (76, .iload 5, 2, 0, 0, 0), (78, .invokevirtual 68, 3, 9, 2, 0), (81, .aload_n 0, 1, 0, 0, 0), (82, .aload_n 1, 1, 0, 0, 0), (83, .iload_n 3, 1, 0, 0, 0), (84, .iload 7, 2, 0, 0, 0), (86, .iload 5, 2, 0, 0, 0), (88, .invokevirtual 121, 3, 44, 4, 0), (91, .istore 8, 2, 0, 0, 0), (93, .aload_n 0, 1, 0, 0, 0), (94, .getfield 32, 3, 3, 5, 0), (97, .iload 8, 2, 0, 0, 0), (99, .iload 5, 2, 0, 0, 0), (101, .iload_n 2, 1, 0, 0, 0), (102, .isub, 1, 0, 0, 0), (103, .iastore, 1, 0, 0, 0), (104, .aload_n 0, 1, 0, 0, 0), (105, .getfield 28, 3, 3, 2, 0), (108, .getfield 125, 3, 6, 1, 0), (111, .iload 7, 2, 0, 0, 0), (113, .baload, 1, 0, 0, 0), (114, .ifCond .eq 8, 3, 0, 0, 0), (117, .iload 8, 2, 0, 0, 0), (119, .goto 4, 3, 0, 0, 0), (122, .iload_n 3, 1, 0, 0, 0), (123, .istore_n 3, 1, 0, 0, 0), (124, .iload_n 3, 1, 0, 0, 0), (125, .iconst (-1), 1, 0, 0, 0), (126, .if_icmp .ne 4, 3, 0, 0, 0), (129, .return_, 1, 0, 0, 0), (130, .iinc 4 1, 3, 0, 0, 0), (133, .goto (-128), 3, 0, 0, 0), (136, .return_, 1, 0, 0, 0)]
def aD_X4_readEntries : ax_D := (yX4_readEntries, cX4_readEntries, 9, none, [], [], at_X4_readEntries, [])
def at_X4_readEntry : List (Nat × ax_I) := [(0, .aload_n 0, 1, 0, 0, 0), (1, .getfield 12, 3, 3, 0, 0), (4, .getfield 129, 3, 7, 1, 0), (7, .sipush 400, 3, 0, 0, 0), (10, .if_icmp .eq 22, 3, 0, 0, 0), (13, .iload_n 2, 1, 0, 0, 0), (14, .iconst (-1), 1, 0, 0, 0), (15, .if_icmp .eq 28, 3, 0, 0, 0), (18, .aload_n 0, 1, 0, 0, 0), (19, .getfield 12, 3, 3, 0, 0), (22, .getfield 131, 3, 7, 6, 0), (25, .iload_n 2, 1, 0, 0, 0), (26, .iaload, 1, 0, 0, 0), (27, .bipush 30, 2, 0, 0, 0), (29, .if_icmp .ne 14, 3, 0, 0, 0), (32, .aload_n 0, 1, 0, 0, 0), (33, .getfield 21, 3, 3, 1, 0), (36, .bipush 8, 2, 0, 0, 0), (38, .iload 4, 2, 0, 0, 0), (40, .invokevirtual 68, 3, 9, 2, 0), (43, .iload_n 2, 1, 0, 0, 0), (44, .iconst (-1), 1, 0, 0, 0), (45, .if_icmp .ne 22, 3, 0, 0, 0), (48, .aload_n 0, 1, 0, 0, 0), (49, .getfield 12, 3, 3, 0, 0), (52, .aload_n 0, 1, 0, 0, 0), (53, .getfield 28, 3, 3, 2, 0), (56, .getfield 134, 3, 6, 0, 0), (59, .iload_n 3, 1, 0, 0, 0), (60, .iaload, 1, 0, 0, 0), (61, .invokevirtual 137, 3, 80, 1, 0), (64, .goto 20, 3, 0, 0, 0), (67, .aload_n 0, 1, 0, 0, 0), (68, .getfield 12, 3, 3, 0, 0), (71, .iload_n 2, 1, 0, 0, 0), (72, .aload_n 0, 1, 0, 0, 0), (73, .getfield 28, 3, 3, 2, 0), (76, .getfield 134, 3, 6, 0, 0), (79, .iload_n 3, 1, 0, 0, 0), (80, .iaload, 1, 0, 0, 0), (81, .invokevirtual 140, 3, 81, 2, 0), (84, .istore 5, 2, 0, 0, 0), (86, .iconst 0, 1, 0, 0, 0), (87, .istore 6, 2, 0, 0, 0), (89, .iload 6, 2, 0, 0, 0), (91, .aload_n 0, 1, 0, 0, 0), (92, .getfield 28, 3, 3, 2, 0), (95, .getfield 144, 3, 6, 2, 0), (98, .iload_n 3, 1, 0, 0, 0), (99, .iaload, 1, 0, 0, 0), (100, .if_icmp .ge 89, 3, 0, 0, 0), (103, .iload_n 3, 1, 0, 0, 0), (104, .iload 6, 2, 0, 0, 0), (106, .invokestatic 147, 3, 78, 2, 0), (109, .istore 7, 2, 0, 0, 0), (111, .aload_n 0, 1, 0, 0, 0), (112, .getfield 28, 3, 3, 2, 0), (115, .getfield 150, 3, 6, 4, 0), (118, .iload 7, 2, 0, 0, 0), (120, .iaload, 1, 0, 0, 0), (121, .invokestatic 153, 3, 16, 1, 0), (124, .ifCond .eq 33, 3, 0, 0, 0), (127, .aload_n 0, 1, 0, 0, 0), (128, .aload_n 1, 1, 0, 0, 0), (129, .iload 5, 2, 0, 0, 0), (131, .aload_n 0, 1, 0, 0, 0), (132, .getfield 28, 3, 3, 2, 0), (135, .getfield 159, 3, 6, 3, 0), (138, .iload 7, 2, 0, 0, 0), (140, .iaload, 1, 0, 0, 0), (141, .aload_n 0, 1, 0, 0, 0), (142, .getfield 28, 3, 3, 2, 0), (145, .getfield 150, 3, 6, 4, 0), (148, .iload 7, 2, 0, 0, 0), (150, .iaload, 1, 0, 0, 0), (151, .invokevirtual 162, 3, 46, 4, 0), (154, .goto 29, 3, 0, 0, 0), (157, .aload_n 0, 1, 0, 0, 0), (158, .iload 5, 2, 0, 0, 0), (160, .aload_n 0, 1, 0, 0, 0), (161, .getfield 28, 3, 3, 2, 0), (164, .getfield 159, 3, 6, 3, 0), (167, .iload 7, 2, 0, 0, 0), (169, .iaload, 1, 0, 0, 0), (170, .aload_n 0, 1, 0, 0, 0), (171, .getfield 28, 3, 3, 2, 0), (174, .getfield 150, 3, 6, 4, 0), (177, .iload 7, 2, 0, 0, 0), (179, .iaload, 1, 0, 0, 0), (180, .invokevirtual 165, 3, 45, 3, 0), (183, .iinc 6 1, 3, 0, 0, 0), (186, .goto (-97), 3, 0, 0, 0), (189, .iload 5, 2, 0, 0, 0), (191, .ireturn, 1, 0, 0, 0)]
def aD_X4_readEntry : ax_D := (yX4_readEntry, cX4_readEntry, 8, (some .int), [], [], at_X4_readEntry, [])
def at_X4_readNumber : List (Nat × ax_I) := [(0, .aload_n 0, 1, 0, 0, 0), (1, .getfield 21, 3, 3, 1, 0), (4, .getfield 86, 3, 1, 0, 0), (7, .istore 4, 2, 0, 0, 0), (9, .aload_n 0, 1, 0, 0, 0), (10, .getfield 36, 3, 3, 6, 0), (13, .iload_n 1, 1, 0, 0, 0), (14, .aload_n 0, 1, 0, 0, 0), (15, .getfield 12, 3, 3, 0, 0), (18, .getfield 169, 3, 7, 11, 0), (21, .iload_n 1, 1, 0, 0, 0), (22, .iaload, 1, 0, 0, 0), (23, .invokestatic 147, 3, 78, 2, 0), (26, .iload 4, 2, 0, 0, 0), (28, .iastore, 1, 0, 0, 0), (29, .iload_n 3, 1, 0, 0, 0), (30, .lookupswitch 87 #[(13, 42), (15, 55), (21, 68), (25, 81)], 42, 0, 0, 0), (72, .aload_n 0, 1, 0, 0, 0), (73, .getfield 21, 3, 3, 1, 0), (76, .iconst 1, 1, 0, 0, 0), (77, .invokevirtual 170, 3, 11, 1, 0), (80, .lstore 5, 2, 0, 0, 0), (82, .goto 48, 3, 0, 0, 0), (85, .aload_n 0, 1, 0, 0, 0), (86, .getfield 21, 3, 3, 1, 0), (89, .iconst 0, 1, 0, 0, 0), (90, .invokevirtual 170, 3, 11, 1, 0), (93, .lstore 5, 2, 0, 0, 0), (95, .goto 35, 3, 0, 0, 0), (98, .aload_n 0, 1, 0, 0, 0), (99, .getfield 21, 3, 3, 1, 0), (102, .invokevirtual 111, 3, 12, 0, 0), (105, .i2l, 1, 0, 0, 0), (106, .lstore 5, 2, 0, 0, 0), (108, .goto 22, 3, 0, 0, 0), (111, .lconst 1, 1, 0, 0, 0), (112, .lstore 5, 2, 0, 0, 0), (114, .goto 16, 3, 0, 0, 0), (117, .aload_n 0, 1, 0, 0, 0), (118, .getfield 21, 3, 3, 1, 0), (121, .iload_n 3, 1, 0, 0, 0), (122, .invokestatic 174, 3, 21, 1, 0), (125, .invokevirtual 96, 3, 10, 1, 0), (128, .lstore 5, 2, 0, 0, 0), (130, .iload_n 3, 1, 0, 0, 0), (131, .bipush 12, 2, 0, 0, 0), (133, .if_icmp .ne 21, 3, 0, 0, 0), (136, .lload 5, 2, 0, 0, 0), (138, .lconst 1, 1, 0, 0, 0), (139, .lcmp, 1, 0, 0, 0), (140, .ifCond .le 14, 3, 0, 0, 0), (143, .aload_n 0, 1, 0, 0, 0), (144, .getfield 21, 3, 3, 1, 0), (147, .bipush 6, 2, 0, 0, 0), (149, .iload 4, 2, 0, 0, 0), (151, .invokevirtual 68, 3, 9, 2, 0), (154, .aload_n 0, 1, 0, 0, 0), (155, .getfield 12, 3, 3, 0, 0), (158, .iload_n 1, 1, 0, 0, 0), (159, .iload_n 2, 1, 0, 0, 0), (160, .iload_n 3, 1, 0, 0, 0), (161, .lload 5, 2, 0, 0, 0), (163, .iconst 0, 1, 0, 0, 0), (164, .invokevirtual 177, 3, 83, 5, 0), (167, .pop, 1, 0, 0, 0), (168, .return_, 1, 0, 0, 0)]
def aD_X4_readNumber : ax_D := (yX4_readNumber, cX4_readNumber, 7, none, [], [], at_X4_readNumber, [])
def at_X4_readLetters : List (Nat × ax_I) := [(0, .aload_n 0, 1, 0, 0, 0), (1, .getfield 21, 3, 3, 1, 0), (4, .getfield 86, 3, 1, 0, 0), (7, .istore 5, 2, 0, 0, 0), (9, .iload 5, 2, 0, 0, 0), (11, .istore 6, 2, 0, 0, 0), (13, .iload 4, 2, 0, 0, 0), (15, .bipush 8, 2, 0, 0, 0), (17, .if_icmp .ne 15, 3, 0, 0, 0), (20, .aload_n 0, 1, 0, 0, 0), (21, .getfield 21, 3, 3, 1, 0), (24, .invokevirtual 181, 3, 13, 0, 0), (27, .istore 7, 2, 0, 0, 0), (29, .goto 68, 3, 0, 0, 0), (32, .iload 4, 2, 0, 0, 0), (34, .bipush 10, 2, 0, 0, 0), (36, .if_icmp .ne 35, 3, 0, 0, 0), (39, .aload_n 0, 1, 0, 0, 0), (40, .getfield 21, 3, 3, 1, 0), (43, .iconst 1, 1, 0, 0, 0), (44, .invokevirtual 96, 3, 10, 1, 0), (47, .l2i, 1, 0, 0, 0), (48, .istore 7, 2, 0, 0, 0), (50, .aload_n 0, 1, 0, 0, 0), (51, .getfield 21, 3, 3, 1, 0), (54, .getfield 86, 3, 1, 0, 0), (57, .istore 6, 2, 0, 0, 0), (59, .aload_n 0, 1, 0, 0, 0), (60, .getfield 21, 3, 3, 1, 0), (63, .iload 7, 2, 0, 0, 0), (65, .invokevirtual 184, 3, 14, 1, 0), (68, .goto 29, 3, 0, 0, 0), (71, .aload_n 0, 1, 0, 0, 0), (72, .getfield 21, 3, 3, 1, 0), (75, .iconst 4, 1, 0, 0, 0), (76, .invokevirtual 96, 3, 10, 1, 0), (79, .lstore 8, 2, 0, 0, 0), (81, .aload_n 1, 1, 0, 0, 0), (82, .getfield 187, 3, 4, 2, 0), (85, .lload 8, 2, 0, 0, 0), (87, .invokestatic 190, 3, 47, 2, 0), (90, .istore 7, 2, 0, 0, 0), (92, .lload 8, 2, 0, 0, 0), (94, .l2i, 1, 0, 0, 0), (95, .istore 6, 2, 0, 0, 0), (97, .iload 7, 2, 0, 0, 0), (99, .ifCond .lt 11, 3, 0, 0, 0), (102, .iload 7, 2, 0, 0, 0), (104, .sipush 255, 3, 0, 0, 0), (107, .if_icmp .le 14, 3, 0, 0, 0), (110, .aload_n 0, 1, 0, 0, 0), (111, .getfield 21, 3, 3, 1, 0), (114, .bipush 6, 2, 0, 0, 0), (116, .iload 5, 2, 0, 0, 0), (118, .invokevirtual 68, 3, 9, 2, 0), (121, .aload_n 0, 1, 0, 0, 0), (122, .dup, 1, 0, 0, 0), (123, .getfield 49, 3, 3, 4, 0), (126, .iload 7, 2, 0, 0, 0), (128, .iadd, 1, 0, 0, 0), (129, .putfield 49, 3, 3, 4, 0), (132, .aload_n 0, 1, 0, 0, 0), (133, .getfield 49, 3, 3, 4, 0), (136, .sipush 30000, 3, 0, 0, 0), (139, .if_icmp .le 14, 3, 0, 0, 0), (142, .aload_n 0, 1, 0, 0, 0), (143, .getfield 21, 3, 3, 1, 0), (146, .bipush 8, 2, 0, 0, 0), (148, .iload 5, 2, 0, 0, 0), (150, .invokevirtual 68, 3, 9, 2, 0), (153, .aload_n 0, 1, 0, 0, 0), (154, .getfield 12, 3, 3, 0, 0), (157, .iload_n 2, 1, 0, 0, 0), (158, .iload_n 3, 1, 0, 0, 0), (159, .iload 4, 2, 0, 0, 0), (161, .iload 6, 2, 0, 0, 0), (163, .i2l, 1, 0, 0, 0), (164, .iload 7, 2, 0, 0, 0), (166, .invokevirtual 177, 3, 83, 5, 0), (169, .pop, 1, 0, 0, 0), (170, .return_, 1, 0, 0, 0)]
def aD_X4_readLetters : ax_D := (yX4_readLetters, cX4_readLetters, 10, none, [], [], at_X4_readLetters, [])
def at_X4_keptLength : List (Nat × ax_I) := [(0, .lload_n 1, 1, 0, 0, 0), (1, .aload_n 0, 1, 0, 0, 0), (2, .invokevirtual 58, 3, 53, 0, 0), (5, .i2l, 1, 0, 0, 0), (6, .lcmp, 1, 0, 0, 0), (7, .ifCond .lt 5, 3, 0, 0, 0), (10, .iconst (-1), 1, 0, 0, 0), (11, .ireturn, 1, 0, 0, 0), (12, .lload_n 1, 1, 0, 0, 0), (13, .l2i, 1, 0, 0, 0), (14, .istore_n 3, 1, 0, 0, 0), (15, .aload_n 0, 1, 0, 0, 0), (16, .iload_n 3, 1, 0, 0, 0), (17, .aload_n 0, 1, 0, 0, 0), (18, .invokevirtual 58, 3, 53, 0, 0), (21, .invokevirtual 194, 3, 68, 2, 0), (24, .istore 4, 2, 0, 0, 0), (26, .iload 4, 2, 0, 0, 0), (28, .iconst (-1), 1, 0, 0, 0), (29, .if_icmp .ne 7, 3, 0, 0, 0), (32, .iconst (-1), 1, 0, 0, 0), (33, .goto 7, 3, 0, 0, 0), (36, .iload 4, 2, 0, 0, 0), (38, .iload_n 3, 1, 0, 0, 0), (39, .isub, 1, 0, 0, 0), (40, .ireturn, 1, 0, 0, 0)]
def aD_X4_keptLength : ax_D := (yX4_keptLength, cX4_keptLength, 5, (some .int), [], [], at_X4_keptLength, [])
def at_X4_resolveReferences : List (Nat × ax_I) := [(0, .iload_n 1, 1, 0, 0, 0), (1, .istore_n 2, 1, 0, 0, 0), (2, .iload_n 2, 1, 0, 0, 0), (3, .aload_n 0, 1, 0, 0, 0), (4, .getfield 12, 3, 3, 0, 0), (7, .getfield 129, 3, 7, 1, 0), (10, .if_icmp .ge 105, 3, 0, 0, 0), (13, .iconst 0, 1, 0, 0, 0), (14, .istore_n 3, 1, 0, 0, 0), (15, .iload_n 3, 1, 0, 0, 0), (16, .aload_n 0, 1, 0, 0, 0), (17, .getfield 12, 3, 3, 0, 0), (20, .getfield 169, 3, 7, 11, 0), (23, .iload_n 2, 1, 0, 0, 0), (24, .iaload, 1, 0, 0, 0), (25, .if_icmp .ge 84, 3, 0, 0, 0), (28, .iload_n 2, 1, 0, 0, 0), (29, .iload_n 3, 1, 0, 0, 0), (30, .invokestatic 147, 3, 78, 2, 0), (33, .istore 4, 2, 0, 0, 0), (35, .aload_n 0, 1, 0, 0, 0), (36, .getfield 12, 3, 3, 0, 0), (39, .getfield 197, 3, 7, 13, 0), (42, .iload 4, 2, 0, 0, 0), (44, .iaload, 1, 0, 0, 0), (45, .invokestatic 198, 3, 17, 1, 0), (48, .ifCond .eq 55, 3, 0, 0, 0), (51, .aload_n 0, 1, 0, 0, 0), (52, .iload_n 1, 1, 0, 0, 0), (53, .aload_n 0, 1, 0, 0, 0), (54, .getfield 12, 3, 3, 0, 0), (57, .getfield 201, 3, 7, 14, 0), (60, .iload 4, 2, 0, 0, 0), (62, .laload, 1, 0, 0, 0), (63, .invokevirtual 205, 3, 49, 2, 0), (66, .istore 5, 2, 0, 0, 0), (68, .iload 5, 2, 0, 0, 0), (70, .iconst (-1), 1, 0, 0, 0), (71, .if_icmp .ne 19, 3, 0, 0, 0), (74, .aload_n 0, 1, 0, 0, 0), (75, .getfield 21, 3, 3, 1, 0), (78, .bipush 7, 2, 0, 0, 0), (80, .aload_n 0, 1, 0, 0, 0), (81, .getfield 36, 3, 3, 6, 0), (84, .iload 4, 2, 0, 0, 0), (86, .iaload, 1, 0, 0, 0), (87, .invokevirtual 68, 3, 9, 2, 0), (90, .aload_n 0, 1, 0, 0, 0), (91, .getfield 12, 3, 3, 0, 0), (94, .getfield 201, 3, 7, 14, 0), (97, .iload 4, 2, 0, 0, 0), (99, .iload 5, 2, 0, 0, 0), (101, .i2l, 1, 0, 0, 0), (102, .lastore, 1, 0, 0, 0), (103, .iinc 3 1, 3, 0, 0, 0), (106, .goto (-91), 3, 0, 0, 0), (109, .iinc 2 1, 3, 0, 0, 0), (112, .goto (-110), 3, 0, 0, 0), (115, .return_, 1, 0, 0, 0)]
def aD_X4_resolveReferences : ax_D := (yX4_resolveReferences, cX4_resolveReferences, 6, none, [], [], at_X4_resolveReferences, [])
def at_X4_entryAt : List (Nat × ax_I) := [(0, .iload_n 1, 1, 0, 0, 0), (1, .istore 4, 2, 0, 0, 0), (3, .aload_n 0, 1, 0, 0, 0), (4, .getfield 12, 3, 3, 0, 0), (7, .getfield 129, 3, 7, 1, 0), (10, .iconst 1, 1, 0, 0, 0), (11, .isub, 1, 0, 0, 0), (12, .istore 5, 2, 0, 0, 0), (14, .iconst 0, 1, 0, 0, 0), (15, .istore 6, 2, 0, 0, 0), (17, .iload 6, 2, 0, 0, 0), (19, .sipush 400, 3, 0, 0, 0), (22, .if_icmp .ge 69, 3, 0, 0, 0), (25, .iload 4, 2, 0, 0, 0), (27, .iload 5, 2, 0, 0, 0), (29, .if_icmp .gt 62, 3, 0, 0, 0), (32, .iload 4, 2, 0, 0, 0), (34, .iload 5, 2, 0, 0, 0), (36, .iadd, 1, 0, 0, 0), (37, .iconst 2, 1, 0, 0, 0), (38, .idiv, 1, 0, 0, 0), (39, .istore 7, 2, 0, 0, 0), (41, .aload_n 0, 1, 0, 0, 0), (42, .getfield 32, 3, 3, 5, 0), (45, .iload 7, 2, 0, 0, 0), (47, .iaload, 1, 0, 0, 0), (48, .i2l, 1, 0, 0, 0), (49, .lload_n 2, 1, 0, 0, 0), (50, .lcmp, 1, 0, 0, 0), (51, .ifCond .ne 6, 3, 0, 0, 0), (54, .iload 7, 2, 0, 0, 0), (56, .ireturn, 1, 0, 0, 0), (57, .aload_n 0, 1, 0, 0, 0), (58, .getfield 32, 3, 3, 5, 0), (61, .iload 7, 2, 0, 0, 0), (63, .iaload, 1, 0, 0, 0), (64, .i2l, 1, 0, 0, 0), (65, .lload_n 2, 1, 0, 0, 0), (66, .lcmp, 1, 0, 0, 0), (67, .ifCond .ge 12, 3, 0, 0, 0), (70, .iload 7, 2, 0, 0, 0), (72, .iconst 1, 1, 0, 0, 0), (73, .iadd, 1, 0, 0, 0), (74, .istore 4, 2, 0, 0, 0), (76, .goto 9, 3, 0, 0, 0), (79, .iload 7, 2, 0, 0, 0), (81, .iconst 1, 1, 0, 0, 0), (82, .isub, 1, 0, 0, 0), (83, .istore 5, 2, 0, 0, 0), (85, .iinc 6 1, 3, 0, 0, 0), (88, .goto (-71), 3, 0, 0, 0), (91, .iconst (-1), 1, 0, 0, 0), (92, .ireturn, 1, 0, 0, 0)]
def aD_X4_entryAt : ax_D := (yX4_entryAt, cX4_entryAt, 8, (some .int), [], [], at_X4_entryAt, [])
def at_X5_init : List (Nat × ax_I) := [(0, .aload_n 0, 1, 0, 0, 0), (1, .invokespecial 3, 3, 901, 0, 0), (4, .aload_n 0, 1, 0, 0, 0), (5, .new 9, 3, 5, 0, 0), (8, .dup, 1, 0, 0, 0), (9, .sipush 24000, 3, 0, 0, 0), (12, .invokespecial 11, 3, 52, 1, 0), (15, .putfield 14, 3, 4, 0, 0), (18, .aload_n 0, 1, 0, 0, 0), (19, .new 9, 3, 5, 0, 0), (22, .dup, 1, 0, 0, 0), (23, .sipush 8000, 3, 0, 0, 0), (26, .invokespecial 11, 3, 52, 1, 0), (29, .putfield 20, 3, 4, 1, 0), (32, .aload_n 0, 1, 0, 0, 0), (33, .new 9, 3, 5, 0, 0), (36, .dup, 1, 0, 0, 0), (37, .sipush 8000, 3, 0, 0, 0), (40, .invokespecial 11, 3, 52, 1, 0), (43, .putfield 23, 3, 4, 2, 0), (46, .return_, 1, 0, 0, 0)]
def aD_X5_init : ax_D := (yX5_init, cX5_init, 1, none, [], [], at_X5_init, [])
def at_X5_of : List (Nat × ax_I) := [(0, .iload_n 1, 1, 0, 0, 0), (1, .ifCond .ne 8, 3, 0, 0, 0), (4, .aload_n 0, 1, 0, 0, 0), (5, .getfield 14, 3, 4, 0, 0), (8, .areturn, 1, 0, 0, 0), (9, .iload_n 1, 1, 0, 0, 0), (10, .iconst 1, 1, 0, 0, 0), (11, .if_icmp .ne 10, 3, 0, 0, 0), (14, .aload_n 0, 1, 0, 0, 0), (15, .getfield 20, 3, 4, 1, 0), (18, .goto 7, 3, 0, 0, 0), (21, .aload_n 0, 1, 0, 0, 0), (22, .getfield 23, 3, 4, 2, 0), (25, .areturn, 1, 0, 0, 0)]
def aD_X5_of : ax_D := (yX5_of, cX5_of, 2, (some (.object "EntryTree$Store")), [], [], at_X5_of, [])
def at_X6_init : List (Nat × ax_I) := [(0, .aload_n 0, 1, 0, 0, 0), (1, .invokespecial 3, 3, 901, 0, 0), (4, .aload_n 0, 1, 0, 0, 0), (5, .iload_n 1, 1, 0, 0, 0), (6, .iconst 0, 1, 0, 0, 0), (7, .invokestatic 9, 3, 900, 0, 0), (10, .newarray .byte, 2, 0, 0, 0), (12, .putfield 15, 3, 5, 0, 0), (15, .return_, 1, 0, 0, 0)]
def aD_X6_init : ax_D := (yX6_init, cX6_init, 2, none, [], [], at_X6_init, [])
def at_X6_used : List (Nat × ax_I) := [(0, .aload_n 0, 1, 0, 0, 0), (1, .getfield 21, 3, 5, 1, 0), (4, .ireturn, 1, 0, 0, 0)]
def aD_X6_used : ax_D := (yX6_used, cX6_used, 1, (some .int), [], [], at_X6_used, [])
def at_X6_most : List (Nat × ax_I) := [(0, .aload_n 0, 1, 0, 0, 0), (1, .getfield 15, 3, 5, 0, 0), (4, .arraylength, 1, 0, 0, 0), (5, .ireturn, 1, 0, 0, 0)]
def aD_X6_most : ax_D := (yX6_most, cX6_most, 1, (some .int), [], [], at_X6_most, [])
def at_X6_room : List (Nat × ax_I) := [(0, .aload_n 0, 1, 0, 0, 0), (1, .getfield 15, 3, 5, 0, 0), (4, .arraylength, 1, 0, 0, 0), (5, .aload_n 0, 1, 0, 0, 0), (6, .getfield 21, 3, 5, 1, 0), (9, .isub, 1, 0, 0, 0), (10, .ireturn, 1, 0, 0, 0)]
def aD_X6_room : ax_D := (yX6_room, cX6_room, 1, (some .int), [], [], at_X6_room, [])
def at_X6_at : List (Nat × ax_I) := [(0, .iload_n 1, 1, 0, 0, 0), (1, .ifCond .lt 24, 3, 0, 0, 0), (4, .iload_n 1, 1, 0, 0, 0), (5, .aload_n 0, 1, 0, 0, 0), (6, .getfield 21, 3, 5, 1, 0), (9, .if_icmp .ge 16, 3, 0, 0, 0), (12, .aload_n 0, 1, 0, 0, 0), (13, .getfield 15, 3, 5, 0, 0), (16, .iload_n 1, 1, 0, 0, 0), (17, .baload, 1, 0, 0, 0), (18, .sipush 255, 3, 0, 0, 0), (21, .iand, 1, 0, 0, 0), (22, .goto 4, 3, 0, 0, 0), (25, .iconst 0, 1, 0, 0, 0), (26, .ireturn, 1, 0, 0, 0)]
def aD_X6_at : ax_D := (yX6_at, cX6_at, 2, (some .int), [], [], at_X6_at, [])
def at_X6_change : List (Nat × ax_I) := [(0, .iload_n 1, 1, 0, 0, 0), (1, .ifCond .lt 26, 3, 0, 0, 0), (4, .iload_n 1, 1, 0, 0, 0), (5, .aload_n 0, 1, 0, 0, 0), (6, .getfield 21, 3, 5, 1, 0), (9, .if_icmp .ge 18, 3, 0, 0, 0), (12, .aload_n 0, 1, 0, 0, 0), (13, .getfield 15, 3, 5, 0, 0), (16, .iload_n 1, 1, 0, 0, 0), (17, .aload_n 0, 1, 0, 0, 0), (18, .getfield 15, 3, 5, 0, 0), (21, .iload_n 1, 1, 0, 0, 0), (22, .baload, 1, 0, 0, 0), (23, .iload_n 2, 1, 0, 0, 0), (24, .ixor, 1, 0, 0, 0), (25, .i2b, 1, 0, 0, 0), (26, .bastore, 1, 0, 0, 0), (27, .return_, 1, 0, 0, 0)]
def aD_X6_change : ax_D := (yX6_change, cX6_change, 3, none, [], [], at_X6_change, [])
def at_X6_cut : List (Nat × ax_I) := [(0, .iload_n 1, 1, 0, 0, 0), (1, .ifCond .lt 16, 3, 0, 0, 0), (4, .iload_n 1, 1, 0, 0, 0), (5, .aload_n 0, 1, 0, 0, 0), (6, .getfield 21, 3, 5, 1, 0), (9, .if_icmp .ge 8, 3, 0, 0, 0), (12, .aload_n 0, 1, 0, 0, 0), (13, .iload_n 1, 1, 0, 0, 0), (14, .putfield 21, 3, 5, 1, 0), (17, .return_, 1, 0, 0, 0)]
def aD_X6_cut : ax_D := (yX6_cut, cX6_cut, 2, none, [], [], at_X6_cut, [])
def at_X6_add : List (Nat × ax_I) := [(0, .aload_n 0, 1, 0, 0, 0), (1, .getfield 21, 3, 5, 1, 0), (4, .aload_n 0, 1, 0, 0, 0), (5, .getfield 15, 3, 5, 0, 0), (8, .arraylength, 1, 0, 0, 0), (9, .if_icmp .ge 24, 3, 0, 0, 0), (12, .aload_n 0, 1, 0, 0, 0), (13, .getfield 15, 3, 5, 0, 0), (16, .aload_n 0, 1, 0, 0, 0), (17, .getfield 21, 3, 5, 1, 0), (20, .iload_n 1, 1, 0, 0, 0), (21, .i2b, 1, 0, 0, 0), (22, .bastore, 1, 0, 0, 0), (23, .aload_n 0, 1, 0, 0, 0), (24, .dup, 1, 0, 0, 0), (25, .getfield 21, 3, 5, 1, 0), (28, .iconst 1, 1, 0, 0, 0), (29, .iadd, 1, 0, 0, 0), (30, .putfield 21, 3, 5, 1, 0), (33, .return_, 1, 0, 0, 0)]
def aD_X6_add : ax_D := (yX6_add, cX6_add, 2, none, [], [], at_X6_add, [])
def at_X6_addHighFirst : List (Nat × ax_I) := [(0, .bipush 24, 2, 0, 0, 0), (2, .istore_n 2, 1, 0, 0, 0), (3, .iload_n 2, 1, 0, 0, 0), (4, .ifCond .lt 16, 3, 0, 0, 0), (7, .aload_n 0, 1, 0, 0, 0), (8, .iload_n 1, 1, 0, 0, 0), (9, .iload_n 2, 1, 0, 0, 0), (10, .ishr, 1, 0, 0, 0), (11, .invokevirtual 25, 3, 59, 1, 0), (14, .iinc 2 (-8), 3, 0, 0, 0), (17, .goto (-14), 3, 0, 0, 0), (20, .return_, 1, 0, 0, 0)]
def aD_X6_addHighFirst : ax_D := (yX6_addHighFirst, cX6_addHighFirst, 3, none, [], [], at_X6_addHighFirst, [])
def at_X6_addLowFirst : List (Nat × ax_I) := [(0, .iconst 0, 1, 0, 0, 0), (1, .istore 4, 2, 0, 0, 0), (3, .iload 4, 2, 0, 0, 0), (5, .iload_n 3, 1, 0, 0, 0), (6, .if_icmp .ge 21, 3, 0, 0, 0), (9, .aload_n 0, 1, 0, 0, 0), (10, .lload_n 1, 1, 0, 0, 0), (11, .bipush 8, 2, 0, 0, 0), (13, .iload 4, 2, 0, 0, 0), (15, .imul, 1, 0, 0, 0), (16, .lshr, 1, 0, 0, 0), (17, .l2i, 1, 0, 0, 0), (18, .invokevirtual 25, 3, 59, 1, 0), (21, .iinc 4 1, 3, 0, 0, 0), (24, .goto (-21), 3, 0, 0, 0), (27, .return_, 1, 0, 0, 0)]
def aD_X6_addLowFirst : ax_D := (yX6_addLowFirst, cX6_addLowFirst, 5, none, [], [], at_X6_addLowFirst, [])
def at_X6_addRow : List (Nat × ax_I) := [(0, .aload_n 0, 1, 0, 0, 0), (1, .lload_n 1, 1, 0, 0, 0), (2, .lload_n 1, 1, 0, 0, 0), (3, .invokestatic 29, 3, 69, 1, 0), (6, .invokevirtual 33, 3, 64, 2, 0), (9, .return_, 1, 0, 0, 0)]
def aD_X6_addRow : ax_D := (yX6_addRow, cX6_addRow, 3, none, [], [], at_X6_addRow, [])
def at_X6_addSignedRow : List (Nat × ax_I) := [(0, .aload_n 0, 1, 0, 0, 0), (1, .lload_n 1, 1, 0, 0, 0), (2, .lload_n 1, 1, 0, 0, 0), (3, .invokestatic 37, 3, 70, 1, 0), (6, .invokevirtual 33, 3, 64, 2, 0), (9, .return_, 1, 0, 0, 0)]
def aD_X6_addSignedRow : ax_D := (yX6_addSignedRow, cX6_addSignedRow, 3, none, [], [], at_X6_addSignedRow, [])
def at_X6_addSevens : List (Nat × ax_I) := [(0, .lload_n 1, 1, 0, 0, 0), (1, .lstore 4, 2, 0, 0, 0), (3, .iconst 1, 1, 0, 0, 0), (4, .istore 6, 2, 0, 0, 0), (6, .iload 6, 2, 0, 0, 0), (8, .iload_n 3, 1, 0, 0, 0), (9, .if_icmp .gt 46, 3, 0, 0, 0), (12, .lload 4, 2, 0, 0, 0), (14, .ldc2_w 40, 3, 0, 0, 127), (17, .land, 1, 0, 0, 0), (18, .l2i, 1, 0, 0, 0), (19, .istore 7, 2, 0, 0, 0), (21, .aload_n 0, 1, 0, 0, 0), (22, .iload 6, 2, 0, 0, 0), (24, .iload_n 3, 1, 0, 0, 0), (25, .if_icmp .ge 12, 3, 0, 0, 0), (28, .iload 7, 2, 0, 0, 0), (30, .sipush 128, 3, 0, 0, 0), (33, .ior, 1, 0, 0, 0), (34, .goto 5, 3, 0, 0, 0), (37, .iload 7, 2, 0, 0, 0), (39, .invokevirtual 25, 3, 59, 1, 0), (42, .lload 4, 2, 0, 0, 0), (44, .bipush 7, 2, 0, 0, 0), (46, .lshr, 1, 0, 0, 0), (47, .lstore 4, 2, 0, 0, 0), (49, .iinc 6 1, 3, 0, 0, 0), (52, .goto (-46), 3, 0, 0, 0), (55, .return_, 1, 0, 0, 0)]
def aD_X6_addSevens : ax_D := (yX6_addSevens, cX6_addSevens, 8, none, [], [], at_X6_addSevens, [])
def at_X6_addFrom : List (Nat × ax_I) := [(0, .iconst 0, 1, 0, 0, 0), (1, .istore 4, 2, 0, 0, 0), (3, .iload 4, 2, 0, 0, 0), (5, .iload_n 3, 1, 0, 0, 0), (6, .if_icmp .ge 21, 3, 0, 0, 0), (9, .aload_n 0, 1, 0, 0, 0), (10, .aload_n 1, 1, 0, 0, 0), (11, .iload_n 2, 1, 0, 0, 0), (12, .iload 4, 2, 0, 0, 0), (14, .iadd, 1, 0, 0, 0), (15, .invokevirtual 42, 3, 56, 1, 0), (18, .invokevirtual 25, 3, 59, 1, 0), (21, .iinc 4 1, 3, 0, 0, 0), (24, .goto (-21), 3, 0, 0, 0), (27, .return_, 1, 0, 0, 0)]
def aD_X6_addFrom : ax_D := (yX6_addFrom, cX6_addFrom, 5, none, [], [], at_X6_addFrom, [])
def at_X6_same : List (Nat × ax_I) := [(0, .iconst 0, 1, 0, 0, 0), (1, .istore 5, 2, 0, 0, 0), (3, .iload 5, 2, 0, 0, 0), (5, .iload 4, 2, 0, 0, 0), (7, .if_icmp .ge 30, 3, 0, 0, 0), (10, .aload_n 0, 1, 0, 0, 0), (11, .iload_n 1, 1, 0, 0, 0), (12, .iload 5, 2, 0, 0, 0), (14, .iadd, 1, 0, 0, 0), (15, .invokevirtual 42, 3, 56, 1, 0), (18, .aload_n 2, 1, 0, 0, 0), (19, .iload_n 3, 1, 0, 0, 0), (20, .iload 5, 2, 0, 0, 0), (22, .iadd, 1, 0, 0, 0), (23, .invokevirtual 42, 3, 56, 1, 0), (26, .if_icmp .eq 5, 3, 0, 0, 0), (29, .iconst 0, 1, 0, 0, 0), (30, .ireturn, 1, 0, 0, 0), (31, .iinc 5 1, 3, 0, 0, 0), (34, .goto (-31), 3, 0, 0, 0), (37, .iconst 1, 1, 0, 0, 0), (38, .ireturn, 1, 0, 0, 0)]
def aD_X6_same : ax_D := (yX6_same, cX6_same, 6, (some .boolean), [], [], at_X6_same, [])
def at_X6_hash : List (Nat × ax_I) := [(0, .iload_n 2, 1, 0, 0, 0), (1, .istore_n 3, 1, 0, 0, 0), (2, .iconst 0, 1, 0, 0, 0), (3, .istore 4, 2, 0, 0, 0), (5, .iload 4, 2, 0, 0, 0), (7, .iload_n 2, 1, 0, 0, 0), (8, .if_icmp .ge 23, 3, 0, 0, 0), (11, .iload_n 3, 1, 0, 0, 0), (12, .bipush 31, 2, 0, 0, 0), (14, .imul, 1, 0, 0, 0), (15, .aload_n 0, 1, 0, 0, 0), (16, .iload_n 1, 1, 0, 0, 0), (17, .iload 4, 2, 0, 0, 0), (19, .iadd, 1, 0, 0, 0), (20, .invokevirtual 42, 3, 56, 1, 0), (23, .iadd, 1, 0, 0, 0), (24, .istore_n 3, 1, 0, 0, 0), (25, .iinc 4 1, 3, 0, 0, 0), (28, .goto (-23), 3, 0, 0, 0), (31, .iload_n 3, 1, 0, 0, 0), (32, .ireturn, 1, 0, 0, 0)]
def aD_X6_hash : ax_D := (yX6_hash, cX6_hash, 5, (some .int), [], [], at_X6_hash, [])
def at_X6_zeroFrom : List (Nat × ax_I) := [(0, .iload_n 1, 1, 0, 0, 0), (1, .istore_n 3, 1, 0, 0, 0), (2, .iload_n 3, 1, 0, 0, 0), (3, .iload_n 2, 1, 0, 0, 0), (4, .if_icmp .ge 19, 3, 0, 0, 0), (7, .aload_n 0, 1, 0, 0, 0), (8, .iload_n 3, 1, 0, 0, 0), (9, .invokevirtual 42, 3, 56, 1, 0), (12, .ifCond .ne 5, 3, 0, 0, 0), (15, .iload_n 3, 1, 0, 0, 0), (16, .ireturn, 1, 0, 0, 0), (17, .iinc 3 1, 3, 0, 0, 0), (20, .goto (-18), 3, 0, 0, 0), (23, .iconst (-1), 1, 0, 0, 0), (24, .ireturn, 1, 0, 0, 0)]
def aD_X6_zeroFrom : ax_D := (yX6_zeroFrom, cX6_zeroFrom, 4, (some .int), [], [], at_X6_zeroFrom, [])
def at_X6_rowSize : List (Nat × ax_I) := [(0, .iconst 1, 1, 0, 0, 0), (1, .istore_n 2, 1, 0, 0, 0), (2, .lload_n 0, 1, 0, 0, 0), (3, .bipush 7, 2, 0, 0, 0), (5, .lushr, 1, 0, 0, 0), (6, .lstore_n 3, 1, 0, 0, 0), (7, .lload_n 3, 1, 0, 0, 0), (8, .lconst 0, 1, 0, 0, 0), (9, .lcmp, 1, 0, 0, 0), (10, .ifCond .eq 20, 3, 0, 0, 0), (13, .iload_n 2, 1, 0, 0, 0), (14, .bipush 10, 2, 0, 0, 0), (16, .if_icmp .ge 14, 3, 0, 0, 0), (19, .iinc 2 1, 3, 0, 0, 0), (22, .lload_n 3, 1, 0, 0, 0), (23, .bipush 7, 2, 0, 0, 0), (25, .lushr, 1, 0, 0, 0), (26, .lstore_n 3, 1, 0, 0, 0), (27, .goto (-20), 3, 0, 0, 0), (30, .iload_n 2, 1, 0, 0, 0), (31, .ireturn, 1, 0, 0, 0)]
def aD_X6_rowSize : ax_D := (yX6_rowSize, cX6_rowSize, 5, (some .int), [], [], at_X6_rowSize, [])
def at_X6_signedRowSize : List (Nat × ax_I) := [(0, .iconst 1, 1, 0, 0, 0), (1, .istore_n 2, 1, 0, 0, 0), (2, .lload_n 0, 1, 0, 0, 0), (3, .lstore_n 3, 1, 0, 0, 0), (4, .lload_n 3, 1, 0, 0, 0), (5, .ldc2_w 46, 3, 0, 0, (-64)), (8, .lcmp, 1, 0, 0, 0), (9, .ifCond .lt 11, 3, 0, 0, 0), (12, .lload_n 3, 1, 0, 0, 0), (13, .ldc2_w 48, 3, 0, 0, 63), (16, .lcmp, 1, 0, 0, 0), (17, .ifCond .le 20, 3, 0, 0, 0), (20, .iload_n 2, 1, 0, 0, 0), (21, .bipush 10, 2, 0, 0, 0), (23, .if_icmp .ge 14, 3, 0, 0, 0), (26, .iinc 2 1, 3, 0, 0, 0), (29, .lload_n 3, 1, 0, 0, 0), (30, .bipush 7, 2, 0, 0, 0), (32, .lshr, 1, 0, 0, 0), (33, .lstore_n 3, 1, 0, 0, 0), (34, .goto (-30), 3, 0, 0, 0), (37, .iload_n 2, 1, 0, 0, 0), (38, .ireturn, 1, 0, 0, 0)]
def aD_X6_signedRowSize : ax_D := (yX6_signedRowSize, cX6_signedRowSize, 5, (some .int), [], [], at_X6_signedRowSize, [])
def at_X7_init : List (Nat × ax_I) := [(0, .aload_n 0, 1, 0, 0, 0), (1, .invokespecial 3, 3, 901, 0, 0), (4, .aload_n 0, 1, 0, 0, 0), (5, .sipush 200, 3, 0, 0, 0), (8, .newarray .int, 2, 0, 0, 0), (10, .putfield 9, 3, 6, 0, 0), (13, .aload_n 0, 1, 0, 0, 0), (14, .sipush 200, 3, 0, 0, 0), (17, .newarray .boolean, 2, 0, 0, 0), (19, .putfield 15, 3, 6, 1, 0), (22, .aload_n 0, 1, 0, 0, 0), (23, .sipush 200, 3, 0, 0, 0), (26, .newarray .int, 2, 0, 0, 0), (28, .putfield 19, 3, 6, 2, 0), (31, .aload_n 0, 1, 0, 0, 0), (32, .sipush 1600, 3, 0, 0, 0), (35, .newarray .int, 2, 0, 0, 0), (37, .putfield 22, 3, 6, 3, 0), (40, .aload_n 0, 1, 0, 0, 0), (41, .sipush 1600, 3, 0, 0, 0), (44, .newarray .int, 2, 0, 0, 0), (46, .putfield 25, 3, 6, 4, 0), (49, .aload_n 0, 1, 0, 0, 0), (50, .sipush 200, 3, 0, 0, 0), (53, .newarray .int, 2, 0, 0, 0), (55, .putfield 28, 3, 6, 6, 0), (58, .aload_n 0, 1, 0, 0, 0), (59, .new 31, 3, 0, 0, 0), (62, .dup, 1, 0, 0, 0), (63, .sipush 200, 3, 0, 0, 0), (66, .invokespecial 33, 3, 0, 1, 0), (69, .putfield 36, 3, 6, 7, 0), (72, .return_, 1, 0, 0, 0)]
def aD_X7_init : ax_D := (yX7_init, cX7_init, 1, none, [], [], at_X7_init, [])
def at_X7_indexOf : List (Nat × ax_I) := [(0, .aload_n 0, 1, 0, 0, 0), (1, .getfield 36, 3, 6, 7, 0), (4, .iload_n 1, 1, 0, 0, 0), (5, .invokevirtual 40, 3, 2, 1, 0), (8, .istore_n 2, 1, 0, 0, 0), (9, .iconst 0, 1, 0, 0, 0), (10, .istore_n 3, 1, 0, 0, 0), (11, .iload_n 3, 1, 0, 0, 0), (12, .aload_n 0, 1, 0, 0, 0), (13, .getfield 44, 3, 6, 5, 0), (16, .if_icmp .ge 35, 3, 0, 0, 0), (19, .iload_n 2, 1, 0, 0, 0), (20, .iconst (-1), 1, 0, 0, 0), (21, .if_icmp .eq 30, 3, 0, 0, 0), (24, .aload_n 0, 1, 0, 0, 0), (25, .getfield 28, 3, 6, 6, 0), (28, .iload_n 2, 1, 0, 0, 0), (29, .iaload, 1, 0, 0, 0), (30, .iload_n 1, 1, 0, 0, 0), (31, .if_icmp .ne 5, 3, 0, 0, 0), (34, .iload_n 2, 1, 0, 0, 0), (35, .ireturn, 1, 0, 0, 0), (36, .aload_n 0, 1, 0, 0, 0), (37, .getfield 36, 3, 6, 7, 0), (40, .iload_n 2, 1, 0, 0, 0), (41, .invokevirtual 48, 3, 3, 1, 0), (44, .istore_n 2, 1, 0, 0, 0), (45, .iinc 3 1, 3, 0, 0, 0), (48, .goto (-37), 3, 0, 0, 0), (51, .iconst (-1), 1, 0, 0, 0), (52, .ireturn, 1, 0, 0, 0)]
def aD_X7_indexOf : ax_D := (yX7_indexOf, cX7_indexOf, 4, (some .int), [], [], at_X7_indexOf, [])
def at_X7_readFrom : List (Nat × ax_I) := [(0, .aload_n 0, 1, 0, 0, 0), (1, .iconst 0, 1, 0, 0, 0), (2, .putfield 44, 3, 6, 5, 0), (5, .aload_n 0, 1, 0, 0, 0), (6, .getfield 36, 3, 6, 7, 0), (9, .invokevirtual 51, 3, 1, 0, 0), (12, .iconst 0, 1, 0, 0, 0), (13, .istore_n 2, 1, 0, 0, 0), (14, .iload_n 2, 1, 0, 0, 0), (15, .sipush 200, 3, 0, 0, 0), (18, .if_icmp .gt 83, 3, 0, 0, 0), (21, .aload_n 1, 1, 0, 0, 0), (22, .getfield 54, 3, 1, 0, 0), (25, .istore_n 3, 1, 0, 0, 0), (26, .aload_n 1, 1, 0, 0, 0), (27, .invokevirtual 59, 3, 12, 0, 0), (30, .istore 4, 2, 0, 0, 0), (32, .iload 4, 2, 0, 0, 0), (34, .ifCond .ne 4, 3, 0, 0, 0), (37, .return_, 1, 0, 0, 0), (38, .iload_n 2, 1, 0, 0, 0), (39, .sipush 200, 3, 0, 0, 0), (42, .if_icmp .eq 13, 3, 0, 0, 0), (45, .aload_n 0, 1, 0, 0, 0), (46, .iload 4, 2, 0, 0, 0), (48, .invokevirtual 63, 3, 72, 1, 0), (51, .iconst (-1), 1, 0, 0, 0), (52, .if_icmp .eq 9, 3, 0, 0, 0), (55, .aload_n 1, 1, 0, 0, 0), (56, .iconst 3, 1, 0, 0, 0), (57, .iload_n 3, 1, 0, 0, 0), (58, .invokevirtual 66, 3, 9, 2, 0), (61, .aload_n 0, 1, 0, 0, 0), (62, .aload_n 1, 1, 0, 0, 0), (63, .iload_n 2, 1, 0, 0, 0), (64, .invokevirtual 70, 3, 74, 2, 0), (67, .aload_n 0, 1, 0, 0, 0), (68, .getfield 28, 3, 6, 6, 0), (71, .iload_n 2, 1, 0, 0, 0), (72, .iload 4, 2, 0, 0, 0), (74, .iastore, 1, 0, 0, 0), (75, .aload_n 0, 1, 0, 0, 0), (76, .getfield 36, 3, 6, 7, 0), (79, .iload 4, 2, 0, 0, 0), (81, .iload_n 2, 1, 0, 0, 0), (82, .invokevirtual 74, 3, 4, 2, 0), (85, .aload_n 0, 1, 0, 0, 0), (86, .dup, 1, 0, 0, 0), (87, .getfield 44, 3, 6, 5, 0), (90, .iconst 1, 1, 0, 0, 0), (91, .iadd, 1, 0, 0, 0), (92, .putfield 44, 3, 6, 5, 0), (95, .iinc 2 1, 3, 0, 0, 0), (98, .goto (-84), 3, 0, 0, 0), (101, .return_, 1, 0, 0, 0)]
def aD_X7_readFrom : ax_D := (yX7_readFrom, cX7_readFrom, 5, none, [], [], at_X7_readFrom, [])
def at_X7_readShape : List (Nat × ax_I) := [(0, .aload_n 1, 1, 0, 0, 0), (1, .getfield 54, 3, 1, 0, 0), (4, .istore_n 3, 1, 0, 0, 0), (5, .aload_n 0, 1, 0, 0, 0), (6, .getfield 9, 3, 6, 0, 0), (9, .iload_n 2, 1, 0, 0, 0), (10, .aload_n 1, 1, 0, 0, 0), (11, .invokevirtual 59, 3, 12, 0, 0), (14, .iastore, 1, 0, 0, 0), (15, .aload_n 0, 1, 0, 0, 0), (16, .getfield 9, 3, 6, 0, 0), (19, .iload_n 2, 1, 0, 0, 0), (20, .iaload, 1, 0, 0, 0), (21, .invokestatic 77, 3, 131, 1, 0), (24, .ifCond .ne 9, 3, 0, 0, 0), (27, .aload_n 1, 1, 0, 0, 0), (28, .iconst 3, 1, 0, 0, 0), (29, .iload_n 3, 1, 0, 0, 0), (30, .invokevirtual 66, 3, 9, 2, 0), (33, .aload_n 1, 1, 0, 0, 0), (34, .getfield 54, 3, 1, 0, 0), (37, .istore_n 3, 1, 0, 0, 0), (38, .aload_n 1, 1, 0, 0, 0), (39, .iconst 1, 1, 0, 0, 0), (40, .invokevirtual 81, 3, 10, 1, 0), (43, .lstore 4, 2, 0, 0, 0), (45, .lload 4, 2, 0, 0, 0), (47, .lconst 1, 1, 0, 0, 0), (48, .lcmp, 1, 0, 0, 0), (49, .ifCond .le 9, 3, 0, 0, 0), (52, .aload_n 1, 1, 0, 0, 0), (53, .iconst 3, 1, 0, 0, 0), (54, .iload_n 3, 1, 0, 0, 0), (55, .invokevirtual 66, 3, 9, 2, 0), (58, .aload_n 0, 1, 0, 0, 0), (59, .getfield 15, 3, 6, 1, 0), (62, .iload_n 2, 1, 0, 0, 0), (63, .lload 4, 2, 0, 0, 0), (65, .lconst 1, 1, 0, 0, 0), (66, .lcmp, 1, 0, 0, 0), (67, .ifCond .ne 7, 3, 0, 0, 0), (70, .iconst 1, 1, 0, 0, 0), (71, .goto 4, 3, 0, 0, 0), (74, .iconst 0, 1, 0, 0, 0), (75, .bastore, 1, 0, 0, 0), (76, .aload_n 0, 1, 0, 0, 0), (77, .getfield 19, 3, 6, 2, 0), (80, .iload_n 2, 1, 0, 0, 0), (81, .iconst 0, 1, 0, 0, 0), (82, .iastore, 1, 0, 0, 0), (83, .iconst 1, 1, 0, 0, 0), (84, .istore 6, 2, 0, 0, 0), (86, .iconst 0, 1, 0, 0, 0), (87, .istore 7, 2, 0, 0, 0), (89, .iload 6, 2, 0, 0, 0), (91, .ifCond .eq 24, 3, 0, 0, 0), (94, .iload 7, 2, 0, 0, 0), (96, .bipush 8, 2, 0, 0, 0), (98, .if_icmp .gt 17, 3, 0, 0, 0), (101, .aload_n 0, 1, 0, 0, 0), (102, .aload_n 1, 1, 0, 0, 0), (103, .iload_n 2, 1, 0, 0, 0), (104, .invokevirtual 85, 3, 75, 2, 0), (107, .istore 6, 2, 0, 0, 0), (109, .iinc 7 1, 3, 0, 0, 0), (112, .goto (-23), 3, 0, 0, 0), (115, .return_, 1, 0, 0, 0)]
def aD_X7_readShape : ax_D := (yX7_readShape, cX7_readShape, 8, none, [], [], at_X7_readShape, [])
def at_X7_readAttribute : List (Nat × ax_I) := [(0, .aload_n 1, 1, 0, 0, 0), (1, .getfield 54, 3, 1, 0, 0), (4, .istore_n 3, 1, 0, 0, 0), (5, .aload_n 1, 1, 0, 0, 0), (6, .invokevirtual 59, 3, 12, 0, 0), (9, .istore 4, 2, 0, 0, 0), (11, .iload 4, 2, 0, 0, 0), (13, .ifCond .eq 19, 3, 0, 0, 0), (16, .aload_n 0, 1, 0, 0, 0), (17, .iload_n 2, 1, 0, 0, 0), (18, .iload 4, 2, 0, 0, 0), (20, .invokevirtual 89, 3, 76, 2, 0), (23, .ifCond .ne 9, 3, 0, 0, 0), (26, .aload_n 1, 1, 0, 0, 0), (27, .iconst 3, 1, 0, 0, 0), (28, .iload_n 3, 1, 0, 0, 0), (29, .invokevirtual 66, 3, 9, 2, 0), (32, .aload_n 1, 1, 0, 0, 0), (33, .getfield 54, 3, 1, 0, 0), (36, .istore 5, 2, 0, 0, 0), (38, .aload_n 1, 1, 0, 0, 0), (39, .invokevirtual 59, 3, 12, 0, 0), (42, .istore 6, 2, 0, 0, 0), (44, .iload 4, 2, 0, 0, 0), (46, .ifCond .ne 10, 3, 0, 0, 0), (49, .iload 6, 2, 0, 0, 0), (51, .ifCond .ne 5, 3, 0, 0, 0), (54, .iconst 0, 1, 0, 0, 0), (55, .ireturn, 1, 0, 0, 0), (56, .iload 4, 2, 0, 0, 0), (58, .ifCond .ne 9, 3, 0, 0, 0), (61, .aload_n 1, 1, 0, 0, 0), (62, .iconst 3, 1, 0, 0, 0), (63, .iload_n 3, 1, 0, 0, 0), (64, .invokevirtual 66, 3, 9, 2, 0), (67, .iload 6, 2, 0, 0, 0), (69, .invokestatic 93, 3, 19, 1, 0), (72, .ifCond .ne 10, 3, 0, 0, 0), (75, .aload_n 1, 1, 0, 0, 0), (76, .iconst 3, 1, 0, 0, 0), (77, .iload 5, 2, 0, 0, 0), (79, .invokevirtual 66, 3, 9, 2, 0), (82, .iload_n 2, 1, 0, 0, 0), (83, .aload_n 0, 1, 0, 0, 0), (84, .getfield 19, 3, 6, 2, 0), (87, .iload_n 2, 1, 0, 0, 0), (88, .iaload, 1, 0, 0, 0), (89, .invokestatic 98, 3, 78, 2, 0), (92, .istore 7, 2, 0, 0, 0), (94, .aload_n 0, 1, 0, 0, 0), (95, .getfield 22, 3, 6, 3, 0), (98, .iload 7, 2, 0, 0, 0), (100, .iload 4, 2, 0, 0, 0), (102, .iastore, 1, 0, 0, 0), (103, .aload_n 0, 1, 0, 0, 0), (104, .getfield 25, 3, 6, 4, 0), (107, .iload 7, 2, 0, 0, 0), (109, .iload 6, 2, 0, 0, 0), (111, .iastore, 1, 0, 0, 0), (112, .aload_n 0, 1, 0, 0, 0), (113, .getfield 19, 3, 6, 2, 0), (116, .iload_n 2, 1, 0, 0, 0), (117, .dup2, 1, 0, 0, 0), (118, .iaload, 1, 0, 0, 0), (119, .iconst 1, 1, 0, 0, 0), (120, .iadd, 1, 0, 0, 0), (121, .iastore, 1, 0, 0, 0), (122, .iconst 1, 1, 0, 0, 0), (123, .ireturn, 1, 0, 0, 0)]
def aD_X7_readAttribute : ax_D := (yX7_readAttribute, cX7_readAttribute, 8, (some .boolean), [], [], at_X7_readAttribute, [])
def at_X7_mayFollow : List (Nat × ax_I) := [(0, .iload_n 2, 1, 0, 0, 0), (1, .invokestatic 77, 3, 131, 1, 0), (4, .ifCond .eq 14, 3, 0, 0, 0), (7, .aload_n 0, 1, 0, 0, 0), (8, .getfield 19, 3, 6, 2, 0), (11, .iload_n 1, 1, 0, 0, 0), (12, .iaload, 1, 0, 0, 0), (13, .bipush 8, 2, 0, 0, 0), (15, .if_icmp .ne 5, 3, 0, 0, 0), (18, .iconst 0, 1, 0, 0, 0), (19, .ireturn, 1, 0, 0, 0), (20, .iconst 0, 1, 0, 0, 0), (21, .istore_n 3, 1, 0, 0, 0), (22, .iload_n 3, 1, 0, 0, 0), (23, .aload_n 0, 1, 0, 0, 0), (24, .getfield 19, 3, 6, 2, 0), (27, .iload_n 1, 1, 0, 0, 0), (28, .iaload, 1, 0, 0, 0), (29, .if_icmp .ge 25, 3, 0, 0, 0), (32, .aload_n 0, 1, 0, 0, 0), (33, .getfield 22, 3, 6, 3, 0), (36, .iload_n 1, 1, 0, 0, 0), (37, .iload_n 3, 1, 0, 0, 0), (38, .invokestatic 98, 3, 78, 2, 0), (41, .iaload, 1, 0, 0, 0), (42, .iload_n 2, 1, 0, 0, 0), (43, .if_icmp .ne 5, 3, 0, 0, 0), (46, .iconst 0, 1, 0, 0, 0), (47, .ireturn, 1, 0, 0, 0), (48, .iinc 3 1, 3, 0, 0, 0), (51, .goto (-29), 3, 0, 0, 0), (54, .iconst 1, 1, 0, 0, 0), (55, .ireturn, 1, 0, 0, 0)]
def aD_X7_mayFollow : ax_D := (yX7_mayFollow, cX7_mayFollow, 4, (some .boolean), [], [], at_X7_mayFollow, [])
def at_X8_init : List (Nat × ax_I) := [(0, .aload_n 0, 1, 0, 0, 0), (1, .invokespecial 3, 3, 901, 0, 0), (4, .aload_n 0, 1, 0, 0, 0), (5, .bipush 6, 2, 0, 0, 0), (7, .newarray .int, 2, 0, 0, 0), (9, .putfield 9, 3, 7, 2, 0), (12, .aload_n 0, 1, 0, 0, 0), (13, .sipush 400, 3, 0, 0, 0), (16, .newarray .int, 2, 0, 0, 0), (18, .putfield 15, 3, 7, 3, 0), (21, .aload_n 0, 1, 0, 0, 0), (22, .sipush 400, 3, 0, 0, 0), (25, .newarray .int, 2, 0, 0, 0), (27, .putfield 18, 3, 7, 4, 0), (30, .aload_n 0, 1, 0, 0, 0), (31, .sipush 400, 3, 0, 0, 0), (34, .newarray .int, 2, 0, 0, 0), (36, .putfield 21, 3, 7, 5, 0), (39, .aload_n 0, 1, 0, 0, 0), (40, .sipush 400, 3, 0, 0, 0), (43, .newarray .int, 2, 0, 0, 0), (45, .putfield 24, 3, 7, 6, 0), (48, .aload_n 0, 1, 0, 0, 0), (49, .sipush 400, 3, 0, 0, 0), (52, .newarray .int, 2, 0, 0, 0), (54, .putfield 27, 3, 7, 7, 0), (57, .aload_n 0, 1, 0, 0, 0), (58, .sipush 400, 3, 0, 0, 0), (61, .newarray .int, 2, 0, 0, 0), (63, .putfield 30, 3, 7, 8, 0), (66, .aload_n 0, 1, 0, 0, 0), (67, .sipush 400, 3, 0, 0, 0), (70, .newarray .int, 2, 0, 0, 0), (72, .putfield 33, 3, 7, 9, 0), (75, .aload_n 0, 1, 0, 0, 0), (76, .sipush 400, 3, 0, 0, 0), (79, .newarray .int, 2, 0, 0, 0), (81, .putfield 36, 3, 7, 10, 0), (84, .aload_n 0, 1, 0, 0, 0), (85, .sipush 400, 3, 0, 0, 0), (88, .newarray .int, 2, 0, 0, 0), (90, .putfield 39, 3, 7, 11, 0), (93, .aload_n 0, 1, 0, 0, 0), (94, .sipush 3200, 3, 0, 0, 0), (97, .newarray .int, 2, 0, 0, 0), (99, .putfield 42, 3, 7, 12, 0), (102, .aload_n 0, 1, 0, 0, 0), (103, .sipush 3200, 3, 0, 0, 0), (106, .newarray .int, 2, 0, 0, 0), (108, .putfield 45, 3, 7, 13, 0), (111, .aload_n 0, 1, 0, 0, 0), (112, .sipush 3200, 3, 0, 0, 0), (115, .newarray .long, 2, 0, 0, 0), (117, .putfield 48, 3, 7, 14, 0), (120, .aload_n 0, 1, 0, 0, 0), (121, .sipush 3200, 3, 0, 0, 0), (124, .newarray .int, 2, 0, 0, 0), (126, .putfield 52, 3, 7, 15, 0), (129, .return_, 1, 0, 0, 0)]
def aD_X8_init : ax_D := (yX8_init, cX8_init, 1, none, [], [], at_X8_init, [])
def at_X8_slotAt : List (Nat × ax_I) := [(0, .iload_n 0, 1, 0, 0, 0), (1, .bipush 8, 2, 0, 0, 0), (3, .imul, 1, 0, 0, 0), (4, .iload_n 1, 1, 0, 0, 0), (5, .iadd, 1, 0, 0, 0), (6, .ireturn, 1, 0, 0, 0)]
def aD_X8_slotAt : ax_D := (yX8_slotAt, cX8_slotAt, 2, (some .int), [], [], at_X8_slotAt, [])
def at_X8_forget : List (Nat × ax_I) := [(0, .aload_n 0, 1, 0, 0, 0), (1, .iconst 0, 1, 0, 0, 0), (2, .putfield 55, 3, 7, 0, 0), (5, .aload_n 0, 1, 0, 0, 0), (6, .iconst 0, 1, 0, 0, 0), (7, .putfield 59, 3, 7, 1, 0), (10, .return_, 1, 0, 0, 0)]
def aD_X8_forget : ax_D := (yX8_forget, cX8_forget, 1, none, [], [], at_X8_forget, [])
def at_X8_addRoot : List (Nat × ax_I) := [(0, .aload_n 0, 1, 0, 0, 0), (1, .iload_n 1, 1, 0, 0, 0), (2, .invokevirtual 62, 3, 82, 1, 0), (5, .istore_n 2, 1, 0, 0, 0), (6, .aload_n 0, 1, 0, 0, 0), (7, .getfield 18, 3, 7, 4, 0), (10, .iload_n 2, 1, 0, 0, 0), (11, .iconst (-1), 1, 0, 0, 0), (12, .iastore, 1, 0, 0, 0), (13, .aload_n 0, 1, 0, 0, 0), (14, .getfield 21, 3, 7, 5, 0), (17, .iload_n 2, 1, 0, 0, 0), (18, .aload_n 0, 1, 0, 0, 0), (19, .getfield 55, 3, 7, 0, 0), (22, .iastore, 1, 0, 0, 0), (23, .aload_n 0, 1, 0, 0, 0), (24, .getfield 24, 3, 7, 6, 0), (27, .iload_n 2, 1, 0, 0, 0), (28, .iconst 0, 1, 0, 0, 0), (29, .iastore, 1, 0, 0, 0), (30, .aload_n 0, 1, 0, 0, 0), (31, .getfield 9, 3, 7, 2, 0), (34, .aload_n 0, 1, 0, 0, 0), (35, .getfield 55, 3, 7, 0, 0), (38, .iload_n 2, 1, 0, 0, 0), (39, .iastore, 1, 0, 0, 0), (40, .aload_n 0, 1, 0, 0, 0), (41, .dup, 1, 0, 0, 0), (42, .getfield 55, 3, 7, 0, 0), (45, .iconst 1, 1, 0, 0, 0), (46, .iadd, 1, 0, 0, 0), (47, .putfield 55, 3, 7, 0, 0), (50, .iload_n 2, 1, 0, 0, 0), (51, .ireturn, 1, 0, 0, 0)]
def aD_X8_addRoot : ax_D := (yX8_addRoot, cX8_addRoot, 3, (some .int), [], [], at_X8_addRoot, [])
def at_X8_addChild : List (Nat × ax_I) := [(0, .aload_n 0, 1, 0, 0, 0), (1, .iload_n 2, 1, 0, 0, 0), (2, .invokevirtual 62, 3, 82, 1, 0), (5, .istore_n 3, 1, 0, 0, 0), (6, .aload_n 0, 1, 0, 0, 0), (7, .getfield 18, 3, 7, 4, 0), (10, .iload_n 3, 1, 0, 0, 0), (11, .iload_n 1, 1, 0, 0, 0), (12, .iastore, 1, 0, 0, 0), (13, .aload_n 0, 1, 0, 0, 0), (14, .getfield 21, 3, 7, 5, 0), (17, .iload_n 3, 1, 0, 0, 0), (18, .aload_n 0, 1, 0, 0, 0), (19, .getfield 21, 3, 7, 5, 0), (22, .iload_n 1, 1, 0, 0, 0), (23, .iaload, 1, 0, 0, 0), (24, .iastore, 1, 0, 0, 0), (25, .aload_n 0, 1, 0, 0, 0), (26, .getfield 24, 3, 7, 6, 0), (29, .iload_n 3, 1, 0, 0, 0), (30, .aload_n 0, 1, 0, 0, 0), (31, .getfield 24, 3, 7, 6, 0), (34, .iload_n 1, 1, 0, 0, 0), (35, .iaload, 1, 0, 0, 0), (36, .iconst 1, 1, 0, 0, 0), (37, .iadd, 1, 0, 0, 0), (38, .iastore, 1, 0, 0, 0), (39, .aload_n 0, 1, 0, 0, 0), (40, .getfield 27, 3, 7, 7, 0), (43, .iload_n 1, 1, 0, 0, 0), (44, .iaload, 1, 0, 0, 0), (45, .ifCond .ne 13, 3, 0, 0, 0), (48, .aload_n 0, 1, 0, 0, 0), (49, .getfield 30, 3, 7, 8, 0), (52, .iload_n 1, 1, 0, 0, 0), (53, .iload_n 3, 1, 0, 0, 0), (54, .iastore, 1, 0, 0, 0), (55, .goto 15, 3, 0, 0, 0), (58, .aload_n 0, 1, 0, 0, 0), (59, .getfield 36, 3, 7, 10, 0), (62, .aload_n 0, 1, 0, 0, 0), (63, .getfield 33, 3, 7, 9, 0), (66, .iload_n 1, 1, 0, 0, 0), (67, .iaload, 1, 0, 0, 0), (68, .iload_n 3, 1, 0, 0, 0), (69, .iastore, 1, 0, 0, 0), (70, .aload_n 0, 1, 0, 0, 0), (71, .getfield 33, 3, 7, 9, 0), (74, .iload_n 1, 1, 0, 0, 0), (75, .iload_n 3, 1, 0, 0, 0), (76, .iastore, 1, 0, 0, 0), (77, .aload_n 0, 1, 0, 0, 0), (78, .getfield 27, 3, 7, 7, 0), (81, .iload_n 1, 1, 0, 0, 0), (82, .dup2, 1, 0, 0, 0), (83, .iaload, 1, 0, 0, 0), (84, .iconst 1, 1, 0, 0, 0), (85, .iadd, 1, 0, 0, 0), (86, .iastore, 1, 0, 0, 0), (87, .iload_n 3, 1, 0, 0, 0), (88, .ireturn, 1, 0, 0, 0)]
def aD_X8_addChild : ax_D := (yX8_addChild, cX8_addChild, 4, (some .int), [], [], at_X8_addChild, [])
def at_X8_addEntry : List (Nat × ax_I) := [(0, .aload_n 0, 1, 0, 0, 0), (1, .getfield 59, 3, 7, 1, 0), (4, .istore_n 2, 1, 0, 0, 0), (5, .aload_n 0, 1, 0, 0, 0), (6, .dup, 1, 0, 0, 0), (7, .getfield 59, 3, 7, 1, 0), (10, .iconst 1, 1, 0, 0, 0), (11, .iadd, 1, 0, 0, 0), (12, .putfield 59, 3, 7, 1, 0), (15, .aload_n 0, 1, 0, 0, 0), (16, .getfield 15, 3, 7, 3, 0), (19, .iload_n 2, 1, 0, 0, 0), (20, .iload_n 1, 1, 0, 0, 0), (21, .iastore, 1, 0, 0, 0), (22, .aload_n 0, 1, 0, 0, 0), (23, .getfield 27, 3, 7, 7, 0), (26, .iload_n 2, 1, 0, 0, 0), (27, .iconst 0, 1, 0, 0, 0), (28, .iastore, 1, 0, 0, 0), (29, .aload_n 0, 1, 0, 0, 0), (30, .getfield 30, 3, 7, 8, 0), (33, .iload_n 2, 1, 0, 0, 0), (34, .iconst (-1), 1, 0, 0, 0), (35, .iastore, 1, 0, 0, 0), (36, .aload_n 0, 1, 0, 0, 0), (37, .getfield 33, 3, 7, 9, 0), (40, .iload_n 2, 1, 0, 0, 0), (41, .iconst (-1), 1, 0, 0, 0), (42, .iastore, 1, 0, 0, 0), (43, .aload_n 0, 1, 0, 0, 0), (44, .getfield 36, 3, 7, 10, 0), (47, .iload_n 2, 1, 0, 0, 0), (48, .iconst (-1), 1, 0, 0, 0), (49, .iastore, 1, 0, 0, 0), (50, .aload_n 0, 1, 0, 0, 0), (51, .getfield 39, 3, 7, 11, 0), (54, .iload_n 2, 1, 0, 0, 0), (55, .iconst 0, 1, 0, 0, 0), (56, .iastore, 1, 0, 0, 0), (57, .iload_n 2, 1, 0, 0, 0), (58, .ireturn, 1, 0, 0, 0)]
def aD_X8_addEntry : ax_D := (yX8_addEntry, cX8_addEntry, 3, (some .int), [], [], at_X8_addEntry, [])
def at_X8_addAttribute : List (Nat × ax_I) := [(0, .iload_n 1, 1, 0, 0, 0), (1, .aload_n 0, 1, 0, 0, 0), (2, .getfield 39, 3, 7, 11, 0), (5, .iload_n 1, 1, 0, 0, 0), (6, .iaload, 1, 0, 0, 0), (7, .invokestatic 66, 3, 78, 2, 0), (10, .istore 7, 2, 0, 0, 0), (12, .aload_n 0, 1, 0, 0, 0), (13, .getfield 42, 3, 7, 12, 0), (16, .iload 7, 2, 0, 0, 0), (18, .iload_n 2, 1, 0, 0, 0), (19, .iastore, 1, 0, 0, 0), (20, .aload_n 0, 1, 0, 0, 0), (21, .getfield 45, 3, 7, 13, 0), (24, .iload 7, 2, 0, 0, 0), (26, .iload_n 3, 1, 0, 0, 0), (27, .iastore, 1, 0, 0, 0), (28, .aload_n 0, 1, 0, 0, 0), (29, .getfield 48, 3, 7, 14, 0), (32, .iload 7, 2, 0, 0, 0), (34, .lload 4, 2, 0, 0, 0), (36, .lastore, 1, 0, 0, 0), (37, .aload_n 0, 1, 0, 0, 0), (38, .getfield 52, 3, 7, 15, 0), (41, .iload 7, 2, 0, 0, 0), (43, .iload 6, 2, 0, 0, 0), (45, .iastore, 1, 0, 0, 0), (46, .aload_n 0, 1, 0, 0, 0), (47, .getfield 39, 3, 7, 11, 0), (50, .iload_n 1, 1, 0, 0, 0), (51, .dup2, 1, 0, 0, 0), (52, .iaload, 1, 0, 0, 0), (53, .iconst 1, 1, 0, 0, 0), (54, .iadd, 1, 0, 0, 0), (55, .iastore, 1, 0, 0, 0), (56, .aload_n 0, 1, 0, 0, 0), (57, .getfield 39, 3, 7, 11, 0), (60, .iload_n 1, 1, 0, 0, 0), (61, .iaload, 1, 0, 0, 0), (62, .ireturn, 1, 0, 0, 0)]
def aD_X8_addAttribute : ax_D := (yX8_addAttribute, cX8_addAttribute, 8, (some .int), [], [], at_X8_addAttribute, [])
def at_X8_slotOf : List (Nat × ax_I) := [(0, .iconst 0, 1, 0, 0, 0), (1, .istore_n 3, 1, 0, 0, 0), (2, .iload_n 3, 1, 0, 0, 0), (3, .aload_n 0, 1, 0, 0, 0), (4, .getfield 39, 3, 7, 11, 0), (7, .iload_n 1, 1, 0, 0, 0), (8, .iaload, 1, 0, 0, 0), (9, .if_icmp .ge 30, 3, 0, 0, 0), (12, .iload_n 1, 1, 0, 0, 0), (13, .iload_n 3, 1, 0, 0, 0), (14, .invokestatic 66, 3, 78, 2, 0), (17, .istore 4, 2, 0, 0, 0), (19, .aload_n 0, 1, 0, 0, 0), (20, .getfield 42, 3, 7, 12, 0), (23, .iload 4, 2, 0, 0, 0), (25, .iaload, 1, 0, 0, 0), (26, .iload_n 2, 1, 0, 0, 0), (27, .if_icmp .ne 6, 3, 0, 0, 0), (30, .iload 4, 2, 0, 0, 0), (32, .ireturn, 1, 0, 0, 0), (33, .iinc 3 1, 3, 0, 0, 0), (36, .goto (-34), 3, 0, 0, 0), (39, .iconst (-1), 1, 0, 0, 0), (40, .ireturn, 1, 0, 0, 0)]
def aD_X8_slotOf : ax_D := (yX8_slotOf, cX8_slotOf, 5, (some .int), [], [], at_X8_slotOf, [])
def at_X8_start : List (Nat × ax_I) := [(0, .aload_n 0, 1, 0, 0, 0), (1, .getfield 48, 3, 7, 14, 0), (4, .iload_n 1, 1, 0, 0, 0), (5, .laload, 1, 0, 0, 0), (6, .l2i, 1, 0, 0, 0), (7, .ireturn, 1, 0, 0, 0)]
def aD_X8_start : ax_D := (yX8_start, cX8_start, 2, (some .int), [], [], at_X8_start, [])
def at_X8_childAt : List (Nat × ax_I) := [(0, .aload_n 0, 1, 0, 0, 0), (1, .getfield 30, 3, 7, 8, 0), (4, .iload_n 1, 1, 0, 0, 0), (5, .iaload, 1, 0, 0, 0), (6, .istore_n 3, 1, 0, 0, 0), (7, .iconst 0, 1, 0, 0, 0), (8, .istore 4, 2, 0, 0, 0), (10, .iload 4, 2, 0, 0, 0), (12, .iload_n 2, 1, 0, 0, 0), (13, .if_icmp .ge 21, 3, 0, 0, 0), (16, .iload_n 3, 1, 0, 0, 0), (17, .iconst (-1), 1, 0, 0, 0), (18, .if_icmp .eq 16, 3, 0, 0, 0), (21, .aload_n 0, 1, 0, 0, 0), (22, .getfield 36, 3, 7, 10, 0), (25, .iload_n 3, 1, 0, 0, 0), (26, .iaload, 1, 0, 0, 0), (27, .istore_n 3, 1, 0, 0, 0), (28, .iinc 4 1, 3, 0, 0, 0), (31, .goto (-21), 3, 0, 0, 0), (34, .iload_n 3, 1, 0, 0, 0), (35, .ireturn, 1, 0, 0, 0)]
def aD_X8_childAt : ax_D := (yX8_childAt, cX8_childAt, 5, (some .int), [], [], at_X8_childAt, [])
def at_X9_writeUnits : List (Nat × ax_I) := [(0, .aload_n 3, 1, 0, 0, 0), (1, .iconst 0, 1, 0, 0, 0), (2, .invokevirtual 9, 3, 58, 1, 0), (5, .iconst 0, 1, 0, 0, 0), (6, .istore 4, 2, 0, 0, 0), (8, .iload 4, 2, 0, 0, 0), (10, .aload_n 0, 1, 0, 0, 0), (11, .getfield 15, 3, 7, 0, 0), (14, .if_icmp .ge 87, 3, 0, 0, 0), (17, .aload_n 3, 1, 0, 0, 0), (18, .aload_n 2, 1, 0, 0, 0), (19, .getfield 21, 3, 2, 9, 0), (22, .iload 4, 2, 0, 0, 0), (24, .iaload, 1, 0, 0, 0), (25, .iconst 4, 1, 0, 0, 0), (26, .isub, 1, 0, 0, 0), (27, .i2l, 1, 0, 0, 0), (28, .iconst 4, 1, 0, 0, 0), (29, .invokevirtual 27, 3, 61, 2, 0), (32, .aload_n 3, 1, 0, 0, 0), (33, .ldc2_w 31, 3, 0, 0, 4), (36, .iconst 2, 1, 0, 0, 0), (37, .invokevirtual 27, 3, 61, 2, 0), (40, .aload_n 3, 1, 0, 0, 0), (41, .lconst 0, 1, 0, 0, 0), (42, .iconst 4, 1, 0, 0, 0), (43, .invokevirtual 27, 3, 61, 2, 0), (46, .aload_n 3, 1, 0, 0, 0), (47, .bipush 8, 2, 0, 0, 0), (49, .invokevirtual 33, 3, 59, 1, 0), (52, .aload_n 2, 1, 0, 0, 0), (53, .getfield 36, 3, 2, 8, 0), (56, .iload 4, 2, 0, 0, 0), (58, .iaload, 1, 0, 0, 0), (59, .istore 5, 2, 0, 0, 0), (61, .iload 5, 2, 0, 0, 0), (63, .aload_n 2, 1, 0, 0, 0), (64, .getfield 36, 3, 2, 8, 0), (67, .iload 4, 2, 0, 0, 0), (69, .iconst 1, 1, 0, 0, 0), (70, .iadd, 1, 0, 0, 0), (71, .iaload, 1, 0, 0, 0), (72, .if_icmp .ge 23, 3, 0, 0, 0), (75, .aload_n 0, 1, 0, 0, 0), (76, .aload_n 1, 1, 0, 0, 0), (77, .aload_n 2, 1, 0, 0, 0), (78, .aload_n 3, 1, 0, 0, 0), (79, .aload_n 2, 1, 0, 0, 0), (80, .getfield 39, 3, 2, 7, 0), (83, .iload 5, 2, 0, 0, 0), (85, .iaload, 1, 0, 0, 0), (86, .invokestatic 42, 3, 88, 5, 0), (89, .iinc 5 1, 3, 0, 0, 0), (92, .goto (-31), 3, 0, 0, 0), (95, .iinc 4 1, 3, 0, 0, 0), (98, .goto (-90), 3, 0, 0, 0), (101, .return_, 1, 0, 0, 0)]
def aD_X9_writeUnits : ax_D := (yX9_writeUnits, cX9_writeUnits, 6, none, [], [], at_X9_writeUnits, [])
def at_X9_writeEntry : List (Nat × ax_I) := [(0, .aload_n 3, 1, 0, 0, 0), (1, .aload_n 2, 1, 0, 0, 0), (2, .getfield 48, 3, 2, 13, 0), (5, .iload 4, 2, 0, 0, 0), (7, .iaload, 1, 0, 0, 0), (8, .i2l, 1, 0, 0, 0), (9, .invokevirtual 51, 3, 62, 1, 0), (12, .iconst 0, 1, 0, 0, 0), (13, .istore 5, 2, 0, 0, 0), (15, .iload 5, 2, 0, 0, 0), (17, .aload_n 0, 1, 0, 0, 0), (18, .getfield 55, 3, 7, 11, 0), (21, .iload 4, 2, 0, 0, 0), (23, .iaload, 1, 0, 0, 0), (24, .if_icmp .ge 23, 3, 0, 0, 0), (27, .aload_n 0, 1, 0, 0, 0), (28, .aload_n 1, 1, 0, 0, 0), (29, .aload_n 2, 1, 0, 0, 0), (30, .aload_n 3, 1, 0, 0, 0), (31, .iload 4, 2, 0, 0, 0), (33, .iload 5, 2, 0, 0, 0), (35, .invokestatic 58, 3, 78, 2, 0), (38, .invokestatic 62, 3, 89, 5, 0), (41, .iinc 5 1, 3, 0, 0, 0), (44, .goto (-29), 3, 0, 0, 0), (47, .aload_n 3, 1, 0, 0, 0), (48, .lconst 0, 1, 0, 0, 0), (49, .aload_n 2, 1, 0, 0, 0), (50, .getfield 65, 3, 2, 10, 0), (53, .iload 4, 2, 0, 0, 0), (55, .iaload, 1, 0, 0, 0), (56, .invokevirtual 27, 3, 61, 2, 0), (59, .return_, 1, 0, 0, 0)]
def aD_X9_writeEntry : ax_D := (yX9_writeEntry, cX9_writeEntry, 6, none, [], [], at_X9_writeEntry, [])
def at_X9_writeValue : List (Nat × ax_I) := [(0, .aload_n 0, 1, 0, 0, 0), (1, .getfield 68, 3, 7, 14, 0), (4, .iload 4, 2, 0, 0, 0), (6, .laload, 1, 0, 0, 0), (7, .lstore 5, 2, 0, 0, 0), (9, .aload_n 0, 1, 0, 0, 0), (10, .getfield 72, 3, 7, 13, 0), (13, .iload 4, 2, 0, 0, 0), (15, .iaload, 1, 0, 0, 0), (16, .istore 7, 2, 0, 0, 0), (18, .iload 7, 2, 0, 0, 0), (20, .tableswitch 197 8 21 #[90, 197, 116, 197, 197, 72, 148, 81, 197, 197, 197, 164, 197, 181], 72, 0, 0, 0), (92, .aload_n 3, 1, 0, 0, 0), (93, .lload 5, 2, 0, 0, 0), (95, .invokevirtual 75, 3, 63, 1, 0), (98, .goto 130, 3, 0, 0, 0), (101, .aload_n 3, 1, 0, 0, 0), (102, .lload 5, 2, 0, 0, 0), (104, .invokevirtual 51, 3, 62, 1, 0), (107, .goto 121, 3, 0, 0, 0), (110, .aload_n 3, 1, 0, 0, 0), (111, .aload_n 1, 1, 0, 0, 0), (112, .aload_n 0, 1, 0, 0, 0), (113, .iload 4, 2, 0, 0, 0), (115, .invokevirtual 78, 3, 85, 1, 0), (118, .aload_n 0, 1, 0, 0, 0), (119, .getfield 82, 3, 7, 15, 0), (122, .iload 4, 2, 0, 0, 0), (124, .iaload, 1, 0, 0, 0), (125, .invokevirtual 85, 3, 65, 3, 0), (128, .aload_n 3, 1, 0, 0, 0), (129, .iconst 0, 1, 0, 0, 0), (130, .invokevirtual 33, 3, 59, 1, 0), (133, .goto 95, 3, 0, 0, 0), (136, .aload_n 3, 1, 0, 0, 0), (137, .aload_n 0, 1, 0, 0, 0), (138, .getfield 82, 3, 7, 15, 0), (141, .iload 4, 2, 0, 0, 0), (143, .iaload, 1, 0, 0, 0), (144, .invokevirtual 33, 3, 59, 1, 0), (147, .aload_n 3, 1, 0, 0, 0), (148, .aload_n 1, 1, 0, 0, 0), (149, .aload_n 0, 1, 0, 0, 0), (150, .iload 4, 2, 0, 0, 0), (152, .invokevirtual 78, 3, 85, 1, 0), (155, .aload_n 0, 1, 0, 0, 0), (156, .getfield 82, 3, 7, 15, 0), (159, .iload 4, 2, 0, 0, 0), (161, .iaload, 1, 0, 0, 0), (162, .invokevirtual 85, 3, 65, 3, 0), (165, .goto 63, 3, 0, 0, 0), (168, .aload_n 3, 1, 0, 0, 0), (169, .aload_n 2, 1, 0, 0, 0), (170, .getfield 89, 3, 2, 15, 0), (173, .iload 4, 2, 0, 0, 0), (175, .iaload, 1, 0, 0, 0), (176, .i2l, 1, 0, 0, 0), (177, .iconst 4, 1, 0, 0, 0), (178, .invokevirtual 27, 3, 61, 2, 0), (181, .goto 47, 3, 0, 0, 0), (184, .aload_n 3, 1, 0, 0, 0), (185, .aload_n 2, 1, 0, 0, 0), (186, .getfield 92, 3, 2, 12, 0), (189, .lload 5, 2, 0, 0, 0), (191, .l2i, 1, 0, 0, 0), (192, .iaload, 1, 0, 0, 0), (193, .i2l, 1, 0, 0, 0), (194, .iconst 4, 1, 0, 0, 0), (195, .invokevirtual 27, 3, 61, 2, 0), (198, .goto 30, 3, 0, 0, 0), (201, .aload_n 3, 1, 0, 0, 0), (202, .aload_n 2, 1, 0, 0, 0), (203, .getfield 92, 3, 2, 12, 0), (206, .lload 5, 2, 0, 0, 0), (208, .l2i, 1, 0, 0, 0), (209, .iaload, 1, 0, 0, 0), (210, .i2l, 1, 0, 0, 0), (211, .invokevirtual 51, 3, 62, 1, 0), (214, .goto 14, 3, 0, 0, 0), (217, .aload_n 3, 1, 0, 0, 0), (218, .lload 5, 2, 0, 0, 0), (220, .iload 7, 2, 0, 0, 0), (222, .invokestatic 95, 3, 21, 1, 0), (225, .invokevirtual 27, 3, 61, 2, 0), (228, .return_, 1, 0, 0, 0)]
def aD_X9_writeValue : ax_D := (yX9_writeValue, cX9_writeValue, 8, none, [], [], at_X9_writeValue, [])
def at_X9_writeShapes : List (Nat × ax_I) := [(0, .aload_n 2, 1, 0, 0, 0), (1, .iconst 0, 1, 0, 0, 0), (2, .invokevirtual 9, 3, 58, 1, 0), (5, .iconst 0, 1, 0, 0, 0), (6, .istore_n 3, 1, 0, 0, 0), (7, .iload_n 3, 1, 0, 0, 0), (8, .aload_n 1, 1, 0, 0, 0), (9, .getfield 100, 3, 2, 0, 0), (12, .if_icmp .ge 116, 3, 0, 0, 0), (15, .aload_n 1, 1, 0, 0, 0), (16, .getfield 103, 3, 2, 14, 0), (19, .iload_n 3, 1, 0, 0, 0), (20, .iaload, 1, 0, 0, 0), (21, .istore 4, 2, 0, 0, 0), (23, .aload_n 2, 1, 0, 0, 0), (24, .iload_n 3, 1, 0, 0, 0), (25, .iconst 1, 1, 0, 0, 0), (26, .iadd, 1, 0, 0, 0), (27, .i2l, 1, 0, 0, 0), (28, .invokevirtual 51, 3, 62, 1, 0), (31, .aload_n 2, 1, 0, 0, 0), (32, .aload_n 0, 1, 0, 0, 0), (33, .getfield 106, 3, 7, 3, 0), (36, .iload 4, 2, 0, 0, 0), (38, .iaload, 1, 0, 0, 0), (39, .i2l, 1, 0, 0, 0), (40, .invokevirtual 51, 3, 62, 1, 0), (43, .aload_n 2, 1, 0, 0, 0), (44, .aload_n 0, 1, 0, 0, 0), (45, .getfield 109, 3, 7, 7, 0), (48, .iload 4, 2, 0, 0, 0), (50, .iaload, 1, 0, 0, 0), (51, .ifCond .le 7, 3, 0, 0, 0), (54, .iconst 1, 1, 0, 0, 0), (55, .goto 4, 3, 0, 0, 0), (58, .iconst 0, 1, 0, 0, 0), (59, .invokevirtual 33, 3, 59, 1, 0), (62, .iconst 0, 1, 0, 0, 0), (63, .istore 5, 2, 0, 0, 0), (65, .iload 5, 2, 0, 0, 0), (67, .aload_n 0, 1, 0, 0, 0), (68, .getfield 55, 3, 7, 11, 0), (71, .iload 4, 2, 0, 0, 0), (73, .iaload, 1, 0, 0, 0), (74, .if_icmp .ge 42, 3, 0, 0, 0), (77, .iload 4, 2, 0, 0, 0), (79, .iload 5, 2, 0, 0, 0), (81, .invokestatic 58, 3, 78, 2, 0), (84, .istore 6, 2, 0, 0, 0), (86, .aload_n 2, 1, 0, 0, 0), (87, .aload_n 0, 1, 0, 0, 0), (88, .getfield 112, 3, 7, 12, 0), (91, .iload 6, 2, 0, 0, 0), (93, .iaload, 1, 0, 0, 0), (94, .i2l, 1, 0, 0, 0), (95, .invokevirtual 51, 3, 62, 1, 0), (98, .aload_n 2, 1, 0, 0, 0), (99, .aload_n 0, 1, 0, 0, 0), (100, .getfield 72, 3, 7, 13, 0), (103, .iload 6, 2, 0, 0, 0), (105, .iaload, 1, 0, 0, 0), (106, .i2l, 1, 0, 0, 0), (107, .invokevirtual 51, 3, 62, 1, 0), (110, .iinc 5 1, 3, 0, 0, 0), (113, .goto (-48), 3, 0, 0, 0), (116, .aload_n 2, 1, 0, 0, 0), (117, .lconst 0, 1, 0, 0, 0), (118, .iconst 2, 1, 0, 0, 0), (119, .invokevirtual 27, 3, 61, 2, 0), (122, .iinc 3 1, 3, 0, 0, 0), (125, .goto (-118), 3, 0, 0, 0), (128, .aload_n 2, 1, 0, 0, 0), (129, .iconst 0, 1, 0, 0, 0), (130, .invokevirtual 33, 3, 59, 1, 0), (133, .return_, 1, 0, 0, 0)]
def aD_X9_writeShapes : ax_D := (yX9_writeShapes, cX9_writeShapes, 7, none, [], [], at_X9_writeShapes, [])
def at_X9_writeTexts : List (Nat × ax_I) := [(0, .aload_n 3, 1, 0, 0, 0), (1, .iconst 0, 1, 0, 0, 0), (2, .invokevirtual 9, 3, 58, 1, 0), (5, .iconst 0, 1, 0, 0, 0), (6, .istore 4, 2, 0, 0, 0), (8, .iload 4, 2, 0, 0, 0), (10, .aload_n 2, 1, 0, 0, 0), (11, .getfield 115, 3, 2, 1, 0), (14, .if_icmp .ge 41, 3, 0, 0, 0), (17, .aload_n 2, 1, 0, 0, 0), (18, .getfield 118, 3, 2, 16, 0), (21, .iload 4, 2, 0, 0, 0), (23, .iaload, 1, 0, 0, 0), (24, .istore 5, 2, 0, 0, 0), (26, .aload_n 3, 1, 0, 0, 0), (27, .aload_n 1, 1, 0, 0, 0), (28, .aload_n 0, 1, 0, 0, 0), (29, .iload 5, 2, 0, 0, 0), (31, .invokevirtual 78, 3, 85, 1, 0), (34, .aload_n 0, 1, 0, 0, 0), (35, .getfield 82, 3, 7, 15, 0), (38, .iload 5, 2, 0, 0, 0), (40, .iaload, 1, 0, 0, 0), (41, .invokevirtual 85, 3, 65, 3, 0), (44, .aload_n 3, 1, 0, 0, 0), (45, .iconst 0, 1, 0, 0, 0), (46, .invokevirtual 33, 3, 59, 1, 0), (49, .iinc 4 1, 3, 0, 0, 0), (52, .goto (-44), 3, 0, 0, 0), (55, .return_, 1, 0, 0, 0)]
def aD_X9_writeTexts : ax_D := (yX9_writeTexts, cX9_writeTexts, 6, none, [], [], at_X9_writeTexts, [])
def at_X10_init : List (Nat × ax_I) := [(0, .aload_n 0, 1, 0, 0, 0), (1, .invokespecial 3, 3, 901, 0, 0), (4, .aload_n 0, 1, 0, 0, 0), (5, .new 9, 3, 5, 0, 0), (8, .dup, 1, 0, 0, 0), (9, .sipush 12000, 3, 0, 0, 0), (12, .invokespecial 11, 3, 52, 1, 0), (15, .putfield 14, 3, 8, 0, 0), (18, .aload_n 0, 1, 0, 0, 0), (19, .new 9, 3, 5, 0, 0), (22, .dup, 1, 0, 0, 0), (23, .sipush 30000, 3, 0, 0, 0), (26, .invokespecial 11, 3, 52, 1, 0), (29, .putfield 18, 3, 8, 1, 0), (32, .aload_n 0, 1, 0, 0, 0), (33, .new 21, 3, 4, 0, 0), (36, .dup, 1, 0, 0, 0), (37, .invokespecial 23, 3, 50, 0, 0), (40, .putfield 24, 3, 8, 2, 0), (43, .aload_n 0, 1, 0, 0, 0), (44, .new 28, 3, 2, 0, 0), (47, .dup, 1, 0, 0, 0), (48, .invokespecial 30, 3, 22, 0, 0), (51, .putfield 31, 3, 8, 3, 0), (54, .aload_n 0, 1, 0, 0, 0), (55, .new 35, 3, 3, 0, 0), (58, .dup, 1, 0, 0, 0), (59, .invokespecial 37, 3, 39, 0, 0), (62, .putfield 38, 3, 8, 4, 0), (65, .aload_n 0, 1, 0, 0, 0), (66, .new 42, 3, 7, 0, 0), (69, .dup, 1, 0, 0, 0), (70, .invokespecial 44, 3, 77, 0, 0), (73, .putfield 45, 3, 8, 5, 0), (76, .return_, 1, 0, 0, 0)]
def aD_X10_init : ax_D := (yX10_init, cX10_init, 1, none, [], [], at_X10_init, [])
def at_X10_feed : List (Nat × ax_I) := [(0, .aload_n 0, 1, 0, 0, 0), (1, .getfield 14, 3, 8, 0, 0), (4, .invokevirtual 49, 3, 55, 0, 0), (7, .bipush 20, 2, 0, 0, 0), (9, .if_icmp .ge 13, 3, 0, 0, 0), (22, .aload_n 0, 1, 0, 0, 0), (23, .getfield 14, 3, 8, 0, 0), (26, .iload_n 1, 1, 0, 0, 0), (27, .invokevirtual 60, 3, 60, 1, 0), (30, .aload_n 0, 1, 0, 0, 0), (31, .getfield 14, 3, 8, 0, 0), (34, .iload_n 2, 1, 0, 0, 0), (35, .invokevirtual 60, 3, 60, 1, 0), (38, .aload_n 0, 1, 0, 0, 0), (39, .getfield 14, 3, 8, 0, 0), (42, .iload_n 3, 1, 0, 0, 0), (43, .invokevirtual 60, 3, 60, 1, 0), (46, .aload_n 0, 1, 0, 0, 0), (47, .getfield 14, 3, 8, 0, 0), (50, .iload 4, 2, 0, 0, 0), (52, .invokevirtual 60, 3, 60, 1, 0), (55, .aload_n 0, 1, 0, 0, 0), (56, .getfield 14, 3, 8, 0, 0), (59, .iload 5, 2, 0, 0, 0), (61, .invokevirtual 60, 3, 60, 1, 0), (64, .aload_n 0, 1, 0, 0, 0), (65, .getfield 14, 3, 8, 0, 0), (68, .invokevirtual 63, 3, 53, 0, 0), (71, .ireturn, 1, 0, 0, 0)]
def aD_X10_feed : ax_D := (yX10_feed, cX10_feed, 6, (some .int), [], [], at_X10_feed, [(12, "java/lang/IllegalStateException", "the tape is full", 53, 55, 57, false)])
def at_X10_end : List (Nat × ax_I) := [(0, .iload_n 1, 1, 0, 0, 0), (1, .ifCond .lt 14, 3, 0, 0, 0), (4, .iload_n 1, 1, 0, 0, 0), (5, .aload_n 0, 1, 0, 0, 0), (6, .getfield 14, 3, 8, 0, 0), (9, .invokevirtual 63, 3, 53, 0, 0), (12, .if_icmp .le 13, 3, 0, 0, 0), (25, .aload_n 0, 1, 0, 0, 0), (26, .getfield 14, 3, 8, 0, 0), (29, .iload_n 1, 1, 0, 0, 0), (30, .invokevirtual 71, 3, 58, 1, 0), (33, .return_, 1, 0, 0, 0)]
def aD_X10_end : ax_D := (yX10_end, cX10_end, 2, none, [], [], at_X10_end, [(15, "java/lang/IllegalArgumentException", "the tape has no such end", 66, 68, 70, false)])
def at_X10_unit : List (Nat × ax_I) := [(0, .aload_n 0, 1, 0, 0, 0), (1, .iload_n 1, 1, 0, 0, 0), (2, .invokevirtual 74, 3, 118, 1, 0), (5, .aload_n 0, 1, 0, 0, 0), (6, .getfield 45, 3, 8, 5, 0), (9, .getfield 77, 3, 7, 0, 0), (12, .bipush 6, 2, 0, 0, 0), (14, .if_icmp .eq 16, 3, 0, 0, 0), (17, .aload_n 0, 1, 0, 0, 0), (18, .getfield 45, 3, 8, 5, 0), (21, .getfield 81, 3, 7, 1, 0), (24, .sipush 400, 3, 0, 0, 0), (27, .if_icmp .ne 13, 3, 0, 0, 0), (40, .aload_n 0, 1, 0, 0, 0), (41, .getfield 31, 3, 8, 3, 0), (44, .invokevirtual 89, 3, 23, 0, 0), (47, .aload_n 0, 1, 0, 0, 0), (48, .getfield 45, 3, 8, 5, 0), (51, .iload_n 1, 1, 0, 0, 0), (52, .invokevirtual 92, 3, 80, 1, 0), (55, .ireturn, 1, 0, 0, 0)]
def aD_X10_unit : ax_D := (yX10_unit, cX10_unit, 2, (some .int), [], [], at_X10_unit, [(30, "java/lang/UnsupportedOperationException", "no room for a unit", 84, 86, 88, false)])
def at_X10_entry : List (Nat × ax_I) := [(0, .aload_n 0, 1, 0, 0, 0), (1, .iload_n 1, 1, 0, 0, 0), (2, .invokevirtual 96, 3, 117, 1, 0), (5, .aload_n 0, 1, 0, 0, 0), (6, .iload_n 2, 1, 0, 0, 0), (7, .invokevirtual 74, 3, 118, 1, 0), (10, .aload_n 0, 1, 0, 0, 0), (11, .getfield 45, 3, 8, 5, 0), (14, .getfield 81, 3, 7, 1, 0), (17, .sipush 400, 3, 0, 0, 0), (20, .if_icmp .eq 17, 3, 0, 0, 0), (23, .aload_n 0, 1, 0, 0, 0), (24, .getfield 45, 3, 8, 5, 0), (27, .getfield 99, 3, 7, 6, 0), (30, .iload_n 1, 1, 0, 0, 0), (31, .iaload, 1, 0, 0, 0), (32, .bipush 30, 2, 0, 0, 0), (34, .if_icmp .ne 13, 3, 0, 0, 0), (47, .aload_n 0, 1, 0, 0, 0), (48, .getfield 31, 3, 8, 3, 0), (51, .invokevirtual 89, 3, 23, 0, 0), (54, .aload_n 0, 1, 0, 0, 0), (55, .getfield 45, 3, 8, 5, 0), (58, .iload_n 1, 1, 0, 0, 0), (59, .iload_n 2, 1, 0, 0, 0), (60, .invokevirtual 105, 3, 81, 2, 0), (63, .ireturn, 1, 0, 0, 0)]
def aD_X10_entry : ax_D := (yX10_entry, cX10_entry, 3, (some .int), [], [], at_X10_entry, [(37, "java/lang/UnsupportedOperationException", "no room for an entry", 84, 103, 88, false)])
def at_X10_number : List (Nat × ax_I) := [(0, .aload_n 0, 1, 0, 0, 0), (1, .iload_n 1, 1, 0, 0, 0), (2, .invokevirtual 96, 3, 117, 1, 0), (5, .aload_n 0, 1, 0, 0, 0), (6, .iload_n 1, 1, 0, 0, 0), (7, .iload_n 2, 1, 0, 0, 0), (8, .invokevirtual 109, 3, 119, 2, 0), (11, .iload_n 3, 1, 0, 0, 0), (12, .invokestatic 113, 3, 18, 1, 0), (15, .ifCond .eq 12, 3, 0, 0, 0), (18, .iload_n 3, 1, 0, 0, 0), (19, .lload 4, 2, 0, 0, 0), (21, .invokestatic 119, 3, 20, 2, 0), (24, .ifCond .ne 13, 3, 0, 0, 0), (37, .aload_n 0, 1, 0, 0, 0), (38, .iload_n 1, 1, 0, 0, 0), (39, .iconst 0, 1, 0, 0, 0), (40, .invokevirtual 125, 3, 121, 2, 0), (43, .aload_n 0, 1, 0, 0, 0), (44, .getfield 31, 3, 8, 3, 0), (47, .invokevirtual 89, 3, 23, 0, 0), (50, .aload_n 0, 1, 0, 0, 0), (51, .getfield 45, 3, 8, 5, 0), (54, .iload_n 1, 1, 0, 0, 0), (55, .iload_n 2, 1, 0, 0, 0), (56, .iload_n 3, 1, 0, 0, 0), (57, .lload 4, 2, 0, 0, 0), (59, .iconst 0, 1, 0, 0, 0), (60, .invokevirtual 128, 3, 83, 5, 0), (63, .ireturn, 1, 0, 0, 0)]
def aD_X10_number : ax_D := (yX10_number, cX10_number, 6, (some .int), [], [], at_X10_number, [(27, "java/lang/IllegalArgumentException", "no such number", 66, 123, 70, false)])
def at_X10_bytes : List (Nat × ax_I) := [(0, .aload_n 0, 1, 0, 0, 0), (1, .iload_n 1, 1, 0, 0, 0), (2, .invokevirtual 96, 3, 117, 1, 0), (5, .aload_n 0, 1, 0, 0, 0), (6, .iload_n 1, 1, 0, 0, 0), (7, .iload_n 2, 1, 0, 0, 0), (8, .invokevirtual 109, 3, 119, 2, 0), (11, .aload_n 0, 1, 0, 0, 0), (12, .iload_n 3, 1, 0, 0, 0), (13, .invokevirtual 132, 3, 120, 1, 0), (16, .aload_n 0, 1, 0, 0, 0), (17, .getfield 14, 3, 8, 0, 0), (20, .invokevirtual 63, 3, 53, 0, 0), (23, .istore 4, 2, 0, 0, 0), (25, .aload_n 0, 1, 0, 0, 0), (26, .iload_n 1, 1, 0, 0, 0), (27, .iload 4, 2, 0, 0, 0), (29, .invokevirtual 125, 3, 121, 2, 0), (32, .aload_n 0, 1, 0, 0, 0), (33, .getfield 18, 3, 8, 1, 0), (36, .invokevirtual 63, 3, 53, 0, 0), (39, .istore 5, 2, 0, 0, 0), (41, .aload_n 0, 1, 0, 0, 0), (42, .getfield 18, 3, 8, 1, 0), (45, .aload_n 0, 1, 0, 0, 0), (46, .getfield 14, 3, 8, 0, 0), (49, .iconst 0, 1, 0, 0, 0), (50, .iload 4, 2, 0, 0, 0), (52, .invokevirtual 135, 3, 65, 3, 0), (55, .aload_n 0, 1, 0, 0, 0), (56, .getfield 14, 3, 8, 0, 0), (59, .iconst 0, 1, 0, 0, 0), (60, .invokevirtual 71, 3, 58, 1, 0), (63, .aload_n 0, 1, 0, 0, 0), (64, .getfield 31, 3, 8, 3, 0), (67, .invokevirtual 89, 3, 23, 0, 0), (70, .aload_n 0, 1, 0, 0, 0), (71, .getfield 45, 3, 8, 5, 0), (74, .iload_n 1, 1, 0, 0, 0), (75, .iload_n 2, 1, 0, 0, 0), (76, .iload_n 3, 1, 0, 0, 0), (77, .iload 5, 2, 0, 0, 0), (79, .i2l, 1, 0, 0, 0), (80, .iload 4, 2, 0, 0, 0), (82, .invokevirtual 128, 3, 83, 5, 0), (85, .ireturn, 1, 0, 0, 0)]
def aD_X10_bytes : ax_D := (yX10_bytes, cX10_bytes, 6, (some .int), [], [], at_X10_bytes, [])
def at_X10_reference : List (Nat × ax_I) := [(0, .aload_n 0, 1, 0, 0, 0), (1, .iload_n 1, 1, 0, 0, 0), (2, .invokevirtual 96, 3, 117, 1, 0), (5, .aload_n 0, 1, 0, 0, 0), (6, .iload 4, 2, 0, 0, 0), (8, .invokevirtual 96, 3, 117, 1, 0), (11, .aload_n 0, 1, 0, 0, 0), (12, .getfield 45, 3, 8, 5, 0), (15, .getfield 139, 3, 7, 5, 0), (18, .iload_n 1, 1, 0, 0, 0), (19, .iaload, 1, 0, 0, 0), (20, .aload_n 0, 1, 0, 0, 0), (21, .getfield 45, 3, 8, 5, 0), (24, .getfield 139, 3, 7, 5, 0), (27, .iload 4, 2, 0, 0, 0), (29, .iaload, 1, 0, 0, 0), (30, .if_icmp .eq 13, 3, 0, 0, 0), (43, .aload_n 0, 1, 0, 0, 0), (44, .iload_n 1, 1, 0, 0, 0), (45, .iload_n 2, 1, 0, 0, 0), (46, .invokevirtual 109, 3, 119, 2, 0), (49, .iload_n 3, 1, 0, 0, 0), (50, .invokestatic 144, 3, 17, 1, 0), (53, .ifCond .ne 13, 3, 0, 0, 0), (66, .aload_n 0, 1, 0, 0, 0), (67, .iload_n 1, 1, 0, 0, 0), (68, .iconst 0, 1, 0, 0, 0), (69, .invokevirtual 125, 3, 121, 2, 0), (72, .aload_n 0, 1, 0, 0, 0), (73, .getfield 31, 3, 8, 3, 0), (76, .invokevirtual 89, 3, 23, 0, 0), (79, .aload_n 0, 1, 0, 0, 0), (80, .getfield 45, 3, 8, 5, 0), (83, .iload_n 1, 1, 0, 0, 0), (84, .iload_n 2, 1, 0, 0, 0), (85, .iload_n 3, 1, 0, 0, 0), (86, .iload 4, 2, 0, 0, 0), (88, .i2l, 1, 0, 0, 0), (89, .iconst 0, 1, 0, 0, 0), (90, .invokevirtual 128, 3, 83, 5, 0), (93, .ireturn, 1, 0, 0, 0)]
def aD_X10_reference : ax_D := (yX10_reference, cX10_reference, 5, (some .int), [], [], at_X10_reference, [(33, "java/lang/IllegalStateException", "an entry of another unit", 53, 142, 57, false), (56, "java/lang/IllegalArgumentException", "no form of a reference", 66, 147, 70, false)])
def at_X10_clear : List (Nat × ax_I) := [(0, .aload_n 0, 1, 0, 0, 0), (1, .getfield 45, 3, 8, 5, 0), (4, .getfield 81, 3, 7, 1, 0), (7, .istore_n 1, 1, 0, 0, 0), (8, .aload_n 0, 1, 0, 0, 0), (9, .getfield 45, 3, 8, 5, 0), (12, .invokevirtual 149, 3, 79, 0, 0), (15, .aload_n 0, 1, 0, 0, 0), (16, .getfield 18, 3, 8, 1, 0), (19, .iconst 0, 1, 0, 0, 0), (20, .invokevirtual 71, 3, 58, 1, 0), (23, .aload_n 0, 1, 0, 0, 0), (24, .getfield 31, 3, 8, 3, 0), (27, .invokevirtual 89, 3, 23, 0, 0), (30, .iload_n 1, 1, 0, 0, 0), (31, .ireturn, 1, 0, 0, 0)]
def aD_X10_clear : ax_D := (yX10_clear, cX10_clear, 2, (some .int), [], [], at_X10_clear, [])
def at_X10_write : List (Nat × ax_I) := [(0, .aload_n 0, 1, 0, 0, 0), (1, .getfield 31, 3, 8, 3, 0), (4, .aload_n 0, 1, 0, 0, 0), (5, .getfield 45, 3, 8, 5, 0), (8, .aload_n 0, 1, 0, 0, 0), (9, .getfield 18, 3, 8, 1, 0), (12, .invokevirtual 150, 3, 24, 2, 0), (15, .aload_n 0, 1, 0, 0, 0), (16, .getfield 31, 3, 8, 3, 0), (19, .getfield 154, 3, 2, 2, 0), (22, .sipush 24000, 3, 0, 0, 0), (25, .if_icmp .gt 29, 3, 0, 0, 0), (28, .aload_n 0, 1, 0, 0, 0), (29, .getfield 31, 3, 8, 3, 0), (32, .getfield 157, 3, 2, 3, 0), (35, .sipush 8000, 3, 0, 0, 0), (38, .if_icmp .gt 16, 3, 0, 0, 0), (41, .aload_n 0, 1, 0, 0, 0), (42, .getfield 31, 3, 8, 3, 0), (45, .getfield 160, 3, 2, 4, 0), (48, .sipush 8000, 3, 0, 0, 0), (51, .if_icmp .le 6, 3, 0, 0, 0), (54, .bipush (-2), 2, 0, 0, 0), (56, .ireturn, 1, 0, 0, 0), (57, .aload_n 0, 1, 0, 0, 0), (58, .getfield 45, 3, 8, 5, 0), (61, .aload_n 0, 1, 0, 0, 0), (62, .getfield 18, 3, 8, 1, 0), (65, .aload_n 0, 1, 0, 0, 0), (66, .getfield 31, 3, 8, 3, 0), (69, .aload_n 0, 1, 0, 0, 0), (70, .getfield 24, 3, 8, 2, 0), (73, .getfield 163, 3, 4, 0, 0), (76, .invokestatic 165, 3, 87, 4, 0), (79, .aload_n 0, 1, 0, 0, 0), (80, .getfield 45, 3, 8, 5, 0), (83, .aload_n 0, 1, 0, 0, 0), (84, .getfield 31, 3, 8, 3, 0), (87, .aload_n 0, 1, 0, 0, 0), (88, .getfield 24, 3, 8, 2, 0), (91, .getfield 171, 3, 4, 1, 0), (94, .invokestatic 174, 3, 90, 3, 0), (97, .aload_n 0, 1, 0, 0, 0), (98, .getfield 45, 3, 8, 5, 0), (101, .aload_n 0, 1, 0, 0, 0), (102, .getfield 18, 3, 8, 1, 0), (105, .aload_n 0, 1, 0, 0, 0), (106, .getfield 31, 3, 8, 3, 0), (109, .aload_n 0, 1, 0, 0, 0), (110, .getfield 24, 3, 8, 2, 0), (113, .getfield 178, 3, 4, 2, 0), (116, .invokestatic 181, 3, 91, 4, 0), (119, .aload_n 0, 1, 0, 0, 0), (120, .getfield 24, 3, 8, 2, 0), (123, .getfield 163, 3, 4, 0, 0), (126, .invokevirtual 63, 3, 53, 0, 0), (129, .aload_n 0, 1, 0, 0, 0), (130, .getfield 24, 3, 8, 2, 0), (133, .getfield 171, 3, 4, 1, 0), (136, .invokevirtual 63, 3, 53, 0, 0), (139, .iadd, 1, 0, 0, 0), (140, .aload_n 0, 1, 0, 0, 0), (141, .getfield 24, 3, 8, 2, 0), (144, .getfield 178, 3, 4, 2, 0), (147, .invokevirtual 63, 3, 53, 0, 0), (150, .iadd, 1, 0, 0, 0), (151, .ireturn, 1, 0, 0, 0)]
def aD_X10_write : ax_D := (yX10_write, cX10_write, 1, (some .int), [], [], at_X10_write, [])
def at_X10_size : List (Nat × ax_I) := [(0, .aload_n 0, 1, 0, 0, 0), (1, .iload_n 1, 1, 0, 0, 0), (2, .invokevirtual 184, 3, 122, 1, 0), (5, .aload_n 0, 1, 0, 0, 0), (6, .getfield 24, 3, 8, 2, 0), (9, .iload_n 1, 1, 0, 0, 0), (10, .invokevirtual 187, 3, 51, 1, 0), (13, .invokevirtual 63, 3, 53, 0, 0), (16, .ireturn, 1, 0, 0, 0)]
def aD_X10_size : ax_D := (yX10_size, cX10_size, 2, (some .int), [], [], at_X10_size, [])
def at_X10_octet : List (Nat × ax_I) := [(0, .aload_n 0, 1, 0, 0, 0), (1, .iload_n 1, 1, 0, 0, 0), (2, .iload_n 2, 1, 0, 0, 0), (3, .invokevirtual 191, 3, 123, 2, 0), (6, .aload_n 0, 1, 0, 0, 0), (7, .getfield 24, 3, 8, 2, 0), (10, .iload_n 1, 1, 0, 0, 0), (11, .invokevirtual 187, 3, 51, 1, 0), (14, .iload_n 2, 1, 0, 0, 0), (15, .invokevirtual 194, 3, 56, 1, 0), (18, .ireturn, 1, 0, 0, 0)]
def aD_X10_octet : ax_D := (yX10_octet, cX10_octet, 3, (some .int), [], [], at_X10_octet, [])
def at_X10_load : List (Nat × ax_I) := [(0, .aload_n 0, 1, 0, 0, 0), (1, .iload_n 1, 1, 0, 0, 0), (2, .invokevirtual 184, 3, 122, 1, 0), (5, .aload_n 0, 1, 0, 0, 0), (6, .getfield 24, 3, 8, 2, 0), (9, .iload_n 1, 1, 0, 0, 0), (10, .invokevirtual 187, 3, 51, 1, 0), (13, .astore_n 2, 1, 0, 0, 0), (14, .aload_n 0, 1, 0, 0, 0), (15, .getfield 14, 3, 8, 0, 0), (18, .invokevirtual 63, 3, 53, 0, 0), (21, .istore_n 3, 1, 0, 0, 0), (22, .iload_n 3, 1, 0, 0, 0), (23, .aload_n 2, 1, 0, 0, 0), (24, .invokevirtual 197, 3, 54, 0, 0), (27, .if_icmp .le 13, 3, 0, 0, 0), (40, .aload_n 2, 1, 0, 0, 0), (41, .iconst 0, 1, 0, 0, 0), (42, .invokevirtual 71, 3, 58, 1, 0), (45, .aload_n 2, 1, 0, 0, 0), (46, .aload_n 0, 1, 0, 0, 0), (47, .getfield 14, 3, 8, 0, 0), (50, .iconst 0, 1, 0, 0, 0), (51, .iload_n 3, 1, 0, 0, 0), (52, .invokevirtual 135, 3, 65, 3, 0), (55, .aload_n 0, 1, 0, 0, 0), (56, .getfield 14, 3, 8, 0, 0), (59, .iconst 0, 1, 0, 0, 0), (60, .invokevirtual 71, 3, 58, 1, 0), (63, .iload_n 3, 1, 0, 0, 0), (64, .ireturn, 1, 0, 0, 0)]
def aD_X10_load : ax_D := (yX10_load, cX10_load, 4, (some .int), [], [], at_X10_load, [(30, "java/lang/UnsupportedOperationException", "too many bytes for the section", 84, 200, 88, false)])
def at_X10_alter : List (Nat × ax_I) := [(0, .aload_n 0, 1, 0, 0, 0), (1, .iload_n 1, 1, 0, 0, 0), (2, .iload_n 2, 1, 0, 0, 0), (3, .invokevirtual 191, 3, 123, 2, 0), (6, .aload_n 0, 1, 0, 0, 0), (7, .getfield 24, 3, 8, 2, 0), (10, .iload_n 1, 1, 0, 0, 0), (11, .invokevirtual 187, 3, 51, 1, 0), (14, .astore 4, 2, 0, 0, 0), (16, .aload 4, 2, 0, 0, 0), (18, .iload_n 2, 1, 0, 0, 0), (19, .iload_n 3, 1, 0, 0, 0), (20, .invokevirtual 202, 3, 57, 2, 0), (23, .aload 4, 2, 0, 0, 0), (25, .iload_n 2, 1, 0, 0, 0), (26, .invokevirtual 194, 3, 56, 1, 0), (29, .ireturn, 1, 0, 0, 0)]
def aD_X10_alter : ax_D := (yX10_alter, cX10_alter, 5, (some .int), [], [], at_X10_alter, [])
def at_X10_read : List (Nat × ax_I) := [(0, .aload_n 0, 1, 0, 0, 0), (1, .getfield 38, 3, 8, 4, 0), (4, .aload_n 0, 1, 0, 0, 0), (5, .getfield 24, 3, 8, 2, 0), (8, .invokevirtual 205, 3, 40, 1, 0), (11, .goto 17, 3, 0, 0, 0), (14, .astore_n 1, 1, 0, 0, 0), (15, .iconst (-1), 1, 0, 0, 0), (16, .aload_n 0, 1, 0, 0, 0), (17, .getfield 38, 3, 8, 4, 0), (20, .getfield 209, 3, 3, 1, 0), (23, .getfield 213, 3, 1, 4, 0), (26, .isub, 1, 0, 0, 0), (27, .ireturn, 1, 0, 0, 0), (28, .aload_n 0, 1, 0, 0, 0), (29, .getfield 45, 3, 8, 5, 0), (32, .astore_n 1, 1, 0, 0, 0), (33, .aload_n 0, 1, 0, 0, 0), (34, .aload_n 0, 1, 0, 0, 0), (35, .getfield 38, 3, 8, 4, 0), (38, .getfield 218, 3, 3, 0, 0), (41, .putfield 45, 3, 8, 5, 0), (44, .aload_n 0, 1, 0, 0, 0), (45, .getfield 38, 3, 8, 4, 0), (48, .aload_n 1, 1, 0, 0, 0), (49, .putfield 218, 3, 3, 0, 0), (52, .aload_n 0, 1, 0, 0, 0), (53, .invokevirtual 219, 3, 125, 0, 0), (56, .aload_n 0, 1, 0, 0, 0), (57, .getfield 31, 3, 8, 3, 0), (60, .invokevirtual 89, 3, 23, 0, 0), (63, .aload_n 0, 1, 0, 0, 0), (64, .getfield 45, 3, 8, 5, 0), (67, .getfield 81, 3, 7, 1, 0), (70, .ireturn, 1, 0, 0, 0)]
def aD_X10_read : ax_D := (yX10_read, cX10_read, 2, (some .int), [(0, 11, 14, 53)], ["java/lang/IllegalStateException"], at_X10_read, [])
def at_X10_fault : List (Nat × ax_I) := [(0, .iload_n 1, 1, 0, 0, 0), (1, .ifCond .lt 8, 3, 0, 0, 0), (4, .iload_n 1, 1, 0, 0, 0), (5, .iconst 1, 1, 0, 0, 0), (6, .if_icmp .le 13, 3, 0, 0, 0), (19, .iload_n 1, 1, 0, 0, 0), (20, .ifCond .ne 16, 3, 0, 0, 0), (23, .aload_n 0, 1, 0, 0, 0), (24, .getfield 38, 3, 8, 4, 0), (27, .getfield 209, 3, 3, 1, 0), (30, .getfield 227, 3, 1, 2, 0), (33, .goto 13, 3, 0, 0, 0), (36, .aload_n 0, 1, 0, 0, 0), (37, .getfield 38, 3, 8, 4, 0), (40, .getfield 209, 3, 3, 1, 0), (43, .getfield 230, 3, 1, 3, 0), (46, .ireturn, 1, 0, 0, 0)]
def aD_X10_fault : ax_D := (yX10_fault, cX10_fault, 2, (some .int), [], [], at_X10_fault, [(9, "java/lang/IndexOutOfBoundsException", "no such part of a fault", 222, 224, 226, false)])
def at_X10_count : List (Nat × ax_I) := [(0, .iload_n 1, 1, 0, 0, 0), (1, .tableswitch 93 0 3 #[31, 39, 47, 70], 31, 0, 0, 0), (32, .aload_n 0, 1, 0, 0, 0), (33, .getfield 45, 3, 8, 5, 0), (36, .getfield 81, 3, 7, 1, 0), (39, .ireturn, 1, 0, 0, 0), (40, .aload_n 0, 1, 0, 0, 0), (41, .getfield 45, 3, 8, 5, 0), (44, .getfield 77, 3, 7, 0, 0), (47, .ireturn, 1, 0, 0, 0), (48, .aload_n 0, 1, 0, 0, 0), (49, .getfield 31, 3, 8, 3, 0), (52, .aload_n 0, 1, 0, 0, 0), (53, .getfield 45, 3, 8, 5, 0), (56, .aload_n 0, 1, 0, 0, 0), (57, .getfield 18, 3, 8, 1, 0), (60, .invokevirtual 150, 3, 24, 2, 0), (63, .aload_n 0, 1, 0, 0, 0), (64, .getfield 31, 3, 8, 3, 0), (67, .getfield 233, 3, 2, 0, 0), (70, .ireturn, 1, 0, 0, 0), (71, .aload_n 0, 1, 0, 0, 0), (72, .getfield 31, 3, 8, 3, 0), (75, .aload_n 0, 1, 0, 0, 0), (76, .getfield 45, 3, 8, 5, 0), (79, .aload_n 0, 1, 0, 0, 0), (80, .getfield 18, 3, 8, 1, 0), (83, .invokevirtual 150, 3, 24, 2, 0), (86, .aload_n 0, 1, 0, 0, 0), (87, .getfield 31, 3, 8, 3, 0), (90, .getfield 235, 3, 2, 1, 0), (93, .ireturn, 1, 0, 0, 0)]
def aD_X10_count : ax_D := (yX10_count, cX10_count, 2, (some .int), [], [], at_X10_count, [(94, "java/lang/IndexOutOfBoundsException", "no such count", 222, 237, 226, false)])
def at_X10_about : List (Nat × ax_I) := [(0, .aload_n 0, 1, 0, 0, 0), (1, .iload_n 1, 1, 0, 0, 0), (2, .invokevirtual 96, 3, 117, 1, 0), (5, .iload_n 2, 1, 0, 0, 0), (6, .tableswitch 113 0 5 #[38, 48, 58, 68, 78, 88], 38, 0, 0, 0), (44, .aload_n 0, 1, 0, 0, 0), (45, .getfield 45, 3, 8, 5, 0), (48, .getfield 239, 3, 7, 3, 0), (51, .iload_n 1, 1, 0, 0, 0), (52, .iaload, 1, 0, 0, 0), (53, .ireturn, 1, 0, 0, 0), (54, .aload_n 0, 1, 0, 0, 0), (55, .getfield 45, 3, 8, 5, 0), (58, .getfield 242, 3, 7, 4, 0), (61, .iload_n 1, 1, 0, 0, 0), (62, .iaload, 1, 0, 0, 0), (63, .ireturn, 1, 0, 0, 0), (64, .aload_n 0, 1, 0, 0, 0), (65, .getfield 45, 3, 8, 5, 0), (68, .getfield 139, 3, 7, 5, 0), (71, .iload_n 1, 1, 0, 0, 0), (72, .iaload, 1, 0, 0, 0), (73, .ireturn, 1, 0, 0, 0), (74, .aload_n 0, 1, 0, 0, 0), (75, .getfield 45, 3, 8, 5, 0), (78, .getfield 245, 3, 7, 7, 0), (81, .iload_n 1, 1, 0, 0, 0), (82, .iaload, 1, 0, 0, 0), (83, .ireturn, 1, 0, 0, 0), (84, .aload_n 0, 1, 0, 0, 0), (85, .getfield 45, 3, 8, 5, 0), (88, .getfield 248, 3, 7, 11, 0), (91, .iload_n 1, 1, 0, 0, 0), (92, .iaload, 1, 0, 0, 0), (93, .ireturn, 1, 0, 0, 0), (94, .aload_n 0, 1, 0, 0, 0), (95, .getfield 31, 3, 8, 3, 0), (98, .aload_n 0, 1, 0, 0, 0), (99, .getfield 45, 3, 8, 5, 0), (102, .aload_n 0, 1, 0, 0, 0), (103, .getfield 18, 3, 8, 1, 0), (106, .invokevirtual 150, 3, 24, 2, 0), (109, .aload_n 0, 1, 0, 0, 0), (110, .getfield 31, 3, 8, 3, 0), (113, .getfield 251, 3, 2, 12, 0), (116, .iload_n 1, 1, 0, 0, 0), (117, .iaload, 1, 0, 0, 0), (118, .ireturn, 1, 0, 0, 0)]
def aD_X10_about : ax_D := (yX10_about, cX10_about, 3, (some .int), [], [], at_X10_about, [(119, "java/lang/IndexOutOfBoundsException", "nothing such about an entry", 222, 254, 226, false)])
def at_X10_child : List (Nat × ax_I) := [(0, .aload_n 0, 1, 0, 0, 0), (1, .iload_n 1, 1, 0, 0, 0), (2, .invokevirtual 96, 3, 117, 1, 0), (5, .iload_n 2, 1, 0, 0, 0), (6, .ifCond .lt 16, 3, 0, 0, 0), (9, .iload_n 2, 1, 0, 0, 0), (10, .aload_n 0, 1, 0, 0, 0), (11, .getfield 45, 3, 8, 5, 0), (14, .getfield 245, 3, 7, 7, 0), (17, .iload_n 1, 1, 0, 0, 0), (18, .iaload, 1, 0, 0, 0), (19, .if_icmp .lt 7, 3, 0, 0, 0), (22, .iconst (-1), 1, 0, 0, 0), (23, .goto 12, 3, 0, 0, 0), (26, .aload_n 0, 1, 0, 0, 0), (27, .getfield 45, 3, 8, 5, 0), (30, .iload_n 1, 1, 0, 0, 0), (31, .iload_n 2, 1, 0, 0, 0), (32, .invokevirtual 256, 3, 86, 2, 0), (35, .ireturn, 1, 0, 0, 0)]
def aD_X10_child : ax_D := (yX10_child, cX10_child, 3, (some .int), [], [], at_X10_child, [])
def at_X10_root : List (Nat × ax_I) := [(0, .iload_n 1, 1, 0, 0, 0), (1, .ifCond .lt 14, 3, 0, 0, 0), (4, .iload_n 1, 1, 0, 0, 0), (5, .aload_n 0, 1, 0, 0, 0), (6, .getfield 45, 3, 8, 5, 0), (9, .getfield 77, 3, 7, 0, 0), (12, .if_icmp .lt 14, 3, 0, 0, 0), (26, .aload_n 0, 1, 0, 0, 0), (27, .getfield 45, 3, 8, 5, 0), (30, .getfield 261, 3, 7, 2, 0), (33, .iload_n 1, 1, 0, 0, 0), (34, .iaload, 1, 0, 0, 0), (35, .ireturn, 1, 0, 0, 0)]
def aD_X10_root : ax_D := (yX10_root, cX10_root, 2, (some .int), [], [], at_X10_root, [(15, "java/lang/IndexOutOfBoundsException", "no such unit", 222, 259, 226, true)])
def at_X10_attribute : List (Nat × ax_I) := [(0, .aload_n 0, 1, 0, 0, 0), (1, .iload_n 1, 1, 0, 0, 0), (2, .iload_n 2, 1, 0, 0, 0), (3, .invokevirtual 264, 3, 124, 2, 0), (6, .istore 4, 2, 0, 0, 0), (8, .iload_n 3, 1, 0, 0, 0), (9, .tableswitch 60 0 2 #[27, 38, 49], 27, 0, 0, 0), (36, .aload_n 0, 1, 0, 0, 0), (37, .getfield 45, 3, 8, 5, 0), (40, .getfield 267, 3, 7, 12, 0), (43, .iload 4, 2, 0, 0, 0), (45, .iaload, 1, 0, 0, 0), (46, .ireturn, 1, 0, 0, 0), (47, .aload_n 0, 1, 0, 0, 0), (48, .getfield 45, 3, 8, 5, 0), (51, .getfield 270, 3, 7, 13, 0), (54, .iload 4, 2, 0, 0, 0), (56, .iaload, 1, 0, 0, 0), (57, .ireturn, 1, 0, 0, 0), (58, .aload_n 0, 1, 0, 0, 0), (59, .getfield 45, 3, 8, 5, 0), (62, .getfield 273, 3, 7, 15, 0), (65, .iload 4, 2, 0, 0, 0), (67, .iaload, 1, 0, 0, 0), (68, .ireturn, 1, 0, 0, 0)]
def aD_X10_attribute : ax_D := (yX10_attribute, cX10_attribute, 5, (some .int), [], [], at_X10_attribute, [(69, "java/lang/IndexOutOfBoundsException", "nothing such of an attribute", 222, 276, 226, true)])
def at_X10_value : List (Nat × ax_I) := [(0, .aload_n 0, 1, 0, 0, 0), (1, .iload_n 1, 1, 0, 0, 0), (2, .iload_n 2, 1, 0, 0, 0), (3, .invokevirtual 264, 3, 124, 2, 0), (6, .istore_n 3, 1, 0, 0, 0), (7, .aload_n 0, 1, 0, 0, 0), (8, .getfield 45, 3, 8, 5, 0), (11, .getfield 270, 3, 7, 13, 0), (14, .iload_n 3, 1, 0, 0, 0), (15, .iaload, 1, 0, 0, 0), (16, .invokestatic 278, 3, 16, 1, 0), (19, .ifCond .eq 7, 3, 0, 0, 0), (22, .lconst 0, 1, 0, 0, 0), (23, .goto 12, 3, 0, 0, 0), (26, .aload_n 0, 1, 0, 0, 0), (27, .getfield 45, 3, 8, 5, 0), (30, .getfield 281, 3, 7, 14, 0), (33, .iload_n 3, 1, 0, 0, 0), (34, .laload, 1, 0, 0, 0), (35, .lreturn, 1, 0, 0, 0)]
def aD_X10_value : ax_D := (yX10_value, cX10_value, 4, (some .long), [], [], at_X10_value, [])
def at_X10_letter : List (Nat × ax_I) := [(0, .aload_n 0, 1, 0, 0, 0), (1, .iload_n 1, 1, 0, 0, 0), (2, .iload_n 2, 1, 0, 0, 0), (3, .invokevirtual 264, 3, 124, 2, 0), (6, .istore 4, 2, 0, 0, 0), (8, .iload_n 3, 1, 0, 0, 0), (9, .ifCond .lt 17, 3, 0, 0, 0), (12, .iload_n 3, 1, 0, 0, 0), (13, .aload_n 0, 1, 0, 0, 0), (14, .getfield 45, 3, 8, 5, 0), (17, .getfield 273, 3, 7, 15, 0), (20, .iload 4, 2, 0, 0, 0), (22, .iaload, 1, 0, 0, 0), (23, .if_icmp .lt 14, 3, 0, 0, 0), (37, .aload_n 0, 1, 0, 0, 0), (38, .getfield 18, 3, 8, 1, 0), (41, .aload_n 0, 1, 0, 0, 0), (42, .getfield 45, 3, 8, 5, 0), (45, .iload 4, 2, 0, 0, 0), (47, .invokevirtual 287, 3, 85, 1, 0), (50, .iload_n 3, 1, 0, 0, 0), (51, .iadd, 1, 0, 0, 0), (52, .invokevirtual 194, 3, 56, 1, 0), (55, .ireturn, 1, 0, 0, 0)]
def aD_X10_letter : ax_D := (yX10_letter, cX10_letter, 5, (some .int), [], [], at_X10_letter, [(26, "java/lang/IndexOutOfBoundsException", "no such byte of a text or block", 222, 285, 226, true)])
def at_X10_find : List (Nat × ax_I) := [(0, .iload_n 1, 1, 0, 0, 0), (1, .iconst (-1), 1, 0, 0, 0), (2, .if_icmp .eq 8, 3, 0, 0, 0), (5, .aload_n 0, 1, 0, 0, 0), (6, .iload_n 1, 1, 0, 0, 0), (7, .invokevirtual 96, 3, 117, 1, 0), (10, .iload_n 1, 1, 0, 0, 0), (11, .iconst (-1), 1, 0, 0, 0), (12, .if_icmp .ne 10, 3, 0, 0, 0), (15, .aload_n 0, 1, 0, 0, 0), (16, .invokevirtual 290, 3, 126, 0, 0), (19, .goto 8, 3, 0, 0, 0), (22, .aload_n 0, 1, 0, 0, 0), (23, .iload_n 1, 1, 0, 0, 0), (24, .invokevirtual 293, 3, 127, 1, 0), (27, .istore_n 2, 1, 0, 0, 0), (28, .aload_n 0, 1, 0, 0, 0), (29, .getfield 14, 3, 8, 0, 0), (32, .iconst 0, 1, 0, 0, 0), (33, .invokevirtual 71, 3, 58, 1, 0), (36, .iload_n 2, 1, 0, 0, 0), (37, .ireturn, 1, 0, 0, 0)]
def aD_X10_find : ax_D := (yX10_find, cX10_find, 3, (some .int), [], [], at_X10_find, [])
def at_X10_covers : List (Nat × ax_I) := [(0, .iconst (-1), 1, 0, 0, 0), (1, .istore_n 3, 1, 0, 0, 0), (2, .iconst 0, 1, 0, 0, 0), (3, .istore 4, 2, 0, 0, 0), (5, .iload 4, 2, 0, 0, 0), (7, .aload_n 0, 1, 0, 0, 0), (8, .getfield 45, 3, 8, 5, 0), (11, .getfield 81, 3, 7, 1, 0), (14, .if_icmp .ge 61, 3, 0, 0, 0), (17, .iload_n 3, 1, 0, 0, 0), (18, .iconst (-1), 1, 0, 0, 0), (19, .if_icmp .eq 25, 3, 0, 0, 0), (22, .aload_n 0, 1, 0, 0, 0), (23, .getfield 45, 3, 8, 5, 0), (26, .getfield 99, 3, 7, 6, 0), (29, .iload 4, 2, 0, 0, 0), (31, .iaload, 1, 0, 0, 0), (32, .aload_n 0, 1, 0, 0, 0), (33, .getfield 45, 3, 8, 5, 0), (36, .getfield 99, 3, 7, 6, 0), (39, .iload_n 3, 1, 0, 0, 0), (40, .iaload, 1, 0, 0, 0), (41, .if_icmp .le 7, 3, 0, 0, 0), (44, .iconst 1, 1, 0, 0, 0), (45, .goto 4, 3, 0, 0, 0), (48, .iconst 0, 1, 0, 0, 0), (49, .istore 5, 2, 0, 0, 0), (51, .iload 5, 2, 0, 0, 0), (53, .ifCond .eq 16, 3, 0, 0, 0), (56, .aload_n 0, 1, 0, 0, 0), (57, .iload 4, 2, 0, 0, 0), (59, .lload_n 1, 1, 0, 0, 0), (60, .invokevirtual 296, 3, 129, 2, 0), (63, .ifCond .eq 6, 3, 0, 0, 0), (66, .iload 4, 2, 0, 0, 0), (68, .istore_n 3, 1, 0, 0, 0), (69, .iinc 4 1, 3, 0, 0, 0), (72, .goto (-67), 3, 0, 0, 0), (75, .iload_n 3, 1, 0, 0, 0), (76, .ireturn, 1, 0, 0, 0)]
def aD_X10_covers : ax_D := (yX10_covers, cX10_covers, 6, (some .int), [], [], at_X10_covers, [])
def at_X10_needEntry : List (Nat × ax_I) := [(0, .iload_n 1, 1, 0, 0, 0), (1, .ifCond .lt 14, 3, 0, 0, 0), (4, .iload_n 1, 1, 0, 0, 0), (5, .aload_n 0, 1, 0, 0, 0), (6, .getfield 45, 3, 8, 5, 0), (9, .getfield 81, 3, 7, 1, 0), (12, .if_icmp .lt 14, 3, 0, 0, 0), (26, .return_, 1, 0, 0, 0)]
def aD_X10_needEntry : ax_D := (yX10_needEntry, cX10_needEntry, 2, none, [], [], at_X10_needEntry, [(15, "java/lang/IndexOutOfBoundsException", "no such entry", 222, 299, 226, true)])
def at_X10_needCode : List (Nat × ax_I) := [(0, .iload_n 1, 1, 0, 0, 0), (1, .invokestatic 301, 3, 131, 1, 0), (4, .ifCond .ne 14, 3, 0, 0, 0), (18, .return_, 1, 0, 0, 0)]
def aD_X10_needCode : ax_D := (yX10_needCode, cX10_needCode, 2, none, [], [], at_X10_needCode, [(7, "java/lang/IllegalArgumentException", "no tag or name", 66, 304, 70, true)])
def at_X10_needNewName : List (Nat × ax_I) := [(0, .aload_n 0, 1, 0, 0, 0), (1, .iload_n 2, 1, 0, 0, 0), (2, .invokevirtual 74, 3, 118, 1, 0), (5, .aload_n 0, 1, 0, 0, 0), (6, .getfield 45, 3, 8, 5, 0), (9, .iload_n 1, 1, 0, 0, 0), (10, .iload_n 2, 1, 0, 0, 0), (11, .invokevirtual 306, 3, 84, 2, 0), (14, .iconst (-1), 1, 0, 0, 0), (15, .if_icmp .eq 14, 3, 0, 0, 0), (29, .return_, 1, 0, 0, 0)]
def aD_X10_needNewName : ax_D := (yX10_needNewName, cX10_needNewName, 3, none, [], [], at_X10_needNewName, [(18, "java/lang/IllegalArgumentException", "the name is told", 66, 309, 70, true)])
def at_X10_needLetters : List (Nat × ax_I) := [(0, .iload_n 1, 1, 0, 0, 0), (1, .invokestatic 278, 3, 16, 1, 0), (4, .ifCond .eq 42, 3, 0, 0, 0), (7, .aload_n 0, 1, 0, 0, 0), (8, .getfield 14, 3, 8, 0, 0), (11, .invokevirtual 63, 3, 53, 0, 0), (14, .sipush 255, 3, 0, 0, 0), (17, .if_icmp .gt 29, 3, 0, 0, 0), (20, .iload_n 1, 1, 0, 0, 0), (21, .invokestatic 311, 3, 15, 1, 0), (24, .ifCond .eq 26, 3, 0, 0, 0), (27, .aload_n 0, 1, 0, 0, 0), (28, .getfield 14, 3, 8, 0, 0), (31, .iconst 0, 1, 0, 0, 0), (32, .aload_n 0, 1, 0, 0, 0), (33, .getfield 14, 3, 8, 0, 0), (36, .invokevirtual 63, 3, 53, 0, 0), (39, .invokevirtual 314, 3, 68, 2, 0), (42, .iconst (-1), 1, 0, 0, 0), (43, .if_icmp .eq 7, 3, 0, 0, 0), (46, .iconst 1, 1, 0, 0, 0), (47, .goto 4, 3, 0, 0, 0), (50, .iconst 0, 1, 0, 0, 0), (51, .istore_n 2, 1, 0, 0, 0), (52, .iload_n 2, 1, 0, 0, 0), (53, .ifCond .eq 14, 3, 0, 0, 0), (67, .return_, 1, 0, 0, 0)]
def aD_X10_needLetters : ax_D := (yX10_needLetters, cX10_needLetters, 3, none, [], [], at_X10_needLetters, [(56, "java/lang/IllegalArgumentException", "no such text or block", 66, 317, 70, true)])
def at_X10_needRoom : List (Nat × ax_I) := [(0, .aload_n 0, 1, 0, 0, 0), (1, .getfield 45, 3, 8, 5, 0), (4, .getfield 248, 3, 7, 11, 0), (7, .iload_n 1, 1, 0, 0, 0), (8, .iaload, 1, 0, 0, 0), (9, .bipush 8, 2, 0, 0, 0), (11, .if_icmp .eq 14, 3, 0, 0, 0), (14, .aload_n 0, 1, 0, 0, 0), (15, .getfield 18, 3, 8, 1, 0), (18, .invokevirtual 49, 3, 55, 0, 0), (21, .iload_n 2, 1, 0, 0, 0), (22, .if_icmp .ge 14, 3, 0, 0, 0), (36, .return_, 1, 0, 0, 0)]
def aD_X10_needRoom : ax_D := (yX10_needRoom, cX10_needRoom, 3, none, [], [], at_X10_needRoom, [(25, "java/lang/UnsupportedOperationException", "no room for an attribute", 84, 319, 88, true)])
def at_X10_needSection : List (Nat × ax_I) := [(0, .iload_n 1, 1, 0, 0, 0), (1, .ifCond .lt 8, 3, 0, 0, 0), (4, .iload_n 1, 1, 0, 0, 0), (5, .iconst 2, 1, 0, 0, 0), (6, .if_icmp .le 14, 3, 0, 0, 0), (20, .return_, 1, 0, 0, 0)]
def aD_X10_needSection : ax_D := (yX10_needSection, cX10_needSection, 2, none, [], [], at_X10_needSection, [(9, "java/lang/IndexOutOfBoundsException", "no such section", 222, 321, 226, true)])
def at_X10_needByte : List (Nat × ax_I) := [(0, .aload_n 0, 1, 0, 0, 0), (1, .iload_n 1, 1, 0, 0, 0), (2, .invokevirtual 184, 3, 122, 1, 0), (5, .iload_n 2, 1, 0, 0, 0), (6, .ifCond .lt 18, 3, 0, 0, 0), (9, .iload_n 2, 1, 0, 0, 0), (10, .aload_n 0, 1, 0, 0, 0), (11, .getfield 24, 3, 8, 2, 0), (14, .iload_n 1, 1, 0, 0, 0), (15, .invokevirtual 187, 3, 51, 1, 0), (18, .invokevirtual 63, 3, 53, 0, 0), (21, .if_icmp .lt 14, 3, 0, 0, 0), (35, .return_, 1, 0, 0, 0)]
def aD_X10_needByte : ax_D := (yX10_needByte, cX10_needByte, 3, none, [], [], at_X10_needByte, [(24, "java/lang/IndexOutOfBoundsException", "no such byte of a section", 222, 323, 226, true)])
def at_X10_neededSlot : List (Nat × ax_I) := [(0, .aload_n 0, 1, 0, 0, 0), (1, .iload_n 1, 1, 0, 0, 0), (2, .invokevirtual 96, 3, 117, 1, 0), (5, .iload_n 2, 1, 0, 0, 0), (6, .ifCond .lt 16, 3, 0, 0, 0), (9, .iload_n 2, 1, 0, 0, 0), (10, .aload_n 0, 1, 0, 0, 0), (11, .getfield 45, 3, 8, 5, 0), (14, .getfield 248, 3, 7, 11, 0), (17, .iload_n 1, 1, 0, 0, 0), (18, .iaload, 1, 0, 0, 0), (19, .if_icmp .lt 14, 3, 0, 0, 0), (33, .iload_n 1, 1, 0, 0, 0), (34, .iload_n 2, 1, 0, 0, 0), (35, .invokestatic 327, 3, 78, 2, 0), (38, .ireturn, 1, 0, 0, 0)]
def aD_X10_neededSlot : ax_D := (yX10_neededSlot, cX10_neededSlot, 3, (some .int), [], [], at_X10_neededSlot, [(22, "java/lang/IndexOutOfBoundsException", "no such attribute", 222, 325, 226, true)])
def at_X10_keepLetters : List (Nat × ax_I) := [(0, .aload_n 0, 1, 0, 0, 0), (1, .getfield 18, 3, 8, 1, 0), (4, .iconst 0, 1, 0, 0, 0), (5, .invokevirtual 71, 3, 58, 1, 0), (8, .iconst 0, 1, 0, 0, 0), (9, .istore_n 1, 1, 0, 0, 0), (10, .iload_n 1, 1, 0, 0, 0), (11, .aload_n 0, 1, 0, 0, 0), (12, .getfield 45, 3, 8, 5, 0), (15, .getfield 81, 3, 7, 1, 0), (18, .if_icmp .ge 131, 3, 0, 0, 0), (21, .iconst 0, 1, 0, 0, 0), (22, .istore_n 2, 1, 0, 0, 0), (23, .iload_n 2, 1, 0, 0, 0), (24, .aload_n 0, 1, 0, 0, 0), (25, .getfield 45, 3, 8, 5, 0), (28, .getfield 248, 3, 7, 11, 0), (31, .iload_n 1, 1, 0, 0, 0), (32, .iaload, 1, 0, 0, 0), (33, .if_icmp .ge 110, 3, 0, 0, 0), (36, .iload_n 1, 1, 0, 0, 0), (37, .iload_n 2, 1, 0, 0, 0), (38, .invokestatic 327, 3, 78, 2, 0), (41, .istore_n 3, 1, 0, 0, 0), (42, .aload_n 0, 1, 0, 0, 0), (43, .getfield 45, 3, 8, 5, 0), (46, .getfield 270, 3, 7, 13, 0), (49, .iload_n 3, 1, 0, 0, 0), (50, .iaload, 1, 0, 0, 0), (51, .invokestatic 278, 3, 16, 1, 0), (54, .ifCond .eq 83, 3, 0, 0, 0), (57, .aload_n 0, 1, 0, 0, 0), (58, .getfield 45, 3, 8, 5, 0), (61, .getfield 270, 3, 7, 13, 0), (64, .iload_n 3, 1, 0, 0, 0), (65, .iaload, 1, 0, 0, 0), (66, .bipush 14, 2, 0, 0, 0), (68, .if_icmp .ne 13, 3, 0, 0, 0), (71, .aload_n 0, 1, 0, 0, 0), (72, .getfield 24, 3, 8, 2, 0), (75, .getfield 178, 3, 4, 2, 0), (78, .goto 10, 3, 0, 0, 0), (81, .aload_n 0, 1, 0, 0, 0), (82, .getfield 24, 3, 8, 2, 0), (85, .getfield 163, 3, 4, 0, 0), (88, .astore 4, 2, 0, 0, 0), (90, .aload_n 0, 1, 0, 0, 0), (91, .getfield 18, 3, 8, 1, 0), (94, .invokevirtual 63, 3, 53, 0, 0), (97, .istore 5, 2, 0, 0, 0), (99, .aload_n 0, 1, 0, 0, 0), (100, .getfield 18, 3, 8, 1, 0), (103, .aload 4, 2, 0, 0, 0), (105, .aload_n 0, 1, 0, 0, 0), (106, .getfield 45, 3, 8, 5, 0), (109, .iload_n 3, 1, 0, 0, 0), (110, .invokevirtual 287, 3, 85, 1, 0), (113, .aload_n 0, 1, 0, 0, 0), (114, .getfield 45, 3, 8, 5, 0), (117, .getfield 273, 3, 7, 15, 0), (120, .iload_n 3, 1, 0, 0, 0), (121, .iaload, 1, 0, 0, 0), (122, .invokevirtual 135, 3, 65, 3, 0), (125, .aload_n 0, 1, 0, 0, 0), (126, .getfield 45, 3, 8, 5, 0), (129, .getfield 281, 3, 7, 14, 0), (132, .iload_n 3, 1, 0, 0, 0), (133, .iload 5, 2, 0, 0, 0), (135, .i2l, 1, 0, 0, 0), (136, .lastore, 1, 0, 0, 0), (137, .iinc 2 1, 3, 0, 0, 0), (140, .goto (-117), 3, 0, 0, 0), (143, .iinc 1 1, 3, 0, 0, 0), (146, .goto (-136), 3, 0, 0, 0), (149, .return_, 1, 0, 0, 0)]
def aD_X10_keepLetters : ax_D := (yX10_keepLetters, cX10_keepLetters, 6, none, [], [], at_X10_keepLetters, [])
def at_X10_rootNamedByTape : List (Nat × ax_I) := [(0, .iconst 0, 1, 0, 0, 0), (1, .istore_n 1, 1, 0, 0, 0), (2, .iload_n 1, 1, 0, 0, 0), (3, .aload_n 0, 1, 0, 0, 0), (4, .getfield 45, 3, 8, 5, 0), (7, .getfield 77, 3, 7, 0, 0), (10, .if_icmp .ge 35, 3, 0, 0, 0), (13, .aload_n 0, 1, 0, 0, 0), (14, .aload_n 0, 1, 0, 0, 0), (15, .getfield 45, 3, 8, 5, 0), (18, .getfield 261, 3, 7, 2, 0), (21, .iload_n 1, 1, 0, 0, 0), (22, .iaload, 1, 0, 0, 0), (23, .invokevirtual 330, 3, 128, 1, 0), (26, .ifCond .eq 13, 3, 0, 0, 0), (29, .aload_n 0, 1, 0, 0, 0), (30, .getfield 45, 3, 8, 5, 0), (33, .getfield 261, 3, 7, 2, 0), (36, .iload_n 1, 1, 0, 0, 0), (37, .iaload, 1, 0, 0, 0), (38, .ireturn, 1, 0, 0, 0), (39, .iinc 1 1, 3, 0, 0, 0), (42, .goto (-40), 3, 0, 0, 0), (45, .iconst (-1), 1, 0, 0, 0), (46, .ireturn, 1, 0, 0, 0)]
def aD_X10_rootNamedByTape : ax_D := (yX10_rootNamedByTape, cX10_rootNamedByTape, 2, (some .int), [], [], at_X10_rootNamedByTape, [])
def at_X10_childNamedByTape : List (Nat × ax_I) := [(0, .aload_n 0, 1, 0, 0, 0), (1, .getfield 45, 3, 8, 5, 0), (4, .getfield 333, 3, 7, 8, 0), (7, .iload_n 1, 1, 0, 0, 0), (8, .iaload, 1, 0, 0, 0), (9, .istore_n 2, 1, 0, 0, 0), (10, .iconst 0, 1, 0, 0, 0), (11, .istore_n 3, 1, 0, 0, 0), (12, .iload_n 3, 1, 0, 0, 0), (13, .aload_n 0, 1, 0, 0, 0), (14, .getfield 45, 3, 8, 5, 0), (17, .getfield 245, 3, 7, 7, 0), (20, .iload_n 1, 1, 0, 0, 0), (21, .iaload, 1, 0, 0, 0), (22, .if_icmp .ge 34, 3, 0, 0, 0), (25, .iload_n 2, 1, 0, 0, 0), (26, .iconst (-1), 1, 0, 0, 0), (27, .if_icmp .eq 29, 3, 0, 0, 0), (30, .aload_n 0, 1, 0, 0, 0), (31, .iload_n 2, 1, 0, 0, 0), (32, .invokevirtual 330, 3, 128, 1, 0), (35, .ifCond .eq 5, 3, 0, 0, 0), (38, .iload_n 2, 1, 0, 0, 0), (39, .ireturn, 1, 0, 0, 0), (40, .aload_n 0, 1, 0, 0, 0), (41, .getfield 45, 3, 8, 5, 0), (44, .getfield 336, 3, 7, 10, 0), (47, .iload_n 2, 1, 0, 0, 0), (48, .iaload, 1, 0, 0, 0), (49, .istore_n 2, 1, 0, 0, 0), (50, .iinc 3 1, 3, 0, 0, 0), (53, .goto (-41), 3, 0, 0, 0), (56, .iconst (-1), 1, 0, 0, 0), (57, .ireturn, 1, 0, 0, 0)]
def aD_X10_childNamedByTape : ax_D := (yX10_childNamedByTape, cX10_childNamedByTape, 4, (some .int), [], [], at_X10_childNamedByTape, [])
def at_X10_isNamedByTape : List (Nat × ax_I) := [(0, .aload_n 0, 1, 0, 0, 0), (1, .getfield 45, 3, 8, 5, 0), (4, .iload_n 1, 1, 0, 0, 0), (5, .iconst 3, 1, 0, 0, 0), (6, .invokevirtual 306, 3, 84, 2, 0), (9, .istore_n 2, 1, 0, 0, 0), (10, .iload_n 2, 1, 0, 0, 0), (11, .iconst (-1), 1, 0, 0, 0), (12, .if_icmp .eq 71, 3, 0, 0, 0), (15, .aload_n 0, 1, 0, 0, 0), (16, .getfield 45, 3, 8, 5, 0), (19, .getfield 270, 3, 7, 13, 0), (22, .iload_n 2, 1, 0, 0, 0), (23, .iaload, 1, 0, 0, 0), (24, .invokestatic 311, 3, 15, 1, 0), (27, .ifCond .eq 56, 3, 0, 0, 0), (30, .aload_n 0, 1, 0, 0, 0), (31, .getfield 45, 3, 8, 5, 0), (34, .getfield 273, 3, 7, 15, 0), (37, .iload_n 2, 1, 0, 0, 0), (38, .iaload, 1, 0, 0, 0), (39, .aload_n 0, 1, 0, 0, 0), (40, .getfield 14, 3, 8, 0, 0), (43, .invokevirtual 63, 3, 53, 0, 0), (46, .if_icmp .ne 37, 3, 0, 0, 0), (49, .aload_n 0, 1, 0, 0, 0), (50, .getfield 18, 3, 8, 1, 0), (53, .aload_n 0, 1, 0, 0, 0), (54, .getfield 45, 3, 8, 5, 0), (57, .iload_n 2, 1, 0, 0, 0), (58, .invokevirtual 287, 3, 85, 1, 0), (61, .aload_n 0, 1, 0, 0, 0), (62, .getfield 14, 3, 8, 0, 0), (65, .iconst 0, 1, 0, 0, 0), (66, .aload_n 0, 1, 0, 0, 0), (67, .getfield 14, 3, 8, 0, 0), (70, .invokevirtual 63, 3, 53, 0, 0), (73, .invokevirtual 339, 3, 66, 4, 0), (76, .ifCond .eq 7, 3, 0, 0, 0), (79, .iconst 1, 1, 0, 0, 0), (80, .goto 4, 3, 0, 0, 0), (83, .iconst 0, 1, 0, 0, 0), (84, .ireturn, 1, 0, 0, 0)]
def aD_X10_isNamedByTape : ax_D := (yX10_isNamedByTape, cX10_isNamedByTape, 3, (some .boolean), [], [], at_X10_isNamedByTape, [])
def at_X10_coversAddress : List (Nat × ax_I) := [(0, .aload_n 0, 1, 0, 0, 0), (1, .getfield 45, 3, 8, 5, 0), (4, .iload_n 1, 1, 0, 0, 0), (5, .bipush 17, 2, 0, 0, 0), (7, .invokevirtual 306, 3, 84, 2, 0), (10, .istore 4, 2, 0, 0, 0), (12, .aload_n 0, 1, 0, 0, 0), (13, .getfield 45, 3, 8, 5, 0), (16, .iload_n 1, 1, 0, 0, 0), (17, .bipush 18, 2, 0, 0, 0), (19, .invokevirtual 306, 3, 84, 2, 0), (22, .istore 5, 2, 0, 0, 0), (24, .iload 4, 2, 0, 0, 0), (26, .iconst (-1), 1, 0, 0, 0), (27, .if_icmp .eq 79, 3, 0, 0, 0), (30, .iload 5, 2, 0, 0, 0), (32, .iconst (-1), 1, 0, 0, 0), (33, .if_icmp .eq 73, 3, 0, 0, 0), (36, .aload_n 0, 1, 0, 0, 0), (37, .getfield 45, 3, 8, 5, 0), (40, .getfield 270, 3, 7, 13, 0), (43, .iload 4, 2, 0, 0, 0), (45, .iaload, 1, 0, 0, 0), (46, .invokestatic 113, 3, 18, 1, 0), (49, .ifCond .eq 57, 3, 0, 0, 0), (52, .aload_n 0, 1, 0, 0, 0), (53, .getfield 45, 3, 8, 5, 0), (56, .getfield 270, 3, 7, 13, 0), (59, .iload 5, 2, 0, 0, 0), (61, .iaload, 1, 0, 0, 0), (62, .invokestatic 113, 3, 18, 1, 0), (65, .ifCond .eq 41, 3, 0, 0, 0), (68, .lload_n 2, 1, 0, 0, 0), (69, .aload_n 0, 1, 0, 0, 0), (70, .getfield 45, 3, 8, 5, 0), (73, .getfield 281, 3, 7, 14, 0), (76, .iload 4, 2, 0, 0, 0), (78, .laload, 1, 0, 0, 0), (79, .invokestatic 343, 3, 130, 2, 0), (82, .ifCond .ne 24, 3, 0, 0, 0), (85, .lload_n 2, 1, 0, 0, 0), (86, .aload_n 0, 1, 0, 0, 0), (87, .getfield 45, 3, 8, 5, 0), (90, .getfield 281, 3, 7, 14, 0), (93, .iload 5, 2, 0, 0, 0), (95, .laload, 1, 0, 0, 0), (96, .invokestatic 343, 3, 130, 2, 0), (99, .ifCond .eq 7, 3, 0, 0, 0), (102, .iconst 1, 1, 0, 0, 0), (103, .goto 4, 3, 0, 0, 0), (106, .iconst 0, 1, 0, 0, 0), (107, .ireturn, 1, 0, 0, 0)]
def aD_X10_coversAddress : ax_D := (yX10_coversAddress, cX10_coversAddress, 6, (some .boolean), [], [], at_X10_coversAddress, [])
def at_X10_isBelow : List (Nat × ax_I) := [(0, .lload_n 0, 1, 0, 0, 0), (1, .ldc2_w 347, 3, 0, 0, (-9223372036854775808)), (4, .lxor, 1, 0, 0, 0), (5, .lload_n 2, 1, 0, 0, 0), (6, .ldc2_w 347, 3, 0, 0, (-9223372036854775808)), (9, .lxor, 1, 0, 0, 0), (10, .lcmp, 1, 0, 0, 0), (11, .ifCond .ge 7, 3, 0, 0, 0), (14, .iconst 1, 1, 0, 0, 0), (15, .goto 4, 3, 0, 0, 0), (18, .iconst 0, 1, 0, 0, 0), (19, .ireturn, 1, 0, 0, 0)]
def aD_X10_isBelow : ax_D := (yX10_isBelow, cX10_isBelow, 4, (some .boolean), [], [], at_X10_isBelow, [])
def at_X10_isCode : List (Nat × ax_I) := [(0, .iload_n 0, 1, 0, 0, 0), (1, .iconst 1, 1, 0, 0, 0), (2, .if_icmp .lt 14, 3, 0, 0, 0), (5, .iload_n 0, 1, 0, 0, 0), (6, .sipush 16383, 3, 0, 0, 0), (9, .if_icmp .gt 7, 3, 0, 0, 0), (12, .iconst 1, 1, 0, 0, 0), (13, .goto 4, 3, 0, 0, 0), (16, .iconst 0, 1, 0, 0, 0), (17, .ireturn, 1, 0, 0, 0)]
def aD_X10_isCode : ax_D := (yX10_isCode, cX10_isCode, 1, (some .boolean), [], [], at_X10_isCode, [])
def at_X11_init : List (Nat × ax_I) := [(0, .aload_n 0, 1, 0, 0, 0), (1, .invokespecial 1, 3, 901, 0, 0), (4, .aload_n 0, 1, 0, 0, 0), (5, .sipush 12000, 3, 0, 0, 0), (8, .newarray .byte, 2, 0, 0, 0), (10, .putfield 7, 3, 9, 1, 0), (13, .aload_n 0, 1, 0, 0, 0), (14, .iconst 2, 1, 0, 0, 0), (15, .newarray .int, 2, 0, 0, 0), (17, .putfield 13, 3, 9, 4, 0), (20, .aload_n 0, 1, 0, 0, 0), (21, .iconst 2, 1, 0, 0, 0), (22, .newarray .int, 2, 0, 0, 0), (24, .putfield 17, 3, 9, 5, 0), (27, .aload_n 0, 1, 0, 0, 0), (28, .bipush 12, 2, 0, 0, 0), (30, .newarray .int, 2, 0, 0, 0), (32, .putfield 20, 3, 9, 6, 0), (35, .aload_n 0, 1, 0, 0, 0), (36, .sipush 800, 3, 0, 0, 0), (39, .newarray .int, 2, 0, 0, 0), (41, .putfield 23, 3, 9, 7, 0), (44, .aload_n 0, 1, 0, 0, 0), (45, .sipush 800, 3, 0, 0, 0), (48, .newarray .int, 2, 0, 0, 0), (50, .putfield 26, 3, 9, 8, 0), (53, .aload_n 0, 1, 0, 0, 0), (54, .sipush 800, 3, 0, 0, 0), (57, .newarray .int, 2, 0, 0, 0), (59, .putfield 29, 3, 9, 9, 0), (62, .aload_n 0, 1, 0, 0, 0), (63, .sipush 800, 3, 0, 0, 0), (66, .newarray .int, 2, 0, 0, 0), (68, .putfield 32, 3, 9, 10, 0), (71, .aload_n 0, 1, 0, 0, 0), (72, .sipush 6400, 3, 0, 0, 0), (75, .newarray .int, 2, 0, 0, 0), (77, .putfield 35, 3, 9, 11, 0), (80, .aload_n 0, 1, 0, 0, 0), (81, .sipush 6400, 3, 0, 0, 0), (84, .newarray .int, 2, 0, 0, 0), (86, .putfield 38, 3, 9, 12, 0), (89, .aload_n 0, 1, 0, 0, 0), (90, .sipush 6400, 3, 0, 0, 0), (93, .newarray .long, 2, 0, 0, 0), (95, .putfield 41, 3, 9, 13, 0), (98, .aload_n 0, 1, 0, 0, 0), (99, .sipush 6400, 3, 0, 0, 0), (102, .newarray .int, 2, 0, 0, 0), (104, .putfield 45, 3, 9, 14, 0), (107, .aload_n 0, 1, 0, 0, 0), (108, .sipush 6400, 3, 0, 0, 0), (111, .newarray .int, 2, 0, 0, 0), (113, .putfield 48, 3, 9, 15, 0), (116, .aload_n 0, 1, 0, 0, 0), (117, .iconst 2, 1, 0, 0, 0), (118, .newarray .int, 2, 0, 0, 0), (120, .putfield 51, 3, 9, 16, 0), (123, .aload_n 0, 1, 0, 0, 0), (124, .iconst 2, 1, 0, 0, 0), (125, .newarray .int, 2, 0, 0, 0), (127, .putfield 54, 3, 9, 17, 0), (130, .aload_n 0, 1, 0, 0, 0), (131, .ldc 57, 2, 0, 0, 180000), (133, .newarray .byte, 2, 0, 0, 0), (135, .putfield 58, 3, 9, 18, 0), (138, .aload_n 0, 1, 0, 0, 0), (139, .ldc 61, 2, 0, 0, 40000), (141, .newarray .byte, 2, 0, 0, 0), (143, .putfield 62, 3, 9, 19, 0), (146, .aload_n 0, 1, 0, 0, 0), (147, .iconst 3, 1, 0, 0, 0), (148, .newarray .int, 2, 0, 0, 0), (150, .putfield 65, 3, 9, 20, 0), (153, .aload_n 0, 1, 0, 0, 0), (154, .sipush 400, 3, 0, 0, 0), (157, .newarray .int, 2, 0, 0, 0), (159, .putfield 68, 3, 9, 24, 0), (162, .aload_n 0, 1, 0, 0, 0), (163, .sipush 400, 3, 0, 0, 0), (166, .newarray .int, 2, 0, 0, 0), (168, .putfield 71, 3, 9, 25, 0), (171, .aload_n 0, 1, 0, 0, 0), (172, .sipush 400, 3, 0, 0, 0), (175, .newarray .int, 2, 0, 0, 0), (177, .putfield 74, 3, 9, 27, 0), (180, .aload_n 0, 1, 0, 0, 0), (181, .sipush 400, 3, 0, 0, 0), (184, .newarray .int, 2, 0, 0, 0), (186, .putfield 77, 3, 9, 28, 0), (189, .aload_n 0, 1, 0, 0, 0), (190, .sipush 3200, 3, 0, 0, 0), (193, .newarray .int, 2, 0, 0, 0), (195, .putfield 80, 3, 9, 30, 0), (198, .aload_n 0, 1, 0, 0, 0), (199, .sipush 3200, 3, 0, 0, 0), (202, .newarray .int, 2, 0, 0, 0), (204, .putfield 83, 3, 9, 31, 0), (207, .aload_n 0, 1, 0, 0, 0), (208, .sipush 400, 3, 0, 0, 0), (211, .newarray .int, 2, 0, 0, 0), (213, .putfield 86, 3, 9, 33, 0), (216, .aload_n 0, 1, 0, 0, 0), (217, .sipush 3200, 3, 0, 0, 0), (220, .newarray .int, 2, 0, 0, 0), (222, .putfield 89, 3, 9, 34, 0), (225, .aload_n 0, 1, 0, 0, 0), (226, .bipush 6, 2, 0, 0, 0), (228, .newarray .int, 2, 0, 0, 0), (230, .putfield 92, 3, 9, 35, 0), (233, .aload_n 0, 1, 0, 0, 0), (234, .sipush 200, 3, 0, 0, 0), (237, .newarray .int, 2, 0, 0, 0), (239, .putfield 95, 3, 9, 44, 0), (242, .aload_n 0, 1, 0, 0, 0), (243, .sipush 200, 3, 0, 0, 0), (246, .newarray .int, 2, 0, 0, 0), (248, .putfield 98, 3, 9, 45, 0), (251, .aload_n 0, 1, 0, 0, 0), (252, .sipush 200, 3, 0, 0, 0), (255, .newarray .boolean, 2, 0, 0, 0), (257, .putfield 101, 3, 9, 46, 0), (260, .aload_n 0, 1, 0, 0, 0), (261, .sipush 200, 3, 0, 0, 0), (264, .newarray .int, 2, 0, 0, 0), (266, .putfield 105, 3, 9, 47, 0), (269, .aload_n 0, 1, 0, 0, 0), (270, .sipush 1600, 3, 0, 0, 0), (273, .newarray .int, 2, 0, 0, 0), (275, .putfield 108, 3, 9, 48, 0), (278, .aload_n 0, 1, 0, 0, 0), (279, .sipush 1600, 3, 0, 0, 0), (282, .newarray .int, 2, 0, 0, 0), (284, .putfield 111, 3, 9, 49, 0), (287, .aload_n 0, 1, 0, 0, 0), (288, .sipush 400, 3, 0, 0, 0), (291, .newarray .int, 2, 0, 0, 0), (293, .putfield 114, 3, 9, 50, 0), (296, .aload_n 0, 1, 0, 0, 0), (297, .sipush 3200, 3, 0, 0, 0), (300, .newarray .int, 2, 0, 0, 0), (302, .putfield 117, 3, 9, 51, 0), (305, .return_, 1, 0, 0, 0)]
def aD_X11_init : ax_D := (yX11_init, cX11_init, 1, none, [], [], at_X11_init, [])
def at_X11_thrown : List (Nat × ax_I) := [(0, .aload_n 0, 1, 0, 0, 0), (1, .getfield 120, 3, 9, 0, 0), (4, .ireturn, 1, 0, 0, 0)]
def aD_X11_thrown : ax_D := (yX11_thrown, cX11_thrown, 1, (some .int), [], [], at_X11_thrown, [])
def at_X11_in : List (Nat × ax_I) := [(0, .lload_n 0, 1, 0, 0, 0), (1, .lload_n 2, 1, 0, 0, 0), (2, .lcmp, 1, 0, 0, 0), (3, .ifCond .lt 14, 3, 0, 0, 0), (6, .lload_n 0, 1, 0, 0, 0), (7, .lload 4, 2, 0, 0, 0), (9, .lcmp, 1, 0, 0, 0), (10, .ifCond .gt 7, 3, 0, 0, 0), (13, .iconst 1, 1, 0, 0, 0), (14, .goto 4, 3, 0, 0, 0), (17, .iconst 0, 1, 0, 0, 0), (18, .ireturn, 1, 0, 0, 0)]
def aD_X11_in : ax_D := (yX11_in, cX11_in, 6, (some .boolean), [], [], at_X11_in, [])
def at_X11_goes : List (Nat × ax_I) := [(0, .aload_n 0, 1, 0, 0, 0), (1, .iload_n 1, 1, 0, 0, 0), (2, .ifCond .eq 7, 3, 0, 0, 0), (5, .iconst 0, 1, 0, 0, 0), (6, .goto 4, 3, 0, 0, 0), (9, .iconst 1, 1, 0, 0, 0), (10, .putfield 120, 3, 9, 0, 0), (13, .iload_n 1, 1, 0, 0, 0), (14, .ireturn, 1, 0, 0, 0)]
def aD_X11_goes : ax_D := (yX11_goes, cX11_goes, 2, (some .boolean), [], [], at_X11_goes, [])
def at_X11_from : List (Nat × ax_I) := [(0, .iload_n 0, 1, 0, 0, 0), (1, .ifCond .ne 7, 3, 0, 0, 0), (4, .iconst 0, 1, 0, 0, 0), (5, .goto 17, 3, 0, 0, 0), (8, .iload_n 0, 1, 0, 0, 0), (9, .iconst 1, 1, 0, 0, 0), (10, .if_icmp .ne 9, 3, 0, 0, 0), (13, .sipush 24000, 3, 0, 0, 0), (16, .goto 6, 3, 0, 0, 0), (19, .sipush 32000, 3, 0, 0, 0), (22, .ireturn, 1, 0, 0, 0)]
def aD_X11_from : ax_D := (yX11_from, cX11_from, 1, (some .int), [], [], at_X11_from, [])
def at_X11_most : List (Nat × ax_I) := [(0, .iload_n 0, 1, 0, 0, 0), (1, .ifCond .ne 9, 3, 0, 0, 0), (4, .sipush 24000, 3, 0, 0, 0), (7, .goto 6, 3, 0, 0, 0), (10, .sipush 8000, 3, 0, 0, 0), (13, .ireturn, 1, 0, 0, 0)]
def aD_X11_most : ax_D := (yX11_most, cX11_most, 1, (some .int), [], [], at_X11_most, [])
def at_X11_feed : List (Nat × ax_I) := [(0, .aload_n 0, 1, 0, 0, 0), (1, .aload_n 0, 1, 0, 0, 0), (2, .getfield 124, 3, 9, 2, 0), (5, .bipush 20, 2, 0, 0, 0), (7, .iadd, 1, 0, 0, 0), (8, .sipush 12000, 3, 0, 0, 0), (11, .if_icmp .gt 7, 3, 0, 0, 0), (14, .iconst 1, 1, 0, 0, 0), (15, .goto 4, 3, 0, 0, 0), (18, .iconst 0, 1, 0, 0, 0), (19, .invokevirtual 127, 3, 135, 1, 0), (22, .ifCond .ne 5, 3, 0, 0, 0), (25, .iconst 0, 1, 0, 0, 0), (26, .ireturn, 1, 0, 0, 0), (27, .iconst 0, 1, 0, 0, 0), (28, .istore 6, 2, 0, 0, 0), (30, .iload 6, 2, 0, 0, 0), (32, .bipush 20, 2, 0, 0, 0), (34, .if_icmp .ge 90, 3, 0, 0, 0), (37, .iload 6, 2, 0, 0, 0), (39, .iconst 4, 1, 0, 0, 0), (40, .if_icmp .ge 7, 3, 0, 0, 0), (43, .iload_n 1, 1, 0, 0, 0), (44, .goto 39, 3, 0, 0, 0), (47, .iload 6, 2, 0, 0, 0), (49, .bipush 8, 2, 0, 0, 0), (51, .if_icmp .ge 7, 3, 0, 0, 0), (54, .iload_n 2, 1, 0, 0, 0), (55, .goto 28, 3, 0, 0, 0), (58, .iload 6, 2, 0, 0, 0), (60, .bipush 12, 2, 0, 0, 0), (62, .if_icmp .ge 7, 3, 0, 0, 0), (65, .iload_n 3, 1, 0, 0, 0), (66, .goto 17, 3, 0, 0, 0), (69, .iload 6, 2, 0, 0, 0), (71, .bipush 16, 2, 0, 0, 0), (73, .if_icmp .ge 8, 3, 0, 0, 0), (76, .iload 4, 2, 0, 0, 0), (78, .goto 5, 3, 0, 0, 0), (81, .iload 5, 2, 0, 0, 0), (83, .istore 7, 2, 0, 0, 0), (85, .aload_n 0, 1, 0, 0, 0), (86, .getfield 7, 3, 9, 1, 0), (89, .aload_n 0, 1, 0, 0, 0), (90, .getfield 124, 3, 9, 2, 0), (93, .iload 7, 2, 0, 0, 0), (95, .bipush 24, 2, 0, 0, 0), (97, .bipush 8, 2, 0, 0, 0), (99, .iload 6, 2, 0, 0, 0), (101, .iconst 4, 1, 0, 0, 0), (102, .irem, 1, 0, 0, 0), (103, .imul, 1, 0, 0, 0), (104, .isub, 1, 0, 0, 0), (105, .ishr, 1, 0, 0, 0), (106, .i2b, 1, 0, 0, 0), (107, .bastore, 1, 0, 0, 0), (108, .aload_n 0, 1, 0, 0, 0), (109, .dup, 1, 0, 0, 0), (110, .getfield 124, 3, 9, 2, 0), (113, .iconst 1, 1, 0, 0, 0), (114, .iadd, 1, 0, 0, 0), (115, .putfield 124, 3, 9, 2, 0), (118, .iinc 6 1, 3, 0, 0, 0), (121, .goto (-91), 3, 0, 0, 0), (124, .aload_n 0, 1, 0, 0, 0), (125, .getfield 124, 3, 9, 2, 0), (128, .ireturn, 1, 0, 0, 0)]
def aD_X11_feed : ax_D := (yX11_feed, cX11_feed, 8, (some .int), [], [], at_X11_feed, [])
def at_X11_end : List (Nat × ax_I) := [(0, .aload_n 0, 1, 0, 0, 0), (1, .aload_n 0, 1, 0, 0, 0), (2, .iload_n 1, 1, 0, 0, 0), (3, .i2l, 1, 0, 0, 0), (4, .lconst 0, 1, 0, 0, 0), (5, .aload_n 0, 1, 0, 0, 0), (6, .getfield 124, 3, 9, 2, 0), (9, .i2l, 1, 0, 0, 0), (10, .invokestatic 131, 3, 134, 3, 0), (13, .invokevirtual 127, 3, 135, 1, 0), (16, .ifCond .eq 7, 3, 0, 0, 0), (19, .iload_n 1, 1, 0, 0, 0), (20, .goto 7, 3, 0, 0, 0), (23, .aload_n 0, 1, 0, 0, 0), (24, .getfield 124, 3, 9, 2, 0), (27, .putfield 124, 3, 9, 2, 0), (30, .return_, 1, 0, 0, 0)]
def aD_X11_end : ax_D := (yX11_end, cX11_end, 2, none, [], [], at_X11_end, [])
def at_X11_isName : List (Nat × ax_I) := [(0, .iload_n 0, 1, 0, 0, 0), (1, .i2l, 1, 0, 0, 0), (2, .lconst 1, 1, 0, 0, 0), (3, .ldc2_w 135, 3, 0, 0, 16383), (6, .invokestatic 131, 3, 134, 3, 0), (9, .ireturn, 1, 0, 0, 0)]
def aD_X11_isName : ax_D := (yX11_isName, cX11_isName, 1, (some .boolean), [], [], at_X11_isName, [])
def at_X11_at : List (Nat × ax_I) := [(0, .sipush 400, 3, 0, 0, 0), (3, .aload_n 0, 1, 0, 0, 0), (4, .getfield 137, 3, 9, 3, 0), (7, .imul, 1, 0, 0, 0), (8, .iload_n 1, 1, 0, 0, 0), (9, .iadd, 1, 0, 0, 0), (10, .ireturn, 1, 0, 0, 0)]
def aD_X11_at : ax_D := (yX11_at, cX11_at, 2, (some .int), [], [], at_X11_at, [])
def at_X11_isEntry : List (Nat × ax_I) := [(0, .iload_n 1, 1, 0, 0, 0), (1, .i2l, 1, 0, 0, 0), (2, .lconst 0, 1, 0, 0, 0), (3, .aload_n 0, 1, 0, 0, 0), (4, .getfield 13, 3, 9, 4, 0), (7, .aload_n 0, 1, 0, 0, 0), (8, .getfield 137, 3, 9, 3, 0), (11, .iaload, 1, 0, 0, 0), (12, .iconst 1, 1, 0, 0, 0), (13, .isub, 1, 0, 0, 0), (14, .i2l, 1, 0, 0, 0), (15, .invokestatic 131, 3, 134, 3, 0), (18, .ireturn, 1, 0, 0, 0)]
def aD_X11_isEntry : ax_D := (yX11_isEntry, cX11_isEntry, 2, (some .boolean), [], [], at_X11_isEntry, [])
def at_X11_make : List (Nat × ax_I) := [(0, .aload_n 0, 1, 0, 0, 0), (1, .getfield 13, 3, 9, 4, 0), (4, .aload_n 0, 1, 0, 0, 0), (5, .getfield 137, 3, 9, 3, 0), (8, .iaload, 1, 0, 0, 0), (9, .istore 4, 2, 0, 0, 0), (11, .aload_n 0, 1, 0, 0, 0), (12, .getfield 13, 3, 9, 4, 0), (15, .aload_n 0, 1, 0, 0, 0), (16, .getfield 137, 3, 9, 3, 0), (19, .dup2, 1, 0, 0, 0), (20, .iaload, 1, 0, 0, 0), (21, .iconst 1, 1, 0, 0, 0), (22, .iadd, 1, 0, 0, 0), (23, .iastore, 1, 0, 0, 0), (24, .aload_n 0, 1, 0, 0, 0), (25, .iload 4, 2, 0, 0, 0), (27, .invokevirtual 140, 3, 141, 1, 0), (30, .istore 5, 2, 0, 0, 0), (32, .aload_n 0, 1, 0, 0, 0), (33, .getfield 23, 3, 9, 7, 0), (36, .iload 5, 2, 0, 0, 0), (38, .iload_n 1, 1, 0, 0, 0), (39, .iastore, 1, 0, 0, 0), (40, .aload_n 0, 1, 0, 0, 0), (41, .getfield 26, 3, 9, 8, 0), (44, .iload 5, 2, 0, 0, 0), (46, .iload_n 2, 1, 0, 0, 0), (47, .iastore, 1, 0, 0, 0), (48, .aload_n 0, 1, 0, 0, 0), (49, .getfield 29, 3, 9, 9, 0), (52, .iload 5, 2, 0, 0, 0), (54, .iload_n 3, 1, 0, 0, 0), (55, .iastore, 1, 0, 0, 0), (56, .aload_n 0, 1, 0, 0, 0), (57, .getfield 32, 3, 9, 10, 0), (60, .iload 5, 2, 0, 0, 0), (62, .iconst 0, 1, 0, 0, 0), (63, .iastore, 1, 0, 0, 0), (64, .iload 4, 2, 0, 0, 0), (66, .ireturn, 1, 0, 0, 0)]
def aD_X11_make : ax_D := (yX11_make, cX11_make, 6, (some .int), [], [], at_X11_make, [])
def at_X11_unit : List (Nat × ax_I) := [(0, .aload_n 0, 1, 0, 0, 0), (1, .iload_n 1, 1, 0, 0, 0), (2, .invokestatic 144, 3, 140, 1, 0), (5, .ifCond .ne 7, 3, 0, 0, 0), (8, .iconst 1, 1, 0, 0, 0), (9, .goto 37, 3, 0, 0, 0), (12, .aload_n 0, 1, 0, 0, 0), (13, .getfield 17, 3, 9, 5, 0), (16, .aload_n 0, 1, 0, 0, 0), (17, .getfield 137, 3, 9, 3, 0), (20, .iaload, 1, 0, 0, 0), (21, .bipush 6, 2, 0, 0, 0), (23, .if_icmp .eq 18, 3, 0, 0, 0), (26, .aload_n 0, 1, 0, 0, 0), (27, .getfield 13, 3, 9, 4, 0), (30, .aload_n 0, 1, 0, 0, 0), (31, .getfield 137, 3, 9, 3, 0), (34, .iaload, 1, 0, 0, 0), (35, .sipush 400, 3, 0, 0, 0), (38, .if_icmp .ne 7, 3, 0, 0, 0), (41, .iconst 2, 1, 0, 0, 0), (42, .goto 4, 3, 0, 0, 0), (45, .iconst 0, 1, 0, 0, 0), (46, .putfield 120, 3, 9, 0, 0), (49, .aload_n 0, 1, 0, 0, 0), (50, .getfield 120, 3, 9, 0, 0), (53, .ifCond .le 5, 3, 0, 0, 0), (56, .iconst 0, 1, 0, 0, 0), (57, .ireturn, 1, 0, 0, 0), (58, .aload_n 0, 1, 0, 0, 0), (59, .iload_n 1, 1, 0, 0, 0), (60, .iconst (-1), 1, 0, 0, 0), (61, .aload_n 0, 1, 0, 0, 0), (62, .getfield 17, 3, 9, 5, 0), (65, .aload_n 0, 1, 0, 0, 0), (66, .getfield 137, 3, 9, 3, 0), (69, .iaload, 1, 0, 0, 0), (70, .invokevirtual 148, 3, 143, 3, 0), (73, .istore_n 2, 1, 0, 0, 0), (74, .aload_n 0, 1, 0, 0, 0), (75, .getfield 20, 3, 9, 6, 0), (78, .bipush 6, 2, 0, 0, 0), (80, .aload_n 0, 1, 0, 0, 0), (81, .getfield 137, 3, 9, 3, 0), (84, .imul, 1, 0, 0, 0), (85, .aload_n 0, 1, 0, 0, 0), (86, .getfield 17, 3, 9, 5, 0), (89, .aload_n 0, 1, 0, 0, 0), (90, .getfield 137, 3, 9, 3, 0), (93, .iaload, 1, 0, 0, 0), (94, .iadd, 1, 0, 0, 0), (95, .iload_n 2, 1, 0, 0, 0), (96, .iastore, 1, 0, 0, 0), (97, .aload_n 0, 1, 0, 0, 0), (98, .getfield 17, 3, 9, 5, 0), (101, .aload_n 0, 1, 0, 0, 0), (102, .getfield 137, 3, 9, 3, 0), (105, .dup2, 1, 0, 0, 0), (106, .iaload, 1, 0, 0, 0), (107, .iconst 1, 1, 0, 0, 0), (108, .iadd, 1, 0, 0, 0), (109, .iastore, 1, 0, 0, 0), (110, .iload_n 2, 1, 0, 0, 0), (111, .ireturn, 1, 0, 0, 0)]
def aD_X11_unit : ax_D := (yX11_unit, cX11_unit, 3, (some .int), [], [], at_X11_unit, [])
def at_X11_depth : List (Nat × ax_I) := [(0, .iconst 0, 1, 0, 0, 0), (1, .istore_n 2, 1, 0, 0, 0), (2, .aload_n 0, 1, 0, 0, 0), (3, .getfield 26, 3, 9, 8, 0), (6, .aload_n 0, 1, 0, 0, 0), (7, .iload_n 1, 1, 0, 0, 0), (8, .invokevirtual 140, 3, 141, 1, 0), (11, .iaload, 1, 0, 0, 0), (12, .istore_n 3, 1, 0, 0, 0), (13, .iload_n 3, 1, 0, 0, 0), (14, .iconst (-1), 1, 0, 0, 0), (15, .if_icmp .eq 20, 3, 0, 0, 0), (18, .iinc 2 1, 3, 0, 0, 0), (21, .aload_n 0, 1, 0, 0, 0), (22, .getfield 26, 3, 9, 8, 0), (25, .aload_n 0, 1, 0, 0, 0), (26, .iload_n 3, 1, 0, 0, 0), (27, .invokevirtual 140, 3, 141, 1, 0), (30, .iaload, 1, 0, 0, 0), (31, .istore_n 3, 1, 0, 0, 0), (32, .goto (-19), 3, 0, 0, 0), (35, .iload_n 2, 1, 0, 0, 0), (36, .ireturn, 1, 0, 0, 0)]
def aD_X11_depth : ax_D := (yX11_depth, cX11_depth, 4, (some .int), [], [], at_X11_depth, [])
def at_X11_entry : List (Nat × ax_I) := [(0, .aload_n 0, 1, 0, 0, 0), (1, .aload_n 0, 1, 0, 0, 0), (2, .iload_n 1, 1, 0, 0, 0), (3, .invokevirtual 152, 3, 142, 1, 0), (6, .ifCond .ne 7, 3, 0, 0, 0), (9, .iconst 1, 1, 0, 0, 0), (10, .goto 44, 3, 0, 0, 0), (13, .iload_n 2, 1, 0, 0, 0), (14, .invokestatic 144, 3, 140, 1, 0), (17, .ifCond .ne 7, 3, 0, 0, 0), (20, .iconst 2, 1, 0, 0, 0), (21, .goto 33, 3, 0, 0, 0), (24, .aload_n 0, 1, 0, 0, 0), (25, .getfield 13, 3, 9, 4, 0), (28, .aload_n 0, 1, 0, 0, 0), (29, .getfield 137, 3, 9, 3, 0), (32, .iaload, 1, 0, 0, 0), (33, .sipush 400, 3, 0, 0, 0), (36, .if_icmp .eq 13, 3, 0, 0, 0), (39, .aload_n 0, 1, 0, 0, 0), (40, .iload_n 1, 1, 0, 0, 0), (41, .invokevirtual 155, 3, 145, 1, 0), (44, .bipush 30, 2, 0, 0, 0), (46, .if_icmp .ne 7, 3, 0, 0, 0), (49, .iconst 3, 1, 0, 0, 0), (50, .goto 4, 3, 0, 0, 0), (53, .iconst 0, 1, 0, 0, 0), (54, .putfield 120, 3, 9, 0, 0), (57, .aload_n 0, 1, 0, 0, 0), (58, .getfield 120, 3, 9, 0, 0), (61, .ifCond .le 5, 3, 0, 0, 0), (64, .iconst 0, 1, 0, 0, 0), (65, .ireturn, 1, 0, 0, 0), (66, .aload_n 0, 1, 0, 0, 0), (67, .iload_n 2, 1, 0, 0, 0), (68, .iload_n 1, 1, 0, 0, 0), (69, .aload_n 0, 1, 0, 0, 0), (70, .getfield 29, 3, 9, 9, 0), (73, .aload_n 0, 1, 0, 0, 0), (74, .iload_n 1, 1, 0, 0, 0), (75, .invokevirtual 140, 3, 141, 1, 0), (78, .iaload, 1, 0, 0, 0), (79, .invokevirtual 148, 3, 143, 3, 0), (82, .ireturn, 1, 0, 0, 0)]
def aD_X11_entry : ax_D := (yX11_entry, cX11_entry, 3, (some .int), [], [], at_X11_entry, [])
def at_X11_isNumber : List (Nat × ax_I) := [(0, .iload_n 0, 1, 0, 0, 0), (1, .iconst 5, 1, 0, 0, 0), (2, .if_icmp .eq 45, 3, 0, 0, 0), (5, .iload_n 0, 1, 0, 0, 0), (6, .bipush 6, 2, 0, 0, 0), (8, .if_icmp .eq 39, 3, 0, 0, 0), (11, .iload_n 0, 1, 0, 0, 0), (12, .bipush 7, 2, 0, 0, 0), (14, .if_icmp .eq 33, 3, 0, 0, 0), (17, .iload_n 0, 1, 0, 0, 0), (18, .bipush 11, 2, 0, 0, 0), (20, .if_icmp .eq 27, 3, 0, 0, 0), (23, .iload_n 0, 1, 0, 0, 0), (24, .bipush 12, 2, 0, 0, 0), (26, .if_icmp .eq 21, 3, 0, 0, 0), (29, .iload_n 0, 1, 0, 0, 0), (30, .bipush 13, 2, 0, 0, 0), (32, .if_icmp .eq 15, 3, 0, 0, 0), (35, .iload_n 0, 1, 0, 0, 0), (36, .bipush 15, 2, 0, 0, 0), (38, .if_icmp .eq 9, 3, 0, 0, 0), (41, .iload_n 0, 1, 0, 0, 0), (42, .bipush 25, 2, 0, 0, 0), (44, .if_icmp .ne 7, 3, 0, 0, 0), (47, .iconst 1, 1, 0, 0, 0), (48, .goto 4, 3, 0, 0, 0), (51, .iconst 0, 1, 0, 0, 0), (52, .ireturn, 1, 0, 0, 0)]
def aD_X11_isNumber : ax_D := (yX11_isNumber, cX11_isNumber, 1, (some .boolean), [], [], at_X11_isNumber, [])
def at_X11_isText : List (Nat × ax_I) := [(0, .iload_n 0, 1, 0, 0, 0), (1, .bipush 8, 2, 0, 0, 0), (3, .if_icmp .eq 9, 3, 0, 0, 0), (6, .iload_n 0, 1, 0, 0, 0), (7, .bipush 14, 2, 0, 0, 0), (9, .if_icmp .ne 7, 3, 0, 0, 0), (12, .iconst 1, 1, 0, 0, 0), (13, .goto 4, 3, 0, 0, 0), (16, .iconst 0, 1, 0, 0, 0), (17, .ireturn, 1, 0, 0, 0)]
def aD_X11_isText : ax_D := (yX11_isText, cX11_isText, 1, (some .boolean), [], [], at_X11_isText, [])
def at_X11_isReference : List (Nat × ax_I) := [(0, .iload_n 0, 1, 0, 0, 0), (1, .bipush 19, 2, 0, 0, 0), (3, .if_icmp .eq 9, 3, 0, 0, 0), (6, .iload_n 0, 1, 0, 0, 0), (7, .bipush 21, 2, 0, 0, 0), (9, .if_icmp .ne 7, 3, 0, 0, 0), (12, .iconst 1, 1, 0, 0, 0), (13, .goto 4, 3, 0, 0, 0), (16, .iconst 0, 1, 0, 0, 0), (17, .ireturn, 1, 0, 0, 0)]
def aD_X11_isReference : ax_D := (yX11_isReference, cX11_isReference, 1, (some .boolean), [], [], at_X11_isReference, [])
def at_X11_isForm : List (Nat × ax_I) := [(0, .lload_n 0, 1, 0, 0, 0), (1, .lconst 0, 1, 0, 0, 0), (2, .ldc2_w 158, 3, 0, 0, 30), (5, .invokestatic 131, 3, 134, 3, 0), (8, .ifCond .eq 39, 3, 0, 0, 0), (11, .lload_n 0, 1, 0, 0, 0), (12, .l2i, 1, 0, 0, 0), (13, .invokestatic 160, 3, 147, 1, 0), (16, .ifCond .ne 27, 3, 0, 0, 0), (19, .lload_n 0, 1, 0, 0, 0), (20, .l2i, 1, 0, 0, 0), (21, .invokestatic 163, 3, 148, 1, 0), (24, .ifCond .ne 19, 3, 0, 0, 0), (27, .lload_n 0, 1, 0, 0, 0), (28, .ldc2_w 166, 3, 0, 0, 10), (31, .lcmp, 1, 0, 0, 0), (32, .ifCond .eq 11, 3, 0, 0, 0), (35, .lload_n 0, 1, 0, 0, 0), (36, .l2i, 1, 0, 0, 0), (37, .invokestatic 168, 3, 149, 1, 0), (40, .ifCond .eq 7, 3, 0, 0, 0), (43, .iconst 1, 1, 0, 0, 0), (44, .goto 4, 3, 0, 0, 0), (47, .iconst 0, 1, 0, 0, 0), (48, .ireturn, 1, 0, 0, 0)]
def aD_X11_isForm : ax_D := (yX11_isForm, cX11_isForm, 2, (some .boolean), [], [], at_X11_isForm, [])
def at_X11_fits : List (Nat × ax_I) := [(0, .iload_n 0, 1, 0, 0, 0), (1, .lookupswitch 117 #[(5, 68), (6, 77), (11, 59), (12, 86), (15, 93), (25, 105)], 59, 0, 0, 0), (60, .lload_n 1, 1, 0, 0, 0), (61, .lconst 0, 1, 0, 0, 0), (62, .ldc2_w 171, 3, 0, 0, 255), (65, .invokestatic 131, 3, 134, 3, 0), (68, .ireturn, 1, 0, 0, 0), (69, .lload_n 1, 1, 0, 0, 0), (70, .lconst 0, 1, 0, 0, 0), (71, .ldc2_w 173, 3, 0, 0, 65535), (74, .invokestatic 131, 3, 134, 3, 0), (77, .ireturn, 1, 0, 0, 0), (78, .lload_n 1, 1, 0, 0, 0), (79, .lconst 0, 1, 0, 0, 0), (80, .ldc2_w 175, 3, 0, 0, 4294967295), (83, .invokestatic 131, 3, 134, 3, 0), (86, .ireturn, 1, 0, 0, 0), (87, .lload_n 1, 1, 0, 0, 0), (88, .lconst 0, 1, 0, 0, 0), (89, .lconst 1, 1, 0, 0, 0), (90, .invokestatic 131, 3, 134, 3, 0), (93, .ireturn, 1, 0, 0, 0), (94, .lload_n 1, 1, 0, 0, 0), (95, .lconst 0, 1, 0, 0, 0), (96, .lcmp, 1, 0, 0, 0), (97, .ifCond .lt 7, 3, 0, 0, 0), (100, .iconst 1, 1, 0, 0, 0), (101, .goto 4, 3, 0, 0, 0), (104, .iconst 0, 1, 0, 0, 0), (105, .ireturn, 1, 0, 0, 0), (106, .lload_n 1, 1, 0, 0, 0), (107, .lconst 1, 1, 0, 0, 0), (108, .lcmp, 1, 0, 0, 0), (109, .ifCond .ne 7, 3, 0, 0, 0), (112, .iconst 1, 1, 0, 0, 0), (113, .goto 4, 3, 0, 0, 0), (116, .iconst 0, 1, 0, 0, 0), (117, .ireturn, 1, 0, 0, 0), (118, .iconst 1, 1, 0, 0, 0), (119, .ireturn, 1, 0, 0, 0)]
def aD_X11_fits : ax_D := (yX11_fits, cX11_fits, 3, (some .boolean), [], [], at_X11_fits, [])
def at_X11_isTold : List (Nat × ax_I) := [(0, .aload_n 0, 1, 0, 0, 0), (1, .iload_n 1, 1, 0, 0, 0), (2, .invokevirtual 140, 3, 141, 1, 0), (5, .istore_n 3, 1, 0, 0, 0), (6, .iconst 0, 1, 0, 0, 0), (7, .istore 4, 2, 0, 0, 0), (9, .iconst 0, 1, 0, 0, 0), (10, .istore 5, 2, 0, 0, 0), (12, .iload 5, 2, 0, 0, 0), (14, .aload_n 0, 1, 0, 0, 0), (15, .getfield 32, 3, 9, 10, 0), (18, .iload_n 3, 1, 0, 0, 0), (19, .iaload, 1, 0, 0, 0), (20, .if_icmp .ge 37, 3, 0, 0, 0), (23, .iload 4, 2, 0, 0, 0), (25, .ifCond .ne 19, 3, 0, 0, 0), (28, .aload_n 0, 1, 0, 0, 0), (29, .getfield 35, 3, 9, 11, 0), (32, .bipush 8, 2, 0, 0, 0), (34, .iload_n 3, 1, 0, 0, 0), (35, .imul, 1, 0, 0, 0), (36, .iload 5, 2, 0, 0, 0), (38, .iadd, 1, 0, 0, 0), (39, .iaload, 1, 0, 0, 0), (40, .iload_n 2, 1, 0, 0, 0), (41, .if_icmp .ne 7, 3, 0, 0, 0), (44, .iconst 1, 1, 0, 0, 0), (45, .goto 4, 3, 0, 0, 0), (48, .iconst 0, 1, 0, 0, 0), (49, .istore 4, 2, 0, 0, 0), (51, .iinc 5 1, 3, 0, 0, 0), (54, .goto (-42), 3, 0, 0, 0), (57, .iload 4, 2, 0, 0, 0), (59, .ireturn, 1, 0, 0, 0)]
def aD_X11_isTold : ax_D := (yX11_isTold, cX11_isTold, 6, (some .boolean), [], [], at_X11_isTold, [])
def at_X11_add : List (Nat × ax_I) := [(0, .aload_n 0, 1, 0, 0, 0), (1, .iload_n 1, 1, 0, 0, 0), (2, .invokevirtual 140, 3, 141, 1, 0), (5, .istore 6, 2, 0, 0, 0), (7, .bipush 8, 2, 0, 0, 0), (9, .iload 6, 2, 0, 0, 0), (11, .imul, 1, 0, 0, 0), (12, .aload_n 0, 1, 0, 0, 0), (13, .getfield 32, 3, 9, 10, 0), (16, .iload 6, 2, 0, 0, 0), (18, .iaload, 1, 0, 0, 0), (19, .iadd, 1, 0, 0, 0), (20, .istore 7, 2, 0, 0, 0), (22, .aload_n 0, 1, 0, 0, 0), (23, .getfield 35, 3, 9, 11, 0), (26, .iload 7, 2, 0, 0, 0), (28, .iload_n 2, 1, 0, 0, 0), (29, .iastore, 1, 0, 0, 0), (30, .aload_n 0, 1, 0, 0, 0), (31, .getfield 38, 3, 9, 12, 0), (34, .iload 7, 2, 0, 0, 0), (36, .iload_n 3, 1, 0, 0, 0), (37, .iastore, 1, 0, 0, 0), (38, .aload_n 0, 1, 0, 0, 0), (39, .getfield 41, 3, 9, 13, 0), (42, .iload 7, 2, 0, 0, 0), (44, .lload 4, 2, 0, 0, 0), (46, .lastore, 1, 0, 0, 0), (47, .aload_n 0, 1, 0, 0, 0), (48, .getfield 45, 3, 9, 14, 0), (51, .iload 7, 2, 0, 0, 0), (53, .iconst 0, 1, 0, 0, 0), (54, .iastore, 1, 0, 0, 0), (55, .aload_n 0, 1, 0, 0, 0), (56, .getfield 48, 3, 9, 15, 0), (59, .iload 7, 2, 0, 0, 0), (61, .iconst 0, 1, 0, 0, 0), (62, .iastore, 1, 0, 0, 0), (63, .aload_n 0, 1, 0, 0, 0), (64, .getfield 32, 3, 9, 10, 0), (67, .iload 6, 2, 0, 0, 0), (69, .dup2, 1, 0, 0, 0), (70, .iaload, 1, 0, 0, 0), (71, .iconst 1, 1, 0, 0, 0), (72, .iadd, 1, 0, 0, 0), (73, .iastore, 1, 0, 0, 0), (74, .aload_n 0, 1, 0, 0, 0), (75, .getfield 32, 3, 9, 10, 0), (78, .iload 6, 2, 0, 0, 0), (80, .iaload, 1, 0, 0, 0), (81, .ireturn, 1, 0, 0, 0)]
def aD_X11_add : ax_D := (yX11_add, cX11_add, 8, (some .int), [], [], at_X11_add, [])
def at_X11_isFull : List (Nat × ax_I) := [(0, .aload_n 0, 1, 0, 0, 0), (1, .getfield 32, 3, 9, 10, 0), (4, .aload_n 0, 1, 0, 0, 0), (5, .iload_n 1, 1, 0, 0, 0), (6, .invokevirtual 140, 3, 141, 1, 0), (9, .iaload, 1, 0, 0, 0), (10, .bipush 8, 2, 0, 0, 0), (12, .if_icmp .ne 7, 3, 0, 0, 0), (15, .iconst 1, 1, 0, 0, 0), (16, .goto 4, 3, 0, 0, 0), (19, .iconst 0, 1, 0, 0, 0), (20, .ireturn, 1, 0, 0, 0)]
def aD_X11_isFull : ax_D := (yX11_isFull, cX11_isFull, 2, (some .boolean), [], [], at_X11_isFull, [])
def at_X11_number : List (Nat × ax_I) := [(0, .aload_n 0, 1, 0, 0, 0), (1, .aload_n 0, 1, 0, 0, 0), (2, .iload_n 1, 1, 0, 0, 0), (3, .invokevirtual 152, 3, 142, 1, 0), (6, .ifCond .ne 7, 3, 0, 0, 0), (9, .iconst 1, 1, 0, 0, 0), (10, .goto 52, 3, 0, 0, 0), (13, .iload_n 2, 1, 0, 0, 0), (14, .invokestatic 144, 3, 140, 1, 0), (17, .ifCond .eq 28, 3, 0, 0, 0), (20, .iload_n 3, 1, 0, 0, 0), (21, .invokestatic 160, 3, 147, 1, 0), (24, .ifCond .eq 21, 3, 0, 0, 0), (27, .iload_n 3, 1, 0, 0, 0), (28, .lload 4, 2, 0, 0, 0), (30, .invokestatic 177, 3, 151, 2, 0), (33, .ifCond .eq 12, 3, 0, 0, 0), (36, .aload_n 0, 1, 0, 0, 0), (37, .iload_n 1, 1, 0, 0, 0), (38, .iload_n 2, 1, 0, 0, 0), (39, .invokevirtual 181, 3, 152, 2, 0), (42, .ifCond .eq 7, 3, 0, 0, 0), (45, .iconst 2, 1, 0, 0, 0), (46, .goto 16, 3, 0, 0, 0), (49, .aload_n 0, 1, 0, 0, 0), (50, .iload_n 1, 1, 0, 0, 0), (51, .invokevirtual 185, 3, 154, 1, 0), (54, .ifCond .eq 7, 3, 0, 0, 0), (57, .iconst 3, 1, 0, 0, 0), (58, .goto 4, 3, 0, 0, 0), (61, .iconst 0, 1, 0, 0, 0), (62, .putfield 120, 3, 9, 0, 0), (65, .aload_n 0, 1, 0, 0, 0), (66, .getfield 120, 3, 9, 0, 0), (69, .ifCond .le 7, 3, 0, 0, 0), (72, .iconst 0, 1, 0, 0, 0), (73, .goto 12, 3, 0, 0, 0), (76, .aload_n 0, 1, 0, 0, 0), (77, .iload_n 1, 1, 0, 0, 0), (78, .iload_n 2, 1, 0, 0, 0), (79, .iload_n 3, 1, 0, 0, 0), (80, .lload 4, 2, 0, 0, 0), (82, .invokevirtual 188, 3, 153, 4, 0), (85, .ireturn, 1, 0, 0, 0)]
def aD_X11_number : ax_D := (yX11_number, cX11_number, 6, (some .int), [], [], at_X11_number, [])
def at_X11_areBytes : List (Nat × ax_I) := [(0, .aload_n 0, 1, 0, 0, 0), (1, .getfield 124, 3, 9, 2, 0), (4, .sipush 255, 3, 0, 0, 0), (7, .if_icmp .gt 7, 3, 0, 0, 0), (10, .iconst 1, 1, 0, 0, 0), (11, .goto 4, 3, 0, 0, 0), (14, .iconst 0, 1, 0, 0, 0), (15, .istore_n 2, 1, 0, 0, 0), (16, .iconst 0, 1, 0, 0, 0), (17, .istore_n 3, 1, 0, 0, 0), (18, .iload_n 3, 1, 0, 0, 0), (19, .aload_n 0, 1, 0, 0, 0), (20, .getfield 124, 3, 9, 2, 0), (23, .if_icmp .ge 34, 3, 0, 0, 0), (26, .iload_n 2, 1, 0, 0, 0), (27, .ifCond .eq 30, 3, 0, 0, 0), (30, .iload_n 1, 1, 0, 0, 0), (31, .bipush 10, 2, 0, 0, 0), (33, .if_icmp .eq 24, 3, 0, 0, 0), (36, .aload_n 0, 1, 0, 0, 0), (37, .getfield 7, 3, 9, 1, 0), (40, .iload_n 3, 1, 0, 0, 0), (41, .baload, 1, 0, 0, 0), (42, .ifCond .eq 7, 3, 0, 0, 0), (45, .iconst 1, 1, 0, 0, 0), (46, .goto 4, 3, 0, 0, 0), (49, .iconst 0, 1, 0, 0, 0), (50, .istore_n 2, 1, 0, 0, 0), (51, .iinc 3 1, 3, 0, 0, 0), (54, .goto (-36), 3, 0, 0, 0), (57, .iload_n 2, 1, 0, 0, 0), (58, .ireturn, 1, 0, 0, 0)]
def aD_X11_areBytes : ax_D := (yX11_areBytes, cX11_areBytes, 4, (some .boolean), [], [], at_X11_areBytes, [])
def at_X11_bytes : List (Nat × ax_I) := [(0, .aload_n 0, 1, 0, 0, 0), (1, .aload_n 0, 1, 0, 0, 0), (2, .iload_n 1, 1, 0, 0, 0), (3, .invokevirtual 152, 3, 142, 1, 0), (6, .ifCond .ne 7, 3, 0, 0, 0), (9, .iconst 1, 1, 0, 0, 0), (10, .goto 77, 3, 0, 0, 0), (13, .iload_n 2, 1, 0, 0, 0), (14, .invokestatic 144, 3, 140, 1, 0), (17, .ifCond .eq 33, 3, 0, 0, 0), (20, .iload_n 3, 1, 0, 0, 0), (21, .invokestatic 163, 3, 148, 1, 0), (24, .ifCond .ne 9, 3, 0, 0, 0), (27, .iload_n 3, 1, 0, 0, 0), (28, .bipush 10, 2, 0, 0, 0), (30, .if_icmp .ne 20, 3, 0, 0, 0), (33, .aload_n 0, 1, 0, 0, 0), (34, .iload_n 3, 1, 0, 0, 0), (35, .invokevirtual 192, 3, 156, 1, 0), (38, .ifCond .eq 12, 3, 0, 0, 0), (41, .aload_n 0, 1, 0, 0, 0), (42, .iload_n 1, 1, 0, 0, 0), (43, .iload_n 2, 1, 0, 0, 0), (44, .invokevirtual 181, 3, 152, 2, 0), (47, .ifCond .eq 7, 3, 0, 0, 0), (50, .iconst 2, 1, 0, 0, 0), (51, .goto 36, 3, 0, 0, 0), (54, .aload_n 0, 1, 0, 0, 0), (55, .iload_n 1, 1, 0, 0, 0), (56, .invokevirtual 185, 3, 154, 1, 0), (59, .ifCond .ne 23, 3, 0, 0, 0), (62, .aload_n 0, 1, 0, 0, 0), (63, .getfield 51, 3, 9, 16, 0), (66, .aload_n 0, 1, 0, 0, 0), (67, .getfield 137, 3, 9, 3, 0), (70, .iaload, 1, 0, 0, 0), (71, .aload_n 0, 1, 0, 0, 0), (72, .getfield 124, 3, 9, 2, 0), (75, .iadd, 1, 0, 0, 0), (76, .sipush 30000, 3, 0, 0, 0), (79, .if_icmp .le 7, 3, 0, 0, 0), (82, .iconst 3, 1, 0, 0, 0), (83, .goto 4, 3, 0, 0, 0), (86, .iconst 0, 1, 0, 0, 0), (87, .putfield 120, 3, 9, 0, 0), (90, .aload_n 0, 1, 0, 0, 0), (91, .getfield 120, 3, 9, 0, 0), (94, .ifCond .le 5, 3, 0, 0, 0), (97, .iconst 0, 1, 0, 0, 0), (98, .ireturn, 1, 0, 0, 0), (99, .aload_n 0, 1, 0, 0, 0), (100, .iload_n 1, 1, 0, 0, 0), (101, .iload_n 2, 1, 0, 0, 0), (102, .iload_n 3, 1, 0, 0, 0), (103, .lconst 0, 1, 0, 0, 0), (104, .invokevirtual 188, 3, 153, 4, 0), (107, .istore 4, 2, 0, 0, 0), (109, .bipush 8, 2, 0, 0, 0), (111, .aload_n 0, 1, 0, 0, 0), (112, .iload_n 1, 1, 0, 0, 0), (113, .invokevirtual 140, 3, 141, 1, 0), (116, .imul, 1, 0, 0, 0), (117, .iload 4, 2, 0, 0, 0), (119, .iadd, 1, 0, 0, 0), (120, .iconst 1, 1, 0, 0, 0), (121, .isub, 1, 0, 0, 0), (122, .istore 5, 2, 0, 0, 0), (124, .aload_n 0, 1, 0, 0, 0), (125, .getfield 45, 3, 9, 14, 0), (128, .iload 5, 2, 0, 0, 0), (130, .ldc 195, 2, 0, 0, 90000), (132, .aload_n 0, 1, 0, 0, 0), (133, .getfield 137, 3, 9, 3, 0), (136, .imul, 1, 0, 0, 0), (137, .aload_n 0, 1, 0, 0, 0), (138, .getfield 54, 3, 9, 17, 0), (141, .aload_n 0, 1, 0, 0, 0), (142, .getfield 137, 3, 9, 3, 0), (145, .iaload, 1, 0, 0, 0), (146, .iadd, 1, 0, 0, 0), (147, .iastore, 1, 0, 0, 0), (148, .aload_n 0, 1, 0, 0, 0), (149, .getfield 48, 3, 9, 15, 0), (152, .iload 5, 2, 0, 0, 0), (154, .aload_n 0, 1, 0, 0, 0), (155, .getfield 124, 3, 9, 2, 0), (158, .iastore, 1, 0, 0, 0), (159, .aload_n 0, 1, 0, 0, 0), (160, .getfield 51, 3, 9, 16, 0), (163, .aload_n 0, 1, 0, 0, 0), (164, .getfield 137, 3, 9, 3, 0), (167, .aload_n 0, 1, 0, 0, 0), (168, .getfield 51, 3, 9, 16, 0), (171, .aload_n 0, 1, 0, 0, 0), (172, .getfield 137, 3, 9, 3, 0), (175, .iaload, 1, 0, 0, 0), (176, .aload_n 0, 1, 0, 0, 0), (177, .getfield 124, 3, 9, 2, 0), (180, .iadd, 1, 0, 0, 0), (181, .iastore, 1, 0, 0, 0), (182, .iconst 0, 1, 0, 0, 0), (183, .istore 6, 2, 0, 0, 0), (185, .iload 6, 2, 0, 0, 0), (187, .aload_n 0, 1, 0, 0, 0), (188, .getfield 124, 3, 9, 2, 0), (191, .if_icmp .ge 31, 3, 0, 0, 0), (194, .aload_n 0, 1, 0, 0, 0), (195, .getfield 58, 3, 9, 18, 0), (198, .aload_n 0, 1, 0, 0, 0), (199, .getfield 45, 3, 9, 14, 0), (202, .iload 5, 2, 0, 0, 0), (204, .iaload, 1, 0, 0, 0), (205, .iload 6, 2, 0, 0, 0), (207, .iadd, 1, 0, 0, 0), (208, .aload_n 0, 1, 0, 0, 0), (209, .getfield 7, 3, 9, 1, 0), (212, .iload 6, 2, 0, 0, 0), (214, .baload, 1, 0, 0, 0), (215, .bastore, 1, 0, 0, 0), (216, .iinc 6 1, 3, 0, 0, 0), (219, .goto (-34), 3, 0, 0, 0), (222, .aload_n 0, 1, 0, 0, 0), (223, .getfield 54, 3, 9, 17, 0), (226, .aload_n 0, 1, 0, 0, 0), (227, .getfield 137, 3, 9, 3, 0), (230, .aload_n 0, 1, 0, 0, 0), (231, .getfield 54, 3, 9, 17, 0), (234, .aload_n 0, 1, 0, 0, 0), (235, .getfield 137, 3, 9, 3, 0), (238, .iaload, 1, 0, 0, 0), (239, .aload_n 0, 1, 0, 0, 0), (240, .getfield 124, 3, 9, 2, 0), (243, .iadd, 1, 0, 0, 0), (244, .iastore, 1, 0, 0, 0), (245, .aload_n 0, 1, 0, 0, 0), (246, .iconst 0, 1, 0, 0, 0), (247, .putfield 124, 3, 9, 2, 0), (250, .iload 4, 2, 0, 0, 0), (252, .ireturn, 1, 0, 0, 0)]
def aD_X11_bytes : ax_D := (yX11_bytes, cX11_bytes, 7, (some .int), [], [], at_X11_bytes, [])
def at_X11_reference : List (Nat × ax_I) := [(0, .aload_n 0, 1, 0, 0, 0), (1, .aload_n 0, 1, 0, 0, 0), (2, .iload_n 1, 1, 0, 0, 0), (3, .invokevirtual 152, 3, 142, 1, 0), (6, .ifCond .eq 12, 3, 0, 0, 0), (9, .aload_n 0, 1, 0, 0, 0), (10, .iload 4, 2, 0, 0, 0), (12, .invokevirtual 152, 3, 142, 1, 0), (15, .ifCond .ne 7, 3, 0, 0, 0), (18, .iconst 1, 1, 0, 0, 0), (19, .goto 71, 3, 0, 0, 0), (22, .aload_n 0, 1, 0, 0, 0), (23, .getfield 29, 3, 9, 9, 0), (26, .aload_n 0, 1, 0, 0, 0), (27, .iload_n 1, 1, 0, 0, 0), (28, .invokevirtual 140, 3, 141, 1, 0), (31, .iaload, 1, 0, 0, 0), (32, .aload_n 0, 1, 0, 0, 0), (33, .getfield 29, 3, 9, 9, 0), (36, .aload_n 0, 1, 0, 0, 0), (37, .iload 4, 2, 0, 0, 0), (39, .invokevirtual 140, 3, 141, 1, 0), (42, .iaload, 1, 0, 0, 0), (43, .if_icmp .eq 7, 3, 0, 0, 0), (46, .iconst 2, 1, 0, 0, 0), (47, .goto 43, 3, 0, 0, 0), (50, .iload_n 2, 1, 0, 0, 0), (51, .invokestatic 144, 3, 140, 1, 0), (54, .ifCond .eq 19, 3, 0, 0, 0), (57, .iload_n 3, 1, 0, 0, 0), (58, .invokestatic 168, 3, 149, 1, 0), (61, .ifCond .eq 12, 3, 0, 0, 0), (64, .aload_n 0, 1, 0, 0, 0), (65, .iload_n 1, 1, 0, 0, 0), (66, .iload_n 2, 1, 0, 0, 0), (67, .invokevirtual 181, 3, 152, 2, 0), (70, .ifCond .eq 7, 3, 0, 0, 0), (73, .iconst 3, 1, 0, 0, 0), (74, .goto 16, 3, 0, 0, 0), (77, .aload_n 0, 1, 0, 0, 0), (78, .iload_n 1, 1, 0, 0, 0), (79, .invokevirtual 185, 3, 154, 1, 0), (82, .ifCond .eq 7, 3, 0, 0, 0), (85, .iconst 4, 1, 0, 0, 0), (86, .goto 4, 3, 0, 0, 0), (89, .iconst 0, 1, 0, 0, 0), (90, .putfield 120, 3, 9, 0, 0), (93, .aload_n 0, 1, 0, 0, 0), (94, .getfield 120, 3, 9, 0, 0), (97, .ifCond .le 7, 3, 0, 0, 0), (100, .iconst 0, 1, 0, 0, 0), (101, .goto 13, 3, 0, 0, 0), (104, .aload_n 0, 1, 0, 0, 0), (105, .iload_n 1, 1, 0, 0, 0), (106, .iload_n 2, 1, 0, 0, 0), (107, .iload_n 3, 1, 0, 0, 0), (108, .iload 4, 2, 0, 0, 0), (110, .i2l, 1, 0, 0, 0), (111, .invokevirtual 188, 3, 153, 4, 0), (114, .ireturn, 1, 0, 0, 0)]
def aD_X11_reference : ax_D := (yX11_reference, cX11_reference, 5, (some .int), [], [], at_X11_reference, [])
def at_X11_clear : List (Nat × ax_I) := [(0, .aload_n 0, 1, 0, 0, 0), (1, .iconst 0, 1, 0, 0, 0), (2, .putfield 120, 3, 9, 0, 0), (5, .aload_n 0, 1, 0, 0, 0), (6, .getfield 13, 3, 9, 4, 0), (9, .aload_n 0, 1, 0, 0, 0), (10, .getfield 137, 3, 9, 3, 0), (13, .iaload, 1, 0, 0, 0), (14, .istore_n 1, 1, 0, 0, 0), (15, .aload_n 0, 1, 0, 0, 0), (16, .getfield 13, 3, 9, 4, 0), (19, .aload_n 0, 1, 0, 0, 0), (20, .getfield 137, 3, 9, 3, 0), (23, .iconst 0, 1, 0, 0, 0), (24, .iastore, 1, 0, 0, 0), (25, .aload_n 0, 1, 0, 0, 0), (26, .getfield 17, 3, 9, 5, 0), (29, .aload_n 0, 1, 0, 0, 0), (30, .getfield 137, 3, 9, 3, 0), (33, .iconst 0, 1, 0, 0, 0), (34, .iastore, 1, 0, 0, 0), (35, .aload_n 0, 1, 0, 0, 0), (36, .getfield 54, 3, 9, 17, 0), (39, .aload_n 0, 1, 0, 0, 0), (40, .getfield 137, 3, 9, 3, 0), (43, .iconst 0, 1, 0, 0, 0), (44, .iastore, 1, 0, 0, 0), (45, .aload_n 0, 1, 0, 0, 0), (46, .getfield 51, 3, 9, 16, 0), (49, .aload_n 0, 1, 0, 0, 0), (50, .getfield 137, 3, 9, 3, 0), (53, .iconst 0, 1, 0, 0, 0), (54, .iastore, 1, 0, 0, 0), (55, .iload_n 1, 1, 0, 0, 0), (56, .ireturn, 1, 0, 0, 0)]
def aD_X11_clear : ax_D := (yX11_clear, cX11_clear, 2, (some .int), [], [], at_X11_clear, [])
def at_X11_firstChild : List (Nat × ax_I) := [(0, .iconst 0, 1, 0, 0, 0), (1, .istore_n 2, 1, 0, 0, 0), (2, .iload_n 2, 1, 0, 0, 0), (3, .aload_n 0, 1, 0, 0, 0), (4, .getfield 13, 3, 9, 4, 0), (7, .aload_n 0, 1, 0, 0, 0), (8, .getfield 137, 3, 9, 3, 0), (11, .iaload, 1, 0, 0, 0), (12, .if_icmp .ge 25, 3, 0, 0, 0), (15, .aload_n 0, 1, 0, 0, 0), (16, .getfield 26, 3, 9, 8, 0), (19, .aload_n 0, 1, 0, 0, 0), (20, .iload_n 2, 1, 0, 0, 0), (21, .invokevirtual 140, 3, 141, 1, 0), (24, .iaload, 1, 0, 0, 0), (25, .iload_n 1, 1, 0, 0, 0), (26, .if_icmp .ne 5, 3, 0, 0, 0), (29, .iload_n 2, 1, 0, 0, 0), (30, .ireturn, 1, 0, 0, 0), (31, .iinc 2 1, 3, 0, 0, 0), (34, .goto (-32), 3, 0, 0, 0), (37, .iconst (-1), 1, 0, 0, 0), (38, .ireturn, 1, 0, 0, 0)]
def aD_X11_firstChild : ax_D := (yX11_firstChild, cX11_firstChild, 3, (some .int), [], [], at_X11_firstChild, [])
def at_X11_nextChild : List (Nat × ax_I) := [(0, .iload_n 1, 1, 0, 0, 0), (1, .iconst 1, 1, 0, 0, 0), (2, .iadd, 1, 0, 0, 0), (3, .istore_n 2, 1, 0, 0, 0), (4, .iload_n 2, 1, 0, 0, 0), (5, .aload_n 0, 1, 0, 0, 0), (6, .getfield 13, 3, 9, 4, 0), (9, .aload_n 0, 1, 0, 0, 0), (10, .getfield 137, 3, 9, 3, 0), (13, .iaload, 1, 0, 0, 0), (14, .if_icmp .ge 34, 3, 0, 0, 0), (17, .aload_n 0, 1, 0, 0, 0), (18, .getfield 26, 3, 9, 8, 0), (21, .aload_n 0, 1, 0, 0, 0), (22, .iload_n 2, 1, 0, 0, 0), (23, .invokevirtual 140, 3, 141, 1, 0), (26, .iaload, 1, 0, 0, 0), (27, .aload_n 0, 1, 0, 0, 0), (28, .getfield 26, 3, 9, 8, 0), (31, .aload_n 0, 1, 0, 0, 0), (32, .iload_n 1, 1, 0, 0, 0), (33, .invokevirtual 140, 3, 141, 1, 0), (36, .iaload, 1, 0, 0, 0), (37, .if_icmp .ne 5, 3, 0, 0, 0), (40, .iload_n 2, 1, 0, 0, 0), (41, .ireturn, 1, 0, 0, 0), (42, .iinc 2 1, 3, 0, 0, 0), (45, .goto (-41), 3, 0, 0, 0), (48, .iconst (-1), 1, 0, 0, 0), (49, .ireturn, 1, 0, 0, 0)]
def aD_X11_nextChild : ax_D := (yX11_nextChild, cX11_nextChild, 3, (some .int), [], [], at_X11_nextChild, [])
def at_X11_goThrough : List (Nat × ax_I) := [(0, .aload_n 0, 1, 0, 0, 0), (1, .iconst 0, 1, 0, 0, 0), (2, .putfield 196, 3, 9, 23, 0), (5, .iconst 0, 1, 0, 0, 0), (6, .istore_n 1, 1, 0, 0, 0), (7, .iload_n 1, 1, 0, 0, 0), (8, .aload_n 0, 1, 0, 0, 0), (9, .getfield 17, 3, 9, 5, 0), (12, .aload_n 0, 1, 0, 0, 0), (13, .getfield 137, 3, 9, 3, 0), (16, .iaload, 1, 0, 0, 0), (17, .if_icmp .ge 134, 3, 0, 0, 0), (20, .aload_n 0, 1, 0, 0, 0), (21, .getfield 20, 3, 9, 6, 0), (24, .bipush 6, 2, 0, 0, 0), (26, .aload_n 0, 1, 0, 0, 0), (27, .getfield 137, 3, 9, 3, 0), (30, .imul, 1, 0, 0, 0), (31, .iload_n 1, 1, 0, 0, 0), (32, .iadd, 1, 0, 0, 0), (33, .iaload, 1, 0, 0, 0), (34, .istore_n 2, 1, 0, 0, 0), (35, .iload_n 2, 1, 0, 0, 0), (36, .iconst (-1), 1, 0, 0, 0), (37, .if_icmp .eq 108, 3, 0, 0, 0), (40, .aload_n 0, 1, 0, 0, 0), (41, .getfield 68, 3, 9, 24, 0), (44, .aload_n 0, 1, 0, 0, 0), (45, .getfield 196, 3, 9, 23, 0), (48, .iload_n 2, 1, 0, 0, 0), (49, .iastore, 1, 0, 0, 0), (50, .aload_n 0, 1, 0, 0, 0), (51, .getfield 71, 3, 9, 25, 0), (54, .aload_n 0, 1, 0, 0, 0), (55, .getfield 196, 3, 9, 23, 0), (58, .iconst 0, 1, 0, 0, 0), (59, .iastore, 1, 0, 0, 0), (60, .aload_n 0, 1, 0, 0, 0), (61, .dup, 1, 0, 0, 0), (62, .getfield 196, 3, 9, 23, 0), (65, .iconst 1, 1, 0, 0, 0), (66, .iadd, 1, 0, 0, 0), (67, .putfield 196, 3, 9, 23, 0), (70, .aload_n 0, 1, 0, 0, 0), (71, .iload_n 2, 1, 0, 0, 0), (72, .invokevirtual 199, 3, 160, 1, 0), (75, .istore_n 3, 1, 0, 0, 0), (76, .iload_n 3, 1, 0, 0, 0), (77, .iconst (-1), 1, 0, 0, 0), (78, .if_icmp .ne 62, 3, 0, 0, 0), (81, .iload_n 2, 1, 0, 0, 0), (82, .iconst (-1), 1, 0, 0, 0), (83, .if_icmp .eq 57, 3, 0, 0, 0), (86, .aload_n 0, 1, 0, 0, 0), (87, .getfield 26, 3, 9, 8, 0), (90, .aload_n 0, 1, 0, 0, 0), (91, .iload_n 2, 1, 0, 0, 0), (92, .invokevirtual 140, 3, 141, 1, 0), (95, .iaload, 1, 0, 0, 0), (96, .iconst (-1), 1, 0, 0, 0), (97, .if_icmp .eq 43, 3, 0, 0, 0), (100, .aload_n 0, 1, 0, 0, 0), (101, .iload_n 2, 1, 0, 0, 0), (102, .invokevirtual 202, 3, 161, 1, 0), (105, .istore_n 3, 1, 0, 0, 0), (106, .iload_n 3, 1, 0, 0, 0), (107, .iconst (-1), 1, 0, 0, 0), (108, .if_icmp .ne (-32), 3, 0, 0, 0), (111, .aload_n 0, 1, 0, 0, 0), (112, .getfield 71, 3, 9, 25, 0), (115, .aload_n 0, 1, 0, 0, 0), (116, .getfield 196, 3, 9, 23, 0), (119, .iconst 1, 1, 0, 0, 0), (120, .isub, 1, 0, 0, 0), (121, .dup2, 1, 0, 0, 0), (122, .iaload, 1, 0, 0, 0), (123, .iconst 1, 1, 0, 0, 0), (124, .iadd, 1, 0, 0, 0), (125, .iastore, 1, 0, 0, 0), (126, .aload_n 0, 1, 0, 0, 0), (127, .getfield 26, 3, 9, 8, 0), (130, .aload_n 0, 1, 0, 0, 0), (131, .iload_n 2, 1, 0, 0, 0), (132, .invokevirtual 140, 3, 141, 1, 0), (135, .iaload, 1, 0, 0, 0), (136, .istore_n 2, 1, 0, 0, 0), (137, .goto (-61), 3, 0, 0, 0), (140, .iload_n 3, 1, 0, 0, 0), (141, .istore_n 2, 1, 0, 0, 0), (142, .goto (-107), 3, 0, 0, 0), (145, .iinc 1 1, 3, 0, 0, 0), (148, .goto (-141), 3, 0, 0, 0), (151, .return_, 1, 0, 0, 0)]
def aD_X11_goThrough : ax_D := (yX11_goThrough, cX11_goThrough, 4, none, [], [], at_X11_goThrough, [])
def at_X11_sameShape : List (Nat × ax_I) := [(0, .aload_n 0, 1, 0, 0, 0), (1, .iload_n 1, 1, 0, 0, 0), (2, .invokevirtual 140, 3, 141, 1, 0), (5, .istore_n 3, 1, 0, 0, 0), (6, .aload_n 0, 1, 0, 0, 0), (7, .iload_n 2, 1, 0, 0, 0), (8, .invokevirtual 140, 3, 141, 1, 0), (11, .istore 4, 2, 0, 0, 0), (13, .aload_n 0, 1, 0, 0, 0), (14, .getfield 23, 3, 9, 7, 0), (17, .iload_n 3, 1, 0, 0, 0), (18, .iaload, 1, 0, 0, 0), (19, .aload_n 0, 1, 0, 0, 0), (20, .getfield 23, 3, 9, 7, 0), (23, .iload 4, 2, 0, 0, 0), (25, .iaload, 1, 0, 0, 0), (26, .if_icmp .ne 54, 3, 0, 0, 0), (29, .aload_n 0, 1, 0, 0, 0), (30, .getfield 32, 3, 9, 10, 0), (33, .iload_n 3, 1, 0, 0, 0), (34, .iaload, 1, 0, 0, 0), (35, .aload_n 0, 1, 0, 0, 0), (36, .getfield 32, 3, 9, 10, 0), (39, .iload 4, 2, 0, 0, 0), (41, .iaload, 1, 0, 0, 0), (42, .if_icmp .ne 38, 3, 0, 0, 0), (45, .aload_n 0, 1, 0, 0, 0), (46, .iload_n 1, 1, 0, 0, 0), (47, .invokevirtual 199, 3, 160, 1, 0), (50, .iconst (-1), 1, 0, 0, 0), (51, .if_icmp .ne 7, 3, 0, 0, 0), (54, .iconst 1, 1, 0, 0, 0), (55, .goto 4, 3, 0, 0, 0), (58, .iconst 0, 1, 0, 0, 0), (59, .aload_n 0, 1, 0, 0, 0), (60, .iload_n 2, 1, 0, 0, 0), (61, .invokevirtual 199, 3, 160, 1, 0), (64, .iconst (-1), 1, 0, 0, 0), (65, .if_icmp .ne 7, 3, 0, 0, 0), (68, .iconst 1, 1, 0, 0, 0), (69, .goto 4, 3, 0, 0, 0), (72, .iconst 0, 1, 0, 0, 0), (73, .if_icmp .ne 7, 3, 0, 0, 0), (76, .iconst 1, 1, 0, 0, 0), (77, .goto 4, 3, 0, 0, 0), (80, .iconst 0, 1, 0, 0, 0), (81, .istore 5, 2, 0, 0, 0), (83, .iconst 0, 1, 0, 0, 0), (84, .istore 6, 2, 0, 0, 0), (86, .iload 6, 2, 0, 0, 0), (88, .aload_n 0, 1, 0, 0, 0), (89, .getfield 32, 3, 9, 10, 0), (92, .iload_n 3, 1, 0, 0, 0), (93, .iaload, 1, 0, 0, 0), (94, .if_icmp .ge 77, 3, 0, 0, 0), (97, .iload 5, 2, 0, 0, 0), (99, .ifCond .eq 72, 3, 0, 0, 0), (102, .aload_n 0, 1, 0, 0, 0), (103, .getfield 35, 3, 9, 11, 0), (106, .bipush 8, 2, 0, 0, 0), (108, .iload_n 3, 1, 0, 0, 0), (109, .imul, 1, 0, 0, 0), (110, .iload 6, 2, 0, 0, 0), (112, .iadd, 1, 0, 0, 0), (113, .iaload, 1, 0, 0, 0), (114, .aload_n 0, 1, 0, 0, 0), (115, .getfield 35, 3, 9, 11, 0), (118, .bipush 8, 2, 0, 0, 0), (120, .iload 4, 2, 0, 0, 0), (122, .imul, 1, 0, 0, 0), (123, .iload 6, 2, 0, 0, 0), (125, .iadd, 1, 0, 0, 0), (126, .iaload, 1, 0, 0, 0), (127, .if_icmp .ne 35, 3, 0, 0, 0), (130, .aload_n 0, 1, 0, 0, 0), (131, .getfield 38, 3, 9, 12, 0), (134, .bipush 8, 2, 0, 0, 0), (136, .iload_n 3, 1, 0, 0, 0), (137, .imul, 1, 0, 0, 0), (138, .iload 6, 2, 0, 0, 0), (140, .iadd, 1, 0, 0, 0), (141, .iaload, 1, 0, 0, 0), (142, .aload_n 0, 1, 0, 0, 0), (143, .getfield 38, 3, 9, 12, 0), (146, .bipush 8, 2, 0, 0, 0), (148, .iload 4, 2, 0, 0, 0), (150, .imul, 1, 0, 0, 0), (151, .iload 6, 2, 0, 0, 0), (153, .iadd, 1, 0, 0, 0), (154, .iaload, 1, 0, 0, 0), (155, .if_icmp .ne 7, 3, 0, 0, 0), (158, .iconst 1, 1, 0, 0, 0), (159, .goto 4, 3, 0, 0, 0), (162, .iconst 0, 1, 0, 0, 0), (163, .istore 5, 2, 0, 0, 0), (165, .iinc 6 1, 3, 0, 0, 0), (168, .goto (-82), 3, 0, 0, 0), (171, .iload 5, 2, 0, 0, 0), (173, .ireturn, 1, 0, 0, 0)]
def aD_X11_sameShape : ax_D := (yX11_sameShape, cX11_sameShape, 7, (some .boolean), [], [], at_X11_sameShape, [])
def at_X11_findShapes : List (Nat × ax_I) := [(0, .aload_n 0, 1, 0, 0, 0), (1, .iconst 0, 1, 0, 0, 0), (2, .putfield 205, 3, 9, 26, 0), (5, .iconst 0, 1, 0, 0, 0), (6, .istore_n 1, 1, 0, 0, 0), (7, .iload_n 1, 1, 0, 0, 0), (8, .aload_n 0, 1, 0, 0, 0), (9, .getfield 196, 3, 9, 23, 0), (12, .if_icmp .ge 102, 3, 0, 0, 0), (15, .aload_n 0, 1, 0, 0, 0), (16, .getfield 68, 3, 9, 24, 0), (19, .iload_n 1, 1, 0, 0, 0), (20, .iaload, 1, 0, 0, 0), (21, .istore_n 2, 1, 0, 0, 0), (22, .iconst (-1), 1, 0, 0, 0), (23, .istore_n 3, 1, 0, 0, 0), (24, .iconst 0, 1, 0, 0, 0), (25, .istore 4, 2, 0, 0, 0), (27, .iload 4, 2, 0, 0, 0), (29, .aload_n 0, 1, 0, 0, 0), (30, .getfield 205, 3, 9, 26, 0), (33, .if_icmp .ge 36, 3, 0, 0, 0), (36, .iload_n 3, 1, 0, 0, 0), (37, .iconst (-1), 1, 0, 0, 0), (38, .if_icmp .ne 31, 3, 0, 0, 0), (41, .aload_n 0, 1, 0, 0, 0), (42, .aload_n 0, 1, 0, 0, 0), (43, .getfield 77, 3, 9, 28, 0), (46, .iload 4, 2, 0, 0, 0), (48, .iaload, 1, 0, 0, 0), (49, .iload_n 2, 1, 0, 0, 0), (50, .invokevirtual 208, 3, 163, 2, 0), (53, .ifCond .eq 8, 3, 0, 0, 0), (56, .iload 4, 2, 0, 0, 0), (58, .goto 4, 3, 0, 0, 0), (61, .iconst (-1), 1, 0, 0, 0), (62, .istore_n 3, 1, 0, 0, 0), (63, .iinc 4 1, 3, 0, 0, 0), (66, .goto (-39), 3, 0, 0, 0), (69, .iload_n 3, 1, 0, 0, 0), (70, .iconst (-1), 1, 0, 0, 0), (71, .if_icmp .ne 28, 3, 0, 0, 0), (74, .aload_n 0, 1, 0, 0, 0), (75, .getfield 77, 3, 9, 28, 0), (78, .aload_n 0, 1, 0, 0, 0), (79, .getfield 205, 3, 9, 26, 0), (82, .iload_n 2, 1, 0, 0, 0), (83, .iastore, 1, 0, 0, 0), (84, .aload_n 0, 1, 0, 0, 0), (85, .getfield 205, 3, 9, 26, 0), (88, .istore_n 3, 1, 0, 0, 0), (89, .aload_n 0, 1, 0, 0, 0), (90, .dup, 1, 0, 0, 0), (91, .getfield 205, 3, 9, 26, 0), (94, .iconst 1, 1, 0, 0, 0), (95, .iadd, 1, 0, 0, 0), (96, .putfield 205, 3, 9, 26, 0), (99, .aload_n 0, 1, 0, 0, 0), (100, .getfield 74, 3, 9, 27, 0), (103, .iload_n 2, 1, 0, 0, 0), (104, .iload_n 3, 1, 0, 0, 0), (105, .iconst 1, 1, 0, 0, 0), (106, .iadd, 1, 0, 0, 0), (107, .iastore, 1, 0, 0, 0), (108, .iinc 1 1, 3, 0, 0, 0), (111, .goto (-104), 3, 0, 0, 0), (114, .return_, 1, 0, 0, 0)]
def aD_X11_findShapes : ax_D := (yX11_findShapes, cX11_findShapes, 5, none, [], [], at_X11_findShapes, [])
def at_X11_sameText : List (Nat × ax_I) := [(0, .aload_n 0, 1, 0, 0, 0), (1, .getfield 48, 3, 9, 15, 0), (4, .iload_n 1, 1, 0, 0, 0), (5, .iaload, 1, 0, 0, 0), (6, .aload_n 0, 1, 0, 0, 0), (7, .getfield 48, 3, 9, 15, 0), (10, .iload_n 2, 1, 0, 0, 0), (11, .iaload, 1, 0, 0, 0), (12, .if_icmp .ne 7, 3, 0, 0, 0), (15, .iconst 1, 1, 0, 0, 0), (16, .goto 4, 3, 0, 0, 0), (19, .iconst 0, 1, 0, 0, 0), (20, .istore_n 3, 1, 0, 0, 0), (21, .iconst 0, 1, 0, 0, 0), (22, .istore 4, 2, 0, 0, 0), (24, .iload 4, 2, 0, 0, 0), (26, .aload_n 0, 1, 0, 0, 0), (27, .getfield 48, 3, 9, 15, 0), (30, .iload_n 1, 1, 0, 0, 0), (31, .iaload, 1, 0, 0, 0), (32, .if_icmp .ge 50, 3, 0, 0, 0), (35, .iload_n 3, 1, 0, 0, 0), (36, .ifCond .eq 46, 3, 0, 0, 0), (39, .aload_n 0, 1, 0, 0, 0), (40, .getfield 58, 3, 9, 18, 0), (43, .aload_n 0, 1, 0, 0, 0), (44, .getfield 45, 3, 9, 14, 0), (47, .iload_n 1, 1, 0, 0, 0), (48, .iaload, 1, 0, 0, 0), (49, .iload 4, 2, 0, 0, 0), (51, .iadd, 1, 0, 0, 0), (52, .baload, 1, 0, 0, 0), (53, .aload_n 0, 1, 0, 0, 0), (54, .getfield 58, 3, 9, 18, 0), (57, .aload_n 0, 1, 0, 0, 0), (58, .getfield 45, 3, 9, 14, 0), (61, .iload_n 2, 1, 0, 0, 0), (62, .iaload, 1, 0, 0, 0), (63, .iload 4, 2, 0, 0, 0), (65, .iadd, 1, 0, 0, 0), (66, .baload, 1, 0, 0, 0), (67, .if_icmp .ne 7, 3, 0, 0, 0), (70, .iconst 1, 1, 0, 0, 0), (71, .goto 4, 3, 0, 0, 0), (74, .iconst 0, 1, 0, 0, 0), (75, .istore_n 3, 1, 0, 0, 0), (76, .iinc 4 1, 3, 0, 0, 0), (79, .goto (-55), 3, 0, 0, 0), (82, .iload_n 3, 1, 0, 0, 0), (83, .ireturn, 1, 0, 0, 0)]
def aD_X11_sameText : ax_D := (yX11_sameText, cX11_sameText, 5, (some .boolean), [], [], at_X11_sameText, [])
def at_X11_textOf : List (Nat × ax_I) := [(0, .iconst 0, 1, 0, 0, 0), (1, .istore_n 2, 1, 0, 0, 0), (2, .iload_n 2, 1, 0, 0, 0), (3, .aload_n 0, 1, 0, 0, 0), (4, .getfield 211, 3, 9, 29, 0), (7, .if_icmp .ge 25, 3, 0, 0, 0), (10, .aload_n 0, 1, 0, 0, 0), (11, .aload_n 0, 1, 0, 0, 0), (12, .getfield 80, 3, 9, 30, 0), (15, .iload_n 2, 1, 0, 0, 0), (16, .iaload, 1, 0, 0, 0), (17, .iload_n 1, 1, 0, 0, 0), (18, .invokevirtual 214, 3, 165, 2, 0), (21, .ifCond .eq 5, 3, 0, 0, 0), (24, .iload_n 2, 1, 0, 0, 0), (25, .ireturn, 1, 0, 0, 0), (26, .iinc 2 1, 3, 0, 0, 0), (29, .goto (-27), 3, 0, 0, 0), (32, .iconst (-1), 1, 0, 0, 0), (33, .ireturn, 1, 0, 0, 0)]
def aD_X11_textOf : ax_D := (yX11_textOf, cX11_textOf, 3, (some .int), [], [], at_X11_textOf, [])
def at_X11_findTexts : List (Nat × ax_I) := [(0, .aload_n 0, 1, 0, 0, 0), (1, .iconst 0, 1, 0, 0, 0), (2, .putfield 211, 3, 9, 29, 0), (5, .aload_n 0, 1, 0, 0, 0), (6, .iconst 0, 1, 0, 0, 0), (7, .putfield 217, 3, 9, 32, 0), (10, .iconst 0, 1, 0, 0, 0), (11, .istore_n 1, 1, 0, 0, 0), (12, .iload_n 1, 1, 0, 0, 0), (13, .aload_n 0, 1, 0, 0, 0), (14, .getfield 196, 3, 9, 23, 0), (17, .if_icmp .ge 116, 3, 0, 0, 0), (20, .aload_n 0, 1, 0, 0, 0), (21, .aload_n 0, 1, 0, 0, 0), (22, .getfield 68, 3, 9, 24, 0), (25, .iload_n 1, 1, 0, 0, 0), (26, .iaload, 1, 0, 0, 0), (27, .invokevirtual 140, 3, 141, 1, 0), (30, .istore_n 2, 1, 0, 0, 0), (31, .bipush 8, 2, 0, 0, 0), (33, .iload_n 2, 1, 0, 0, 0), (34, .imul, 1, 0, 0, 0), (35, .istore_n 3, 1, 0, 0, 0), (36, .iload_n 3, 1, 0, 0, 0), (37, .bipush 8, 2, 0, 0, 0), (39, .iload_n 2, 1, 0, 0, 0), (40, .imul, 1, 0, 0, 0), (41, .aload_n 0, 1, 0, 0, 0), (42, .getfield 32, 3, 9, 10, 0), (45, .iload_n 2, 1, 0, 0, 0), (46, .iaload, 1, 0, 0, 0), (47, .iadd, 1, 0, 0, 0), (48, .if_icmp .ge 79, 3, 0, 0, 0), (51, .aload_n 0, 1, 0, 0, 0), (52, .getfield 38, 3, 9, 12, 0), (55, .iload_n 3, 1, 0, 0, 0), (56, .iaload, 1, 0, 0, 0), (57, .bipush 14, 2, 0, 0, 0), (59, .if_icmp .ne 62, 3, 0, 0, 0), (62, .aload_n 0, 1, 0, 0, 0), (63, .iload_n 3, 1, 0, 0, 0), (64, .invokevirtual 220, 3, 166, 1, 0), (67, .iconst (-1), 1, 0, 0, 0), (68, .if_icmp .ne 53, 3, 0, 0, 0), (71, .aload_n 0, 1, 0, 0, 0), (72, .getfield 80, 3, 9, 30, 0), (75, .aload_n 0, 1, 0, 0, 0), (76, .getfield 211, 3, 9, 29, 0), (79, .iload_n 3, 1, 0, 0, 0), (80, .iastore, 1, 0, 0, 0), (81, .aload_n 0, 1, 0, 0, 0), (82, .getfield 83, 3, 9, 31, 0), (85, .aload_n 0, 1, 0, 0, 0), (86, .getfield 211, 3, 9, 29, 0), (89, .aload_n 0, 1, 0, 0, 0), (90, .getfield 217, 3, 9, 32, 0), (93, .iastore, 1, 0, 0, 0), (94, .aload_n 0, 1, 0, 0, 0), (95, .aload_n 0, 1, 0, 0, 0), (96, .getfield 217, 3, 9, 32, 0), (99, .aload_n 0, 1, 0, 0, 0), (100, .getfield 48, 3, 9, 15, 0), (103, .iload_n 3, 1, 0, 0, 0), (104, .iaload, 1, 0, 0, 0), (105, .iadd, 1, 0, 0, 0), (106, .iconst 1, 1, 0, 0, 0), (107, .iadd, 1, 0, 0, 0), (108, .putfield 217, 3, 9, 32, 0), (111, .aload_n 0, 1, 0, 0, 0), (112, .dup, 1, 0, 0, 0), (113, .getfield 211, 3, 9, 29, 0), (116, .iconst 1, 1, 0, 0, 0), (117, .iadd, 1, 0, 0, 0), (118, .putfield 211, 3, 9, 29, 0), (121, .iinc 3 1, 3, 0, 0, 0), (124, .goto (-88), 3, 0, 0, 0), (127, .iinc 1 1, 3, 0, 0, 0), (130, .goto (-118), 3, 0, 0, 0), (133, .return_, 1, 0, 0, 0)]
def aD_X11_findTexts : ax_D := (yX11_findTexts, cX11_findTexts, 4, none, [], [], at_X11_findTexts, [])
def at_X11_rowBytes : List (Nat × ax_I) := [(0, .iconst 1, 1, 0, 0, 0), (1, .istore_n 2, 1, 0, 0, 0), (2, .lload_n 0, 1, 0, 0, 0), (3, .lstore_n 3, 1, 0, 0, 0), (4, .lload_n 3, 1, 0, 0, 0), (5, .ldc2_w 223, 3, 0, 0, 127), (8, .lcmp, 1, 0, 0, 0), (9, .ifCond .le 15, 3, 0, 0, 0), (12, .lload_n 3, 1, 0, 0, 0), (13, .ldc2_w 225, 3, 0, 0, 128), (16, .ldiv, 1, 0, 0, 0), (17, .lstore_n 3, 1, 0, 0, 0), (18, .iinc 2 1, 3, 0, 0, 0), (21, .goto (-17), 3, 0, 0, 0), (24, .iload_n 2, 1, 0, 0, 0), (25, .ireturn, 1, 0, 0, 0)]
def aD_X11_rowBytes : ax_D := (yX11_rowBytes, cX11_rowBytes, 5, (some .int), [], [], at_X11_rowBytes, [])
def at_X11_signedBytes : List (Nat × ax_I) := [(0, .iconst 1, 1, 0, 0, 0), (1, .istore_n 2, 1, 0, 0, 0), (2, .lload_n 0, 1, 0, 0, 0), (3, .lstore_n 3, 1, 0, 0, 0), (4, .lload_n 3, 1, 0, 0, 0), (5, .ldc2_w 227, 3, 0, 0, (-64)), (8, .lcmp, 1, 0, 0, 0), (9, .ifCond .lt 11, 3, 0, 0, 0), (12, .lload_n 3, 1, 0, 0, 0), (13, .ldc2_w 229, 3, 0, 0, 63), (16, .lcmp, 1, 0, 0, 0), (17, .ifCond .le 14, 3, 0, 0, 0), (20, .lload_n 3, 1, 0, 0, 0), (21, .bipush 7, 2, 0, 0, 0), (23, .lshr, 1, 0, 0, 0), (24, .lstore_n 3, 1, 0, 0, 0), (25, .iinc 2 1, 3, 0, 0, 0), (28, .goto (-24), 3, 0, 0, 0), (31, .iload_n 2, 1, 0, 0, 0), (32, .ireturn, 1, 0, 0, 0)]
def aD_X11_signedBytes : ax_D := (yX11_signedBytes, cX11_signedBytes, 5, (some .int), [], [], at_X11_signedBytes, [])
def at_X11_sizeOf : List (Nat × ax_I) := [(0, .aload_n 0, 1, 0, 0, 0), (1, .getfield 38, 3, 9, 12, 0), (4, .iload_n 1, 1, 0, 0, 0), (5, .iaload, 1, 0, 0, 0), (6, .tableswitch 136 5 21 #[84, 86, 88, 111, 136, 111, 82, 82, 91, 86, 101, 136, 136, 136, 86, 136, 120], 82, 0, 0, 0), (88, .iconst 1, 1, 0, 0, 0), (89, .ireturn, 1, 0, 0, 0), (90, .iconst 2, 1, 0, 0, 0), (91, .ireturn, 1, 0, 0, 0), (92, .iconst 4, 1, 0, 0, 0), (93, .ireturn, 1, 0, 0, 0), (94, .bipush 8, 2, 0, 0, 0), (96, .ireturn, 1, 0, 0, 0), (97, .aload_n 0, 1, 0, 0, 0), (98, .getfield 41, 3, 9, 13, 0), (101, .iload_n 1, 1, 0, 0, 0), (102, .laload, 1, 0, 0, 0), (103, .invokestatic 231, 3, 169, 1, 0), (106, .ireturn, 1, 0, 0, 0), (107, .aload_n 0, 1, 0, 0, 0), (108, .getfield 41, 3, 9, 13, 0), (111, .iload_n 1, 1, 0, 0, 0), (112, .laload, 1, 0, 0, 0), (113, .invokestatic 235, 3, 168, 1, 0), (116, .ireturn, 1, 0, 0, 0), (117, .aload_n 0, 1, 0, 0, 0), (118, .getfield 48, 3, 9, 15, 0), (121, .iload_n 1, 1, 0, 0, 0), (122, .iaload, 1, 0, 0, 0), (123, .iconst 1, 1, 0, 0, 0), (124, .iadd, 1, 0, 0, 0), (125, .ireturn, 1, 0, 0, 0), (126, .aload_n 0, 1, 0, 0, 0), (127, .getfield 89, 3, 9, 34, 0), (130, .iload_n 1, 1, 0, 0, 0), (131, .sipush 3200, 3, 0, 0, 0), (134, .aload_n 0, 1, 0, 0, 0), (135, .getfield 137, 3, 9, 3, 0), (138, .imul, 1, 0, 0, 0), (139, .isub, 1, 0, 0, 0), (140, .iaload, 1, 0, 0, 0), (141, .ireturn, 1, 0, 0, 0), (142, .iconst 0, 1, 0, 0, 0), (143, .ireturn, 1, 0, 0, 0)]
def aD_X11_sizeOf : ax_D := (yX11_sizeOf, cX11_sizeOf, 2, (some .int), [], [], at_X11_sizeOf, [])
def at_X11_reckon : List (Nat × ax_I) := [(0, .iconst 0, 1, 0, 0, 0), (1, .istore_n 1, 1, 0, 0, 0), (2, .iconst 0, 1, 0, 0, 0), (3, .istore_n 2, 1, 0, 0, 0), (4, .iload_n 2, 1, 0, 0, 0), (5, .aload_n 0, 1, 0, 0, 0), (6, .getfield 196, 3, 9, 23, 0), (9, .if_icmp .ge 123, 3, 0, 0, 0), (12, .aload_n 0, 1, 0, 0, 0), (13, .getfield 68, 3, 9, 24, 0), (16, .iload_n 2, 1, 0, 0, 0), (17, .iaload, 1, 0, 0, 0), (18, .istore_n 3, 1, 0, 0, 0), (19, .aload_n 0, 1, 0, 0, 0), (20, .iload_n 3, 1, 0, 0, 0), (21, .invokevirtual 140, 3, 141, 1, 0), (24, .istore 4, 2, 0, 0, 0), (26, .aload_n 0, 1, 0, 0, 0), (27, .getfield 26, 3, 9, 8, 0), (30, .iload 4, 2, 0, 0, 0), (32, .iaload, 1, 0, 0, 0), (33, .iconst (-1), 1, 0, 0, 0), (34, .if_icmp .ne 8, 3, 0, 0, 0), (37, .bipush 11, 2, 0, 0, 0), (39, .goto 4, 3, 0, 0, 0), (42, .iload_n 1, 1, 0, 0, 0), (43, .istore_n 1, 1, 0, 0, 0), (44, .aload_n 0, 1, 0, 0, 0), (45, .getfield 86, 3, 9, 33, 0), (48, .iload_n 3, 1, 0, 0, 0), (49, .iload_n 1, 1, 0, 0, 0), (50, .iastore, 1, 0, 0, 0), (51, .iload_n 1, 1, 0, 0, 0), (52, .aload_n 0, 1, 0, 0, 0), (53, .getfield 74, 3, 9, 27, 0), (56, .iload_n 3, 1, 0, 0, 0), (57, .iaload, 1, 0, 0, 0), (58, .i2l, 1, 0, 0, 0), (59, .invokestatic 235, 3, 168, 1, 0), (62, .iadd, 1, 0, 0, 0), (63, .istore_n 1, 1, 0, 0, 0), (64, .bipush 8, 2, 0, 0, 0), (66, .iload 4, 2, 0, 0, 0), (68, .imul, 1, 0, 0, 0), (69, .istore 5, 2, 0, 0, 0), (71, .iload 5, 2, 0, 0, 0), (73, .bipush 8, 2, 0, 0, 0), (75, .iload 4, 2, 0, 0, 0), (77, .imul, 1, 0, 0, 0), (78, .aload_n 0, 1, 0, 0, 0), (79, .getfield 32, 3, 9, 10, 0), (82, .iload 4, 2, 0, 0, 0), (84, .iaload, 1, 0, 0, 0), (85, .iadd, 1, 0, 0, 0), (86, .if_icmp .ge 18, 3, 0, 0, 0), (89, .iload_n 1, 1, 0, 0, 0), (90, .aload_n 0, 1, 0, 0, 0), (91, .iload 5, 2, 0, 0, 0), (93, .invokevirtual 238, 3, 170, 1, 0), (96, .iadd, 1, 0, 0, 0), (97, .istore_n 1, 1, 0, 0, 0), (98, .iinc 5 1, 3, 0, 0, 0), (101, .goto (-30), 3, 0, 0, 0), (104, .iload_n 1, 1, 0, 0, 0), (105, .aload_n 0, 1, 0, 0, 0), (106, .getfield 71, 3, 9, 25, 0), (109, .iload_n 2, 1, 0, 0, 0), (110, .iaload, 1, 0, 0, 0), (111, .iadd, 1, 0, 0, 0), (112, .istore_n 1, 1, 0, 0, 0), (113, .aload_n 0, 1, 0, 0, 0), (114, .getfield 92, 3, 9, 35, 0), (117, .aload_n 0, 1, 0, 0, 0), (118, .getfield 29, 3, 9, 9, 0), (121, .iload 4, 2, 0, 0, 0), (123, .iaload, 1, 0, 0, 0), (124, .iload_n 1, 1, 0, 0, 0), (125, .iastore, 1, 0, 0, 0), (126, .iinc 2 1, 3, 0, 0, 0), (129, .goto (-125), 3, 0, 0, 0), (132, .return_, 1, 0, 0, 0)]
def aD_X11_reckon : ax_D := (yX11_reckon, cX11_reckon, 6, none, [], [], at_X11_reckon, [])
def at_X11_layOut : List (Nat × ax_I) := [(0, .aload_n 0, 1, 0, 0, 0), (1, .invokevirtual 241, 3, 162, 0, 0), (4, .aload_n 0, 1, 0, 0, 0), (5, .invokevirtual 244, 3, 164, 0, 0), (8, .aload_n 0, 1, 0, 0, 0), (9, .invokevirtual 247, 3, 167, 0, 0), (12, .iconst 0, 1, 0, 0, 0), (13, .istore_n 1, 1, 0, 0, 0), (14, .iload_n 1, 1, 0, 0, 0), (15, .sipush 3200, 3, 0, 0, 0), (18, .if_icmp .ge 16, 3, 0, 0, 0), (21, .aload_n 0, 1, 0, 0, 0), (22, .getfield 89, 3, 9, 34, 0), (25, .iload_n 1, 1, 0, 0, 0), (26, .iconst 1, 1, 0, 0, 0), (27, .iastore, 1, 0, 0, 0), (28, .iinc 1 1, 3, 0, 0, 0), (31, .goto (-17), 3, 0, 0, 0), (34, .iconst 1, 1, 0, 0, 0), (35, .istore_n 1, 1, 0, 0, 0), (36, .iload_n 1, 1, 0, 0, 0), (37, .ifCond .eq 164, 3, 0, 0, 0), (40, .aload_n 0, 1, 0, 0, 0), (41, .invokevirtual 250, 3, 171, 0, 0), (44, .iconst 0, 1, 0, 0, 0), (45, .istore_n 1, 1, 0, 0, 0), (46, .iconst 0, 1, 0, 0, 0), (47, .istore_n 2, 1, 0, 0, 0), (48, .iload_n 2, 1, 0, 0, 0), (49, .aload_n 0, 1, 0, 0, 0), (50, .getfield 13, 3, 9, 4, 0), (53, .aload_n 0, 1, 0, 0, 0), (54, .getfield 137, 3, 9, 3, 0), (57, .iaload, 1, 0, 0, 0), (58, .if_icmp .ge 140, 3, 0, 0, 0), (61, .aload_n 0, 1, 0, 0, 0), (62, .iload_n 2, 1, 0, 0, 0), (63, .invokevirtual 140, 3, 141, 1, 0), (66, .istore_n 3, 1, 0, 0, 0), (67, .bipush 8, 2, 0, 0, 0), (69, .iload_n 3, 1, 0, 0, 0), (70, .imul, 1, 0, 0, 0), (71, .istore 4, 2, 0, 0, 0), (73, .iload 4, 2, 0, 0, 0), (75, .bipush 8, 2, 0, 0, 0), (77, .iload_n 3, 1, 0, 0, 0), (78, .imul, 1, 0, 0, 0), (79, .aload_n 0, 1, 0, 0, 0), (80, .getfield 32, 3, 9, 10, 0), (83, .iload_n 3, 1, 0, 0, 0), (84, .iaload, 1, 0, 0, 0), (85, .iadd, 1, 0, 0, 0), (86, .if_icmp .ge 106, 3, 0, 0, 0), (89, .aload_n 0, 1, 0, 0, 0), (90, .getfield 38, 3, 9, 12, 0), (93, .iload 4, 2, 0, 0, 0), (95, .iaload, 1, 0, 0, 0), (96, .bipush 21, 2, 0, 0, 0), (98, .if_icmp .ne 88, 3, 0, 0, 0), (101, .aload_n 0, 1, 0, 0, 0), (102, .getfield 86, 3, 9, 33, 0), (105, .aload_n 0, 1, 0, 0, 0), (106, .getfield 41, 3, 9, 13, 0), (109, .iload 4, 2, 0, 0, 0), (111, .laload, 1, 0, 0, 0), (112, .l2i, 1, 0, 0, 0), (113, .iaload, 1, 0, 0, 0), (114, .i2l, 1, 0, 0, 0), (115, .invokestatic 235, 3, 168, 1, 0), (118, .istore 5, 2, 0, 0, 0), (120, .iload 4, 2, 0, 0, 0), (122, .sipush 3200, 3, 0, 0, 0), (125, .aload_n 0, 1, 0, 0, 0), (126, .getfield 137, 3, 9, 3, 0), (129, .imul, 1, 0, 0, 0), (130, .isub, 1, 0, 0, 0), (131, .istore 6, 2, 0, 0, 0), (133, .iload_n 1, 1, 0, 0, 0), (134, .ifCond .ne 15, 3, 0, 0, 0), (137, .iload 5, 2, 0, 0, 0), (139, .aload_n 0, 1, 0, 0, 0), (140, .getfield 89, 3, 9, 34, 0), (143, .iload 6, 2, 0, 0, 0), (145, .iaload, 1, 0, 0, 0), (146, .if_icmp .le 7, 3, 0, 0, 0), (149, .iconst 1, 1, 0, 0, 0), (150, .goto 4, 3, 0, 0, 0), (153, .iconst 0, 1, 0, 0, 0), (154, .istore_n 1, 1, 0, 0, 0), (155, .aload_n 0, 1, 0, 0, 0), (156, .getfield 89, 3, 9, 34, 0), (159, .iload 6, 2, 0, 0, 0), (161, .iload 5, 2, 0, 0, 0), (163, .aload_n 0, 1, 0, 0, 0), (164, .getfield 89, 3, 9, 34, 0), (167, .iload 6, 2, 0, 0, 0), (169, .iaload, 1, 0, 0, 0), (170, .if_icmp .le 8, 3, 0, 0, 0), (173, .iload 5, 2, 0, 0, 0), (175, .goto 10, 3, 0, 0, 0), (178, .aload_n 0, 1, 0, 0, 0), (179, .getfield 89, 3, 9, 34, 0), (182, .iload 6, 2, 0, 0, 0), (184, .iaload, 1, 0, 0, 0), (185, .iastore, 1, 0, 0, 0), (186, .iinc 4 1, 3, 0, 0, 0), (189, .goto (-116), 3, 0, 0, 0), (192, .iinc 2 1, 3, 0, 0, 0), (195, .goto (-147), 3, 0, 0, 0), (198, .goto (-162), 3, 0, 0, 0), (201, .return_, 1, 0, 0, 0)]
def aD_X11_layOut : ax_D := (yX11_layOut, cX11_layOut, 7, none, [], [], at_X11_layOut, [])
def at_X11_put : List (Nat × ax_I) := [(0, .aload_n 0, 1, 0, 0, 0), (1, .getfield 62, 3, 9, 19, 0), (4, .aload_n 0, 1, 0, 0, 0), (5, .getfield 253, 3, 9, 36, 0), (8, .iload_n 1, 1, 0, 0, 0), (9, .i2b, 1, 0, 0, 0), (10, .bastore, 1, 0, 0, 0), (11, .aload_n 0, 1, 0, 0, 0), (12, .dup, 1, 0, 0, 0), (13, .getfield 253, 3, 9, 36, 0), (16, .iconst 1, 1, 0, 0, 0), (17, .iadd, 1, 0, 0, 0), (18, .putfield 253, 3, 9, 36, 0), (21, .return_, 1, 0, 0, 0)]
def aD_X11_put : ax_D := (yX11_put, cX11_put, 2, none, [], [], at_X11_put, [])
def at_X11_putRow : List (Nat × ax_I) := [(0, .lload_n 1, 1, 0, 0, 0), (1, .lstore_n 3, 1, 0, 0, 0), (2, .lload_n 3, 1, 0, 0, 0), (3, .ldc2_w 223, 3, 0, 0, 127), (6, .lcmp, 1, 0, 0, 0), (7, .ifCond .le 26, 3, 0, 0, 0), (10, .aload_n 0, 1, 0, 0, 0), (11, .lload_n 3, 1, 0, 0, 0), (12, .ldc2_w 225, 3, 0, 0, 128), (15, .lrem, 1, 0, 0, 0), (16, .l2i, 1, 0, 0, 0), (17, .sipush 128, 3, 0, 0, 0), (20, .iadd, 1, 0, 0, 0), (21, .invokevirtual 256, 3, 173, 1, 0), (24, .lload_n 3, 1, 0, 0, 0), (25, .ldc2_w 225, 3, 0, 0, 128), (28, .ldiv, 1, 0, 0, 0), (29, .lstore_n 3, 1, 0, 0, 0), (30, .goto (-28), 3, 0, 0, 0), (33, .aload_n 0, 1, 0, 0, 0), (34, .lload_n 3, 1, 0, 0, 0), (35, .l2i, 1, 0, 0, 0), (36, .invokevirtual 256, 3, 173, 1, 0), (39, .return_, 1, 0, 0, 0)]
def aD_X11_putRow : ax_D := (yX11_putRow, cX11_putRow, 5, none, [], [], at_X11_putRow, [])
def at_X11_putSigned : List (Nat × ax_I) := [(0, .lload_n 1, 1, 0, 0, 0), (1, .lstore_n 3, 1, 0, 0, 0), (2, .lload_n 3, 1, 0, 0, 0), (3, .ldc2_w 227, 3, 0, 0, (-64)), (6, .lcmp, 1, 0, 0, 0), (7, .ifCond .lt 11, 3, 0, 0, 0), (10, .lload_n 3, 1, 0, 0, 0), (11, .ldc2_w 229, 3, 0, 0, 63), (14, .lcmp, 1, 0, 0, 0), (15, .ifCond .le 25, 3, 0, 0, 0), (18, .aload_n 0, 1, 0, 0, 0), (19, .lload_n 3, 1, 0, 0, 0), (20, .ldc2_w 223, 3, 0, 0, 127), (23, .land, 1, 0, 0, 0), (24, .l2i, 1, 0, 0, 0), (25, .sipush 128, 3, 0, 0, 0), (28, .iadd, 1, 0, 0, 0), (29, .invokevirtual 256, 3, 173, 1, 0), (32, .lload_n 3, 1, 0, 0, 0), (33, .bipush 7, 2, 0, 0, 0), (35, .lshr, 1, 0, 0, 0), (36, .lstore_n 3, 1, 0, 0, 0), (37, .goto (-35), 3, 0, 0, 0), (40, .aload_n 0, 1, 0, 0, 0), (41, .lload_n 3, 1, 0, 0, 0), (42, .ldc2_w 223, 3, 0, 0, 127), (45, .land, 1, 0, 0, 0), (46, .l2i, 1, 0, 0, 0), (47, .invokevirtual 256, 3, 173, 1, 0), (50, .return_, 1, 0, 0, 0)]
def aD_X11_putSigned : ax_D := (yX11_putSigned, cX11_putSigned, 5, none, [], [], at_X11_putSigned, [])
def at_X11_putNumber : List (Nat × ax_I) := [(0, .iconst 0, 1, 0, 0, 0), (1, .istore 4, 2, 0, 0, 0), (3, .iload 4, 2, 0, 0, 0), (5, .iload_n 3, 1, 0, 0, 0), (6, .if_icmp .ge 21, 3, 0, 0, 0), (9, .aload_n 0, 1, 0, 0, 0), (10, .lload_n 1, 1, 0, 0, 0), (11, .bipush 8, 2, 0, 0, 0), (13, .iload 4, 2, 0, 0, 0), (15, .imul, 1, 0, 0, 0), (16, .lshr, 1, 0, 0, 0), (17, .l2i, 1, 0, 0, 0), (18, .invokevirtual 256, 3, 173, 1, 0), (21, .iinc 4 1, 3, 0, 0, 0), (24, .goto (-21), 3, 0, 0, 0), (27, .return_, 1, 0, 0, 0)]
def aD_X11_putNumber : ax_D := (yX11_putNumber, cX11_putNumber, 5, none, [], [], at_X11_putNumber, [])
def at_X11_putText : List (Nat × ax_I) := [(0, .iconst 0, 1, 0, 0, 0), (1, .istore_n 2, 1, 0, 0, 0), (2, .iload_n 2, 1, 0, 0, 0), (3, .aload_n 0, 1, 0, 0, 0), (4, .getfield 48, 3, 9, 15, 0), (7, .iload_n 1, 1, 0, 0, 0), (8, .iaload, 1, 0, 0, 0), (9, .if_icmp .ge 26, 3, 0, 0, 0), (12, .aload_n 0, 1, 0, 0, 0), (13, .aload_n 0, 1, 0, 0, 0), (14, .getfield 58, 3, 9, 18, 0), (17, .aload_n 0, 1, 0, 0, 0), (18, .getfield 45, 3, 9, 14, 0), (21, .iload_n 1, 1, 0, 0, 0), (22, .iaload, 1, 0, 0, 0), (23, .iload_n 2, 1, 0, 0, 0), (24, .iadd, 1, 0, 0, 0), (25, .baload, 1, 0, 0, 0), (26, .invokevirtual 256, 3, 173, 1, 0), (29, .iinc 2 1, 3, 0, 0, 0), (32, .goto (-30), 3, 0, 0, 0), (35, .return_, 1, 0, 0, 0)]
def aD_X11_putText : ax_D := (yX11_putText, cX11_putText, 3, none, [], [], at_X11_putText, [])
def at_X11_putValue : List (Nat × ax_I) := [(0, .aload_n 0, 1, 0, 0, 0), (1, .getfield 38, 3, 9, 12, 0), (4, .iload_n 1, 1, 0, 0, 0), (5, .iaload, 1, 0, 0, 0), (6, .tableswitch 187 8 21 #[96, 187, 128, 187, 187, 70, 109, 83, 187, 187, 187, 146, 187, 167], 70, 0, 0, 0), (76, .aload_n 0, 1, 0, 0, 0), (77, .aload_n 0, 1, 0, 0, 0), (78, .getfield 41, 3, 9, 13, 0), (81, .iload_n 1, 1, 0, 0, 0), (82, .laload, 1, 0, 0, 0), (83, .invokevirtual 260, 3, 175, 1, 0), (86, .goto 122, 3, 0, 0, 0), (89, .aload_n 0, 1, 0, 0, 0), (90, .aload_n 0, 1, 0, 0, 0), (91, .getfield 41, 3, 9, 13, 0), (94, .iload_n 1, 1, 0, 0, 0), (95, .laload, 1, 0, 0, 0), (96, .invokevirtual 264, 3, 174, 1, 0), (99, .goto 109, 3, 0, 0, 0), (102, .aload_n 0, 1, 0, 0, 0), (103, .iload_n 1, 1, 0, 0, 0), (104, .invokevirtual 267, 3, 177, 1, 0), (107, .aload_n 0, 1, 0, 0, 0), (108, .iconst 0, 1, 0, 0, 0), (109, .invokevirtual 256, 3, 173, 1, 0), (112, .goto 96, 3, 0, 0, 0), (115, .aload_n 0, 1, 0, 0, 0), (116, .aload_n 0, 1, 0, 0, 0), (117, .getfield 83, 3, 9, 31, 0), (120, .aload_n 0, 1, 0, 0, 0), (121, .iload_n 1, 1, 0, 0, 0), (122, .invokevirtual 220, 3, 166, 1, 0), (125, .iaload, 1, 0, 0, 0), (126, .i2l, 1, 0, 0, 0), (127, .iconst 4, 1, 0, 0, 0), (128, .invokevirtual 270, 3, 176, 2, 0), (131, .goto 77, 3, 0, 0, 0), (134, .aload_n 0, 1, 0, 0, 0), (135, .aload_n 0, 1, 0, 0, 0), (136, .getfield 48, 3, 9, 15, 0), (139, .iload_n 1, 1, 0, 0, 0), (140, .iaload, 1, 0, 0, 0), (141, .invokevirtual 256, 3, 173, 1, 0), (144, .aload_n 0, 1, 0, 0, 0), (145, .iload_n 1, 1, 0, 0, 0), (146, .invokevirtual 267, 3, 177, 1, 0), (149, .goto 59, 3, 0, 0, 0), (152, .aload_n 0, 1, 0, 0, 0), (153, .aload_n 0, 1, 0, 0, 0), (154, .getfield 86, 3, 9, 33, 0), (157, .aload_n 0, 1, 0, 0, 0), (158, .getfield 41, 3, 9, 13, 0), (161, .iload_n 1, 1, 0, 0, 0), (162, .laload, 1, 0, 0, 0), (163, .l2i, 1, 0, 0, 0), (164, .iaload, 1, 0, 0, 0), (165, .i2l, 1, 0, 0, 0), (166, .iconst 4, 1, 0, 0, 0), (167, .invokevirtual 270, 3, 176, 2, 0), (170, .goto 38, 3, 0, 0, 0), (173, .aload_n 0, 1, 0, 0, 0), (174, .aload_n 0, 1, 0, 0, 0), (175, .getfield 86, 3, 9, 33, 0), (178, .aload_n 0, 1, 0, 0, 0), (179, .getfield 41, 3, 9, 13, 0), (182, .iload_n 1, 1, 0, 0, 0), (183, .laload, 1, 0, 0, 0), (184, .l2i, 1, 0, 0, 0), (185, .iaload, 1, 0, 0, 0), (186, .i2l, 1, 0, 0, 0), (187, .invokevirtual 264, 3, 174, 1, 0), (190, .goto 18, 3, 0, 0, 0), (193, .aload_n 0, 1, 0, 0, 0), (194, .aload_n 0, 1, 0, 0, 0), (195, .getfield 41, 3, 9, 13, 0), (198, .iload_n 1, 1, 0, 0, 0), (199, .laload, 1, 0, 0, 0), (200, .aload_n 0, 1, 0, 0, 0), (201, .iload_n 1, 1, 0, 0, 0), (202, .invokevirtual 238, 3, 170, 1, 0), (205, .invokevirtual 270, 3, 176, 2, 0), (208, .return_, 1, 0, 0, 0)]
def aD_X11_putValue : ax_D := (yX11_putValue, cX11_putValue, 2, none, [], [], at_X11_putValue, [])
def at_X11_shapeBytes : List (Nat × ax_I) := [(0, .iconst 1, 1, 0, 0, 0), (1, .istore_n 1, 1, 0, 0, 0), (2, .iconst 0, 1, 0, 0, 0), (3, .istore_n 2, 1, 0, 0, 0), (4, .iload_n 2, 1, 0, 0, 0), (5, .aload_n 0, 1, 0, 0, 0), (6, .getfield 205, 3, 9, 26, 0), (9, .if_icmp .ge 97, 3, 0, 0, 0), (12, .aload_n 0, 1, 0, 0, 0), (13, .aload_n 0, 1, 0, 0, 0), (14, .getfield 77, 3, 9, 28, 0), (17, .iload_n 2, 1, 0, 0, 0), (18, .iaload, 1, 0, 0, 0), (19, .invokevirtual 140, 3, 141, 1, 0), (22, .istore_n 3, 1, 0, 0, 0), (23, .iload_n 1, 1, 0, 0, 0), (24, .iload_n 2, 1, 0, 0, 0), (25, .iconst 1, 1, 0, 0, 0), (26, .iadd, 1, 0, 0, 0), (27, .i2l, 1, 0, 0, 0), (28, .invokestatic 235, 3, 168, 1, 0), (31, .iadd, 1, 0, 0, 0), (32, .aload_n 0, 1, 0, 0, 0), (33, .getfield 23, 3, 9, 7, 0), (36, .iload_n 3, 1, 0, 0, 0), (37, .iaload, 1, 0, 0, 0), (38, .i2l, 1, 0, 0, 0), (39, .invokestatic 235, 3, 168, 1, 0), (42, .iadd, 1, 0, 0, 0), (43, .iconst 3, 1, 0, 0, 0), (44, .iadd, 1, 0, 0, 0), (45, .istore_n 1, 1, 0, 0, 0), (46, .bipush 8, 2, 0, 0, 0), (48, .iload_n 3, 1, 0, 0, 0), (49, .imul, 1, 0, 0, 0), (50, .istore 4, 2, 0, 0, 0), (52, .iload 4, 2, 0, 0, 0), (54, .bipush 8, 2, 0, 0, 0), (56, .iload_n 3, 1, 0, 0, 0), (57, .imul, 1, 0, 0, 0), (58, .aload_n 0, 1, 0, 0, 0), (59, .getfield 32, 3, 9, 10, 0), (62, .iload_n 3, 1, 0, 0, 0), (63, .iaload, 1, 0, 0, 0), (64, .iadd, 1, 0, 0, 0), (65, .if_icmp .ge 35, 3, 0, 0, 0), (68, .iload_n 1, 1, 0, 0, 0), (69, .aload_n 0, 1, 0, 0, 0), (70, .getfield 35, 3, 9, 11, 0), (73, .iload 4, 2, 0, 0, 0), (75, .iaload, 1, 0, 0, 0), (76, .i2l, 1, 0, 0, 0), (77, .invokestatic 235, 3, 168, 1, 0), (80, .iadd, 1, 0, 0, 0), (81, .aload_n 0, 1, 0, 0, 0), (82, .getfield 38, 3, 9, 12, 0), (85, .iload 4, 2, 0, 0, 0), (87, .iaload, 1, 0, 0, 0), (88, .i2l, 1, 0, 0, 0), (89, .invokestatic 235, 3, 168, 1, 0), (92, .iadd, 1, 0, 0, 0), (93, .istore_n 1, 1, 0, 0, 0), (94, .iinc 4 1, 3, 0, 0, 0), (97, .goto (-45), 3, 0, 0, 0), (100, .iinc 2 1, 3, 0, 0, 0), (103, .goto (-99), 3, 0, 0, 0), (106, .iload_n 1, 1, 0, 0, 0), (107, .ireturn, 1, 0, 0, 0)]
def aD_X11_shapeBytes : ax_D := (yX11_shapeBytes, cX11_shapeBytes, 5, (some .int), [], [], at_X11_shapeBytes, [])
def at_X11_write : List (Nat × ax_I) := [(0, .aload_n 0, 1, 0, 0, 0), (1, .iconst 0, 1, 0, 0, 0), (2, .putfield 120, 3, 9, 0, 0), (5, .aload_n 0, 1, 0, 0, 0), (6, .invokevirtual 274, 3, 172, 0, 0), (9, .iconst 0, 1, 0, 0, 0), (10, .istore_n 1, 1, 0, 0, 0), (11, .iconst 0, 1, 0, 0, 0), (12, .istore_n 2, 1, 0, 0, 0), (13, .iload_n 2, 1, 0, 0, 0), (14, .aload_n 0, 1, 0, 0, 0), (15, .getfield 17, 3, 9, 5, 0), (18, .aload_n 0, 1, 0, 0, 0), (19, .getfield 137, 3, 9, 3, 0), (22, .iaload, 1, 0, 0, 0), (23, .if_icmp .ge 18, 3, 0, 0, 0), (26, .iload_n 1, 1, 0, 0, 0), (27, .aload_n 0, 1, 0, 0, 0), (28, .getfield 92, 3, 9, 35, 0), (31, .iload_n 2, 1, 0, 0, 0), (32, .iaload, 1, 0, 0, 0), (33, .iadd, 1, 0, 0, 0), (34, .istore_n 1, 1, 0, 0, 0), (35, .iinc 2 1, 3, 0, 0, 0), (38, .goto (-25), 3, 0, 0, 0), (41, .aload_n 0, 1, 0, 0, 0), (42, .invokevirtual 277, 3, 179, 0, 0), (45, .istore_n 2, 1, 0, 0, 0), (46, .iload_n 1, 1, 0, 0, 0), (47, .iconst 0, 1, 0, 0, 0), (48, .invokestatic 281, 3, 137, 1, 0), (51, .if_icmp .gt 22, 3, 0, 0, 0), (54, .iload_n 2, 1, 0, 0, 0), (55, .iconst 1, 1, 0, 0, 0), (56, .invokestatic 281, 3, 137, 1, 0), (59, .if_icmp .gt 14, 3, 0, 0, 0), (62, .aload_n 0, 1, 0, 0, 0), (63, .getfield 217, 3, 9, 32, 0), (66, .iconst 2, 1, 0, 0, 0), (67, .invokestatic 281, 3, 137, 1, 0), (70, .if_icmp .le 6, 3, 0, 0, 0), (73, .bipush (-2), 2, 0, 0, 0), (75, .ireturn, 1, 0, 0, 0), (76, .aload_n 0, 1, 0, 0, 0), (77, .getfield 65, 3, 9, 20, 0), (80, .iconst 0, 1, 0, 0, 0), (81, .iload_n 1, 1, 0, 0, 0), (82, .iastore, 1, 0, 0, 0), (83, .aload_n 0, 1, 0, 0, 0), (84, .getfield 65, 3, 9, 20, 0), (87, .iconst 1, 1, 0, 0, 0), (88, .iload_n 2, 1, 0, 0, 0), (89, .iastore, 1, 0, 0, 0), (90, .aload_n 0, 1, 0, 0, 0), (91, .getfield 65, 3, 9, 20, 0), (94, .iconst 2, 1, 0, 0, 0), (95, .aload_n 0, 1, 0, 0, 0), (96, .getfield 217, 3, 9, 32, 0), (99, .iastore, 1, 0, 0, 0), (100, .aload_n 0, 1, 0, 0, 0), (101, .iconst 2, 1, 0, 0, 0), (102, .invokestatic 284, 3, 136, 1, 0), (105, .putfield 253, 3, 9, 36, 0), (108, .iconst 0, 1, 0, 0, 0), (109, .istore_n 3, 1, 0, 0, 0), (110, .iload_n 3, 1, 0, 0, 0), (111, .aload_n 0, 1, 0, 0, 0), (112, .getfield 211, 3, 9, 29, 0), (115, .if_icmp .ge 24, 3, 0, 0, 0), (118, .aload_n 0, 1, 0, 0, 0), (119, .aload_n 0, 1, 0, 0, 0), (120, .getfield 80, 3, 9, 30, 0), (123, .iload_n 3, 1, 0, 0, 0), (124, .iaload, 1, 0, 0, 0), (125, .invokevirtual 267, 3, 177, 1, 0), (128, .aload_n 0, 1, 0, 0, 0), (129, .iconst 0, 1, 0, 0, 0), (130, .invokevirtual 256, 3, 173, 1, 0), (133, .iinc 3 1, 3, 0, 0, 0), (136, .goto (-26), 3, 0, 0, 0), (139, .aload_n 0, 1, 0, 0, 0), (140, .iconst 1, 1, 0, 0, 0), (141, .invokestatic 284, 3, 136, 1, 0), (144, .putfield 253, 3, 9, 36, 0), (147, .iconst 0, 1, 0, 0, 0), (148, .istore_n 3, 1, 0, 0, 0), (149, .iload_n 3, 1, 0, 0, 0), (150, .aload_n 0, 1, 0, 0, 0), (151, .getfield 205, 3, 9, 26, 0), (154, .if_icmp .ge 129, 3, 0, 0, 0), (157, .aload_n 0, 1, 0, 0, 0), (158, .aload_n 0, 1, 0, 0, 0), (159, .getfield 77, 3, 9, 28, 0), (162, .iload_n 3, 1, 0, 0, 0), (163, .iaload, 1, 0, 0, 0), (164, .invokevirtual 140, 3, 141, 1, 0), (167, .istore 4, 2, 0, 0, 0), (169, .aload_n 0, 1, 0, 0, 0), (170, .iload_n 3, 1, 0, 0, 0), (171, .iconst 1, 1, 0, 0, 0), (172, .iadd, 1, 0, 0, 0), (173, .i2l, 1, 0, 0, 0), (174, .invokevirtual 264, 3, 174, 1, 0), (177, .aload_n 0, 1, 0, 0, 0), (178, .aload_n 0, 1, 0, 0, 0), (179, .getfield 23, 3, 9, 7, 0), (182, .iload 4, 2, 0, 0, 0), (184, .iaload, 1, 0, 0, 0), (185, .i2l, 1, 0, 0, 0), (186, .invokevirtual 264, 3, 174, 1, 0), (189, .aload_n 0, 1, 0, 0, 0), (190, .aload_n 0, 1, 0, 0, 0), (191, .aload_n 0, 1, 0, 0, 0), (192, .getfield 77, 3, 9, 28, 0), (195, .iload_n 3, 1, 0, 0, 0), (196, .iaload, 1, 0, 0, 0), (197, .invokevirtual 199, 3, 160, 1, 0), (200, .iconst (-1), 1, 0, 0, 0), (201, .if_icmp .ne 7, 3, 0, 0, 0), (204, .iconst 0, 1, 0, 0, 0), (205, .goto 4, 3, 0, 0, 0), (208, .iconst 1, 1, 0, 0, 0), (209, .invokevirtual 256, 3, 173, 1, 0), (212, .bipush 8, 2, 0, 0, 0), (214, .iload 4, 2, 0, 0, 0), (216, .imul, 1, 0, 0, 0), (217, .istore 5, 2, 0, 0, 0), (219, .iload 5, 2, 0, 0, 0), (221, .bipush 8, 2, 0, 0, 0), (223, .iload 4, 2, 0, 0, 0), (225, .imul, 1, 0, 0, 0), (226, .aload_n 0, 1, 0, 0, 0), (227, .getfield 32, 3, 9, 10, 0), (230, .iload 4, 2, 0, 0, 0), (232, .iaload, 1, 0, 0, 0), (233, .iadd, 1, 0, 0, 0), (234, .if_icmp .ge 33, 3, 0, 0, 0), (237, .aload_n 0, 1, 0, 0, 0), (238, .aload_n 0, 1, 0, 0, 0), (239, .getfield 35, 3, 9, 11, 0), (242, .iload 5, 2, 0, 0, 0), (244, .iaload, 1, 0, 0, 0), (245, .i2l, 1, 0, 0, 0), (246, .invokevirtual 264, 3, 174, 1, 0), (249, .aload_n 0, 1, 0, 0, 0), (250, .aload_n 0, 1, 0, 0, 0), (251, .getfield 38, 3, 9, 12, 0), (254, .iload 5, 2, 0, 0, 0), (256, .iaload, 1, 0, 0, 0), (257, .i2l, 1, 0, 0, 0), (258, .invokevirtual 264, 3, 174, 1, 0), (261, .iinc 5 1, 3, 0, 0, 0), (264, .goto (-45), 3, 0, 0, 0), (267, .aload_n 0, 1, 0, 0, 0), (268, .iconst 0, 1, 0, 0, 0), (269, .invokevirtual 256, 3, 173, 1, 0), (272, .aload_n 0, 1, 0, 0, 0), (273, .iconst 0, 1, 0, 0, 0), (274, .invokevirtual 256, 3, 173, 1, 0), (277, .iinc 3 1, 3, 0, 0, 0), (280, .goto (-131), 3, 0, 0, 0), (283, .aload_n 0, 1, 0, 0, 0), (284, .iconst 0, 1, 0, 0, 0), (285, .invokevirtual 256, 3, 173, 1, 0), (288, .aload_n 0, 1, 0, 0, 0), (289, .iconst 0, 1, 0, 0, 0), (290, .putfield 253, 3, 9, 36, 0), (293, .iconst 0, 1, 0, 0, 0), (294, .istore_n 3, 1, 0, 0, 0), (295, .iload_n 3, 1, 0, 0, 0), (296, .aload_n 0, 1, 0, 0, 0), (297, .getfield 196, 3, 9, 23, 0), (300, .if_icmp .ge 150, 3, 0, 0, 0), (303, .aload_n 0, 1, 0, 0, 0), (304, .getfield 68, 3, 9, 24, 0), (307, .iload_n 3, 1, 0, 0, 0), (308, .iaload, 1, 0, 0, 0), (309, .istore 4, 2, 0, 0, 0), (311, .aload_n 0, 1, 0, 0, 0), (312, .iload 4, 2, 0, 0, 0), (314, .invokevirtual 140, 3, 141, 1, 0), (317, .istore 5, 2, 0, 0, 0), (319, .aload_n 0, 1, 0, 0, 0), (320, .getfield 26, 3, 9, 8, 0), (323, .iload 5, 2, 0, 0, 0), (325, .iaload, 1, 0, 0, 0), (326, .iconst (-1), 1, 0, 0, 0), (327, .if_icmp .ne 43, 3, 0, 0, 0), (330, .aload_n 0, 1, 0, 0, 0), (331, .aload_n 0, 1, 0, 0, 0), (332, .getfield 92, 3, 9, 35, 0), (335, .aload_n 0, 1, 0, 0, 0), (336, .getfield 29, 3, 9, 9, 0), (339, .iload 5, 2, 0, 0, 0), (341, .iaload, 1, 0, 0, 0), (342, .iaload, 1, 0, 0, 0), (343, .iconst 4, 1, 0, 0, 0), (344, .isub, 1, 0, 0, 0), (345, .i2l, 1, 0, 0, 0), (346, .iconst 4, 1, 0, 0, 0), (347, .invokevirtual 270, 3, 176, 2, 0), (350, .aload_n 0, 1, 0, 0, 0), (351, .ldc2_w 287, 3, 0, 0, 4), (354, .iconst 2, 1, 0, 0, 0), (355, .invokevirtual 270, 3, 176, 2, 0), (358, .aload_n 0, 1, 0, 0, 0), (359, .lconst 0, 1, 0, 0, 0), (360, .iconst 4, 1, 0, 0, 0), (361, .invokevirtual 270, 3, 176, 2, 0), (364, .aload_n 0, 1, 0, 0, 0), (365, .bipush 8, 2, 0, 0, 0), (367, .invokevirtual 256, 3, 173, 1, 0), (370, .aload_n 0, 1, 0, 0, 0), (371, .aload_n 0, 1, 0, 0, 0), (372, .getfield 74, 3, 9, 27, 0), (375, .iload 4, 2, 0, 0, 0), (377, .iaload, 1, 0, 0, 0), (378, .i2l, 1, 0, 0, 0), (379, .invokevirtual 264, 3, 174, 1, 0), (382, .bipush 8, 2, 0, 0, 0), (384, .iload 5, 2, 0, 0, 0), (386, .imul, 1, 0, 0, 0), (387, .istore 6, 2, 0, 0, 0), (389, .iload 6, 2, 0, 0, 0), (391, .bipush 8, 2, 0, 0, 0), (393, .iload 5, 2, 0, 0, 0), (395, .imul, 1, 0, 0, 0), (396, .aload_n 0, 1, 0, 0, 0), (397, .getfield 32, 3, 9, 10, 0), (400, .iload 5, 2, 0, 0, 0), (402, .iaload, 1, 0, 0, 0), (403, .iadd, 1, 0, 0, 0), (404, .if_icmp .ge 15, 3, 0, 0, 0), (407, .aload_n 0, 1, 0, 0, 0), (408, .iload 6, 2, 0, 0, 0), (410, .invokevirtual 289, 3, 178, 1, 0), (413, .iinc 6 1, 3, 0, 0, 0), (416, .goto (-27), 3, 0, 0, 0), (419, .iconst 0, 1, 0, 0, 0), (420, .istore 6, 2, 0, 0, 0), (422, .iload 6, 2, 0, 0, 0), (424, .aload_n 0, 1, 0, 0, 0), (425, .getfield 71, 3, 9, 25, 0), (428, .iload_n 3, 1, 0, 0, 0), (429, .iaload, 1, 0, 0, 0), (430, .if_icmp .ge 14, 3, 0, 0, 0), (433, .aload_n 0, 1, 0, 0, 0), (434, .iconst 0, 1, 0, 0, 0), (435, .invokevirtual 256, 3, 173, 1, 0), (438, .iinc 6 1, 3, 0, 0, 0), (441, .goto (-19), 3, 0, 0, 0), (444, .iinc 3 1, 3, 0, 0, 0), (447, .goto (-152), 3, 0, 0, 0), (450, .aload_n 0, 1, 0, 0, 0), (451, .getfield 65, 3, 9, 20, 0), (454, .iconst 0, 1, 0, 0, 0), (455, .iaload, 1, 0, 0, 0), (456, .aload_n 0, 1, 0, 0, 0), (457, .getfield 65, 3, 9, 20, 0), (460, .iconst 1, 1, 0, 0, 0), (461, .iaload, 1, 0, 0, 0), (462, .iadd, 1, 0, 0, 0), (463, .aload_n 0, 1, 0, 0, 0), (464, .getfield 65, 3, 9, 20, 0), (467, .iconst 2, 1, 0, 0, 0), (468, .iaload, 1, 0, 0, 0), (469, .iadd, 1, 0, 0, 0), (470, .ireturn, 1, 0, 0, 0)]
def aD_X11_write : ax_D := (yX11_write, cX11_write, 7, (some .int), [], [], at_X11_write, [])
def at_X11_isSection : List (Nat × ax_I) := [(0, .iload_n 0, 1, 0, 0, 0), (1, .i2l, 1, 0, 0, 0), (2, .lconst 0, 1, 0, 0, 0), (3, .ldc2_w 292, 3, 0, 0, 2), (6, .invokestatic 131, 3, 134, 3, 0), (9, .ireturn, 1, 0, 0, 0)]
def aD_X11_isSection : ax_D := (yX11_isSection, cX11_isSection, 1, (some .boolean), [], [], at_X11_isSection, [])
def at_X11_size : List (Nat × ax_I) := [(0, .aload_n 0, 1, 0, 0, 0), (1, .iload_n 1, 1, 0, 0, 0), (2, .invokestatic 294, 3, 181, 1, 0), (5, .invokevirtual 127, 3, 135, 1, 0), (8, .ifCond .eq 12, 3, 0, 0, 0), (11, .aload_n 0, 1, 0, 0, 0), (12, .getfield 65, 3, 9, 20, 0), (15, .iload_n 1, 1, 0, 0, 0), (16, .iaload, 1, 0, 0, 0), (17, .goto 4, 3, 0, 0, 0), (20, .iconst 0, 1, 0, 0, 0), (21, .ireturn, 1, 0, 0, 0)]
def aD_X11_size : ax_D := (yX11_size, cX11_size, 2, (some .int), [], [], at_X11_size, [])
def at_X11_isOctet : List (Nat × ax_I) := [(0, .iload_n 1, 1, 0, 0, 0), (1, .invokestatic 294, 3, 181, 1, 0), (4, .ifCond .eq 25, 3, 0, 0, 0), (7, .iload_n 2, 1, 0, 0, 0), (8, .i2l, 1, 0, 0, 0), (9, .lconst 0, 1, 0, 0, 0), (10, .aload_n 0, 1, 0, 0, 0), (11, .getfield 65, 3, 9, 20, 0), (14, .iload_n 1, 1, 0, 0, 0), (15, .iaload, 1, 0, 0, 0), (16, .iconst 1, 1, 0, 0, 0), (17, .isub, 1, 0, 0, 0), (18, .i2l, 1, 0, 0, 0), (19, .invokestatic 131, 3, 134, 3, 0), (22, .ifCond .eq 7, 3, 0, 0, 0), (25, .iconst 1, 1, 0, 0, 0), (26, .goto 4, 3, 0, 0, 0), (29, .iconst 0, 1, 0, 0, 0), (30, .ireturn, 1, 0, 0, 0)]
def aD_X11_isOctet : ax_D := (yX11_isOctet, cX11_isOctet, 3, (some .boolean), [], [], at_X11_isOctet, [])
def at_X11_octet : List (Nat × ax_I) := [(0, .aload_n 0, 1, 0, 0, 0), (1, .aload_n 0, 1, 0, 0, 0), (2, .iload_n 1, 1, 0, 0, 0), (3, .iload_n 2, 1, 0, 0, 0), (4, .invokevirtual 297, 3, 183, 2, 0), (7, .invokevirtual 127, 3, 135, 1, 0), (10, .ifCond .eq 21, 3, 0, 0, 0), (13, .aload_n 0, 1, 0, 0, 0), (14, .getfield 62, 3, 9, 19, 0), (17, .iload_n 1, 1, 0, 0, 0), (18, .invokestatic 284, 3, 136, 1, 0), (21, .iload_n 2, 1, 0, 0, 0), (22, .iadd, 1, 0, 0, 0), (23, .baload, 1, 0, 0, 0), (24, .sipush 255, 3, 0, 0, 0), (27, .iand, 1, 0, 0, 0), (28, .goto 4, 3, 0, 0, 0), (31, .iconst 0, 1, 0, 0, 0), (32, .ireturn, 1, 0, 0, 0)]
def aD_X11_octet : ax_D := (yX11_octet, cX11_octet, 3, (some .int), [], [], at_X11_octet, [])
def at_X11_load : List (Nat × ax_I) := [(0, .aload_n 0, 1, 0, 0, 0), (1, .iload_n 1, 1, 0, 0, 0), (2, .invokestatic 294, 3, 181, 1, 0), (5, .ifCond .ne 7, 3, 0, 0, 0), (8, .iconst 1, 1, 0, 0, 0), (9, .goto 19, 3, 0, 0, 0), (12, .aload_n 0, 1, 0, 0, 0), (13, .getfield 124, 3, 9, 2, 0), (16, .iload_n 1, 1, 0, 0, 0), (17, .invokestatic 281, 3, 137, 1, 0), (20, .if_icmp .le 7, 3, 0, 0, 0), (23, .iconst 2, 1, 0, 0, 0), (24, .goto 4, 3, 0, 0, 0), (27, .iconst 0, 1, 0, 0, 0), (28, .putfield 120, 3, 9, 0, 0), (31, .aload_n 0, 1, 0, 0, 0), (32, .getfield 120, 3, 9, 0, 0), (35, .ifCond .le 5, 3, 0, 0, 0), (38, .iconst 0, 1, 0, 0, 0), (39, .ireturn, 1, 0, 0, 0), (40, .iconst 0, 1, 0, 0, 0), (41, .istore_n 2, 1, 0, 0, 0), (42, .iload_n 2, 1, 0, 0, 0), (43, .aload_n 0, 1, 0, 0, 0), (44, .getfield 124, 3, 9, 2, 0), (47, .if_icmp .ge 26, 3, 0, 0, 0), (50, .aload_n 0, 1, 0, 0, 0), (51, .getfield 62, 3, 9, 19, 0), (54, .iload_n 1, 1, 0, 0, 0), (55, .invokestatic 284, 3, 136, 1, 0), (58, .iload_n 2, 1, 0, 0, 0), (59, .iadd, 1, 0, 0, 0), (60, .aload_n 0, 1, 0, 0, 0), (61, .getfield 7, 3, 9, 1, 0), (64, .iload_n 2, 1, 0, 0, 0), (65, .baload, 1, 0, 0, 0), (66, .bastore, 1, 0, 0, 0), (67, .iinc 2 1, 3, 0, 0, 0), (70, .goto (-28), 3, 0, 0, 0), (73, .aload_n 0, 1, 0, 0, 0), (74, .getfield 65, 3, 9, 20, 0), (77, .iload_n 1, 1, 0, 0, 0), (78, .aload_n 0, 1, 0, 0, 0), (79, .getfield 124, 3, 9, 2, 0), (82, .iastore, 1, 0, 0, 0), (83, .aload_n 0, 1, 0, 0, 0), (84, .iconst 0, 1, 0, 0, 0), (85, .putfield 124, 3, 9, 2, 0), (88, .aload_n 0, 1, 0, 0, 0), (89, .getfield 65, 3, 9, 20, 0), (92, .iload_n 1, 1, 0, 0, 0), (93, .iaload, 1, 0, 0, 0), (94, .ireturn, 1, 0, 0, 0)]
def aD_X11_load : ax_D := (yX11_load, cX11_load, 3, (some .int), [], [], at_X11_load, [])
def at_X11_alter : List (Nat × ax_I) := [(0, .aload_n 0, 1, 0, 0, 0), (1, .aload_n 0, 1, 0, 0, 0), (2, .iload_n 1, 1, 0, 0, 0), (3, .iload_n 2, 1, 0, 0, 0), (4, .invokevirtual 297, 3, 183, 2, 0), (7, .invokevirtual 127, 3, 135, 1, 0), (10, .ifCond .ne 5, 3, 0, 0, 0), (13, .iconst 0, 1, 0, 0, 0), (14, .ireturn, 1, 0, 0, 0), (15, .iload_n 1, 1, 0, 0, 0), (16, .invokestatic 284, 3, 136, 1, 0), (19, .iload_n 2, 1, 0, 0, 0), (20, .iadd, 1, 0, 0, 0), (21, .istore 4, 2, 0, 0, 0), (23, .aload_n 0, 1, 0, 0, 0), (24, .getfield 62, 3, 9, 19, 0), (27, .iload 4, 2, 0, 0, 0), (29, .aload_n 0, 1, 0, 0, 0), (30, .getfield 62, 3, 9, 19, 0), (33, .iload 4, 2, 0, 0, 0), (35, .baload, 1, 0, 0, 0), (36, .iload_n 3, 1, 0, 0, 0), (37, .ixor, 1, 0, 0, 0), (38, .i2b, 1, 0, 0, 0), (39, .bastore, 1, 0, 0, 0), (40, .aload_n 0, 1, 0, 0, 0), (41, .getfield 62, 3, 9, 19, 0), (44, .iload 4, 2, 0, 0, 0), (46, .baload, 1, 0, 0, 0), (47, .sipush 255, 3, 0, 0, 0), (50, .iand, 1, 0, 0, 0), (51, .ireturn, 1, 0, 0, 0)]
def aD_X11_alter : ax_D := (yX11_alter, cX11_alter, 5, (some .int), [], [], at_X11_alter, [])
def at_X11_bad : List (Nat × ax_I) := [(0, .aload_n 0, 1, 0, 0, 0), (1, .getfield 300, 3, 9, 37, 0), (4, .iconst (-1), 1, 0, 0, 0), (5, .if_icmp .ne 18, 3, 0, 0, 0), (8, .aload_n 0, 1, 0, 0, 0), (9, .iload_n 3, 1, 0, 0, 0), (10, .putfield 300, 3, 9, 37, 0), (13, .aload_n 0, 1, 0, 0, 0), (14, .iload_n 1, 1, 0, 0, 0), (15, .putfield 303, 3, 9, 38, 0), (18, .aload_n 0, 1, 0, 0, 0), (19, .iload_n 2, 1, 0, 0, 0), (20, .putfield 306, 3, 9, 39, 0), (23, .return_, 1, 0, 0, 0)]
def aD_X11_bad : ax_D := (yX11_bad, cX11_bad, 4, none, [], [], at_X11_bad, [])
def at_X11_byteAt : List (Nat × ax_I) := [(0, .aload_n 0, 1, 0, 0, 0), (1, .getfield 62, 3, 9, 19, 0), (4, .aload_n 0, 1, 0, 0, 0), (5, .getfield 309, 3, 9, 42, 0), (8, .invokestatic 284, 3, 136, 1, 0), (11, .iload_n 1, 1, 0, 0, 0), (12, .iadd, 1, 0, 0, 0), (13, .baload, 1, 0, 0, 0), (14, .sipush 255, 3, 0, 0, 0), (17, .iand, 1, 0, 0, 0), (18, .ireturn, 1, 0, 0, 0)]
def aD_X11_byteAt : ax_D := (yX11_byteAt, cX11_byteAt, 2, (some .int), [], [], at_X11_byteAt, [])
def at_X11_has : List (Nat × ax_I) := [(0, .aload_n 0, 1, 0, 0, 0), (1, .getfield 300, 3, 9, 37, 0), (4, .iconst (-1), 1, 0, 0, 0), (5, .if_icmp .ne 29, 3, 0, 0, 0), (8, .aload_n 0, 1, 0, 0, 0), (9, .getfield 312, 3, 9, 40, 0), (12, .iload_n 1, 1, 0, 0, 0), (13, .iadd, 1, 0, 0, 0), (14, .aload_n 0, 1, 0, 0, 0), (15, .getfield 315, 3, 9, 41, 0), (18, .if_icmp .le 16, 3, 0, 0, 0), (21, .aload_n 0, 1, 0, 0, 0), (22, .iconst 1, 1, 0, 0, 0), (23, .aload_n 0, 1, 0, 0, 0), (24, .getfield 309, 3, 9, 42, 0), (27, .aload_n 0, 1, 0, 0, 0), (28, .getfield 315, 3, 9, 41, 0), (31, .invokevirtual 318, 3, 187, 3, 0), (34, .aload_n 0, 1, 0, 0, 0), (35, .getfield 300, 3, 9, 37, 0), (38, .iconst (-1), 1, 0, 0, 0), (39, .if_icmp .ne 7, 3, 0, 0, 0), (42, .iconst 1, 1, 0, 0, 0), (43, .goto 4, 3, 0, 0, 0), (46, .iconst 0, 1, 0, 0, 0), (47, .ireturn, 1, 0, 0, 0)]
def aD_X11_has : ax_D := (yX11_has, cX11_has, 2, (some .boolean), [], [], at_X11_has, [])
def at_X11_fixed : List (Nat × ax_I) := [(0, .aload_n 0, 1, 0, 0, 0), (1, .iload_n 1, 1, 0, 0, 0), (2, .invokevirtual 322, 3, 189, 1, 0), (5, .ifCond .ne 5, 3, 0, 0, 0), (8, .lconst 0, 1, 0, 0, 0), (9, .lreturn, 1, 0, 0, 0), (10, .lconst 0, 1, 0, 0, 0), (11, .lstore_n 2, 1, 0, 0, 0), (12, .iload_n 1, 1, 0, 0, 0), (13, .iconst 1, 1, 0, 0, 0), (14, .isub, 1, 0, 0, 0), (15, .istore 4, 2, 0, 0, 0), (17, .iload 4, 2, 0, 0, 0), (19, .ifCond .lt 27, 3, 0, 0, 0), (22, .lload_n 2, 1, 0, 0, 0), (23, .bipush 8, 2, 0, 0, 0), (25, .lshl, 1, 0, 0, 0), (26, .aload_n 0, 1, 0, 0, 0), (27, .aload_n 0, 1, 0, 0, 0), (28, .getfield 312, 3, 9, 40, 0), (31, .iload 4, 2, 0, 0, 0), (33, .iadd, 1, 0, 0, 0), (34, .invokevirtual 325, 3, 188, 1, 0), (37, .i2l, 1, 0, 0, 0), (38, .lor, 1, 0, 0, 0), (39, .lstore_n 2, 1, 0, 0, 0), (40, .iinc 4 (-1), 3, 0, 0, 0), (43, .goto (-26), 3, 0, 0, 0), (46, .aload_n 0, 1, 0, 0, 0), (47, .aload_n 0, 1, 0, 0, 0), (48, .getfield 312, 3, 9, 40, 0), (51, .iload_n 1, 1, 0, 0, 0), (52, .iadd, 1, 0, 0, 0), (53, .putfield 312, 3, 9, 40, 0), (56, .lload_n 2, 1, 0, 0, 0), (57, .lreturn, 1, 0, 0, 0)]
def aD_X11_fixed : ax_D := (yX11_fixed, cX11_fixed, 5, (some .long), [], [], at_X11_fixed, [])
def at_X11_row : List (Nat × ax_I) := [(0, .aload_n 0, 1, 0, 0, 0), (1, .getfield 312, 3, 9, 40, 0), (4, .istore 4, 2, 0, 0, 0), (6, .lconst 0, 1, 0, 0, 0), (7, .lstore 5, 2, 0, 0, 0), (9, .iconst 0, 1, 0, 0, 0), (10, .istore 7, 2, 0, 0, 0), (12, .iload 7, 2, 0, 0, 0), (14, .bipush 10, 2, 0, 0, 0), (16, .if_icmp .ge 173, 3, 0, 0, 0), (19, .aload_n 0, 1, 0, 0, 0), (20, .iconst 1, 1, 0, 0, 0), (21, .invokevirtual 322, 3, 189, 1, 0), (24, .ifCond .ne 5, 3, 0, 0, 0), (27, .lconst 0, 1, 0, 0, 0), (28, .lreturn, 1, 0, 0, 0), (29, .aload_n 0, 1, 0, 0, 0), (30, .aload_n 0, 1, 0, 0, 0), (31, .getfield 312, 3, 9, 40, 0), (34, .invokevirtual 325, 3, 188, 1, 0), (37, .istore 8, 2, 0, 0, 0), (39, .aload_n 0, 1, 0, 0, 0), (40, .dup, 1, 0, 0, 0), (41, .getfield 312, 3, 9, 40, 0), (44, .iconst 1, 1, 0, 0, 0), (45, .iadd, 1, 0, 0, 0), (46, .putfield 312, 3, 9, 40, 0), (49, .iload 7, 2, 0, 0, 0), (51, .bipush 9, 2, 0, 0, 0), (53, .if_icmp .ne 36, 3, 0, 0, 0), (56, .iload 8, 2, 0, 0, 0), (58, .ifCond .eq 31, 3, 0, 0, 0), (61, .iload 8, 2, 0, 0, 0), (63, .iload_n 1, 1, 0, 0, 0), (64, .ifCond .eq 8, 3, 0, 0, 0), (67, .bipush 127, 2, 0, 0, 0), (69, .goto 4, 3, 0, 0, 0), (72, .iconst 1, 1, 0, 0, 0), (73, .if_icmp .eq 16, 3, 0, 0, 0), (76, .aload_n 0, 1, 0, 0, 0), (77, .iconst 4, 1, 0, 0, 0), (78, .aload_n 0, 1, 0, 0, 0), (79, .getfield 309, 3, 9, 42, 0), (82, .iload 4, 2, 0, 0, 0), (84, .invokevirtual 318, 3, 187, 3, 0), (87, .lconst 0, 1, 0, 0, 0), (88, .lreturn, 1, 0, 0, 0), (89, .lload 5, 2, 0, 0, 0), (91, .iload 8, 2, 0, 0, 0), (93, .i2l, 1, 0, 0, 0), (94, .ldc2_w 223, 3, 0, 0, 127), (97, .land, 1, 0, 0, 0), (98, .bipush 7, 2, 0, 0, 0), (100, .iload 7, 2, 0, 0, 0), (102, .imul, 1, 0, 0, 0), (103, .lshl, 1, 0, 0, 0), (104, .lor, 1, 0, 0, 0), (105, .lstore 5, 2, 0, 0, 0), (107, .iload 8, 2, 0, 0, 0), (109, .sipush 128, 3, 0, 0, 0), (112, .if_icmp .ge 71, 3, 0, 0, 0), (115, .iload_n 1, 1, 0, 0, 0), (116, .ifCond .eq 35, 3, 0, 0, 0), (119, .iload 8, 2, 0, 0, 0), (121, .bipush 64, 2, 0, 0, 0), (123, .iand, 1, 0, 0, 0), (124, .ifCond .eq 27, 3, 0, 0, 0), (127, .iload 7, 2, 0, 0, 0), (129, .bipush 9, 2, 0, 0, 0), (131, .if_icmp .ge 20, 3, 0, 0, 0), (134, .lload 5, 2, 0, 0, 0), (136, .ldc2_w 328, 3, 0, 0, (-1)), (139, .bipush 7, 2, 0, 0, 0), (141, .iload 7, 2, 0, 0, 0), (143, .imul, 1, 0, 0, 0), (144, .bipush 7, 2, 0, 0, 0), (146, .iadd, 1, 0, 0, 0), (147, .lshl, 1, 0, 0, 0), (148, .lor, 1, 0, 0, 0), (149, .lstore 5, 2, 0, 0, 0), (151, .iload_n 1, 1, 0, 0, 0), (152, .ifCond .ne 28, 3, 0, 0, 0), (155, .lload 5, 2, 0, 0, 0), (157, .lconst 0, 1, 0, 0, 0), (158, .lcmp, 1, 0, 0, 0), (159, .ifCond .lt 10, 3, 0, 0, 0), (162, .lload 5, 2, 0, 0, 0), (164, .lload_n 2, 1, 0, 0, 0), (165, .lcmp, 1, 0, 0, 0), (166, .ifCond .le 14, 3, 0, 0, 0), (169, .aload_n 0, 1, 0, 0, 0), (170, .iconst 4, 1, 0, 0, 0), (171, .aload_n 0, 1, 0, 0, 0), (172, .getfield 309, 3, 9, 42, 0), (175, .iload 4, 2, 0, 0, 0), (177, .invokevirtual 318, 3, 187, 3, 0), (180, .lload 5, 2, 0, 0, 0), (182, .lreturn, 1, 0, 0, 0), (183, .iinc 7 1, 3, 0, 0, 0), (186, .goto (-174), 3, 0, 0, 0), (189, .aload_n 0, 1, 0, 0, 0), (190, .iconst 4, 1, 0, 0, 0), (191, .aload_n 0, 1, 0, 0, 0), (192, .getfield 309, 3, 9, 42, 0), (195, .iload 4, 2, 0, 0, 0), (197, .invokevirtual 318, 3, 187, 3, 0), (200, .lconst 0, 1, 0, 0, 0), (201, .lreturn, 1, 0, 0, 0)]
def aD_X11_row : ax_D := (yX11_row, cX11_row, 9, (some .long), [], [], at_X11_row, [])
def at_X11_readTable : List (Nat × ax_I) := [(0, .aload_n 0, 1, 0, 0, 0), (1, .iconst 1, 1, 0, 0, 0), (2, .putfield 309, 3, 9, 42, 0), (5, .aload_n 0, 1, 0, 0, 0), (6, .iload_n 1, 1, 0, 0, 0), (7, .putfield 312, 3, 9, 40, 0), (10, .aload_n 0, 1, 0, 0, 0), (11, .aload_n 0, 1, 0, 0, 0), (12, .getfield 65, 3, 9, 20, 0), (15, .iconst 1, 1, 0, 0, 0), (16, .iaload, 1, 0, 0, 0), (17, .putfield 315, 3, 9, 41, 0), (20, .aload_n 0, 1, 0, 0, 0), (21, .iconst 0, 1, 0, 0, 0), (22, .putfield 330, 3, 9, 43, 0), (25, .iconst 1, 1, 0, 0, 0), (26, .istore_n 2, 1, 0, 0, 0), (27, .iload_n 2, 1, 0, 0, 0), (28, .ifCond .eq 19, 3, 0, 0, 0), (31, .aload_n 0, 1, 0, 0, 0), (32, .getfield 300, 3, 9, 37, 0), (35, .iconst (-1), 1, 0, 0, 0), (36, .if_icmp .ne 11, 3, 0, 0, 0), (39, .aload_n 0, 1, 0, 0, 0), (40, .invokevirtual 333, 3, 193, 0, 0), (43, .istore_n 2, 1, 0, 0, 0), (44, .goto (-17), 3, 0, 0, 0), (47, .return_, 1, 0, 0, 0)]
def aD_X11_readTable : ax_D := (yX11_readTable, cX11_readTable, 3, none, [], [], at_X11_readTable, [])
def at_X11_readShape : List (Nat × ax_I) := [(0, .aload_n 0, 1, 0, 0, 0), (1, .getfield 312, 3, 9, 40, 0), (4, .istore_n 1, 1, 0, 0, 0), (5, .aload_n 0, 1, 0, 0, 0), (6, .iconst 0, 1, 0, 0, 0), (7, .ldc2_w 337, 3, 0, 0, 2147483647), (10, .invokevirtual 339, 3, 191, 2, 0), (13, .l2i, 1, 0, 0, 0), (14, .istore_n 2, 1, 0, 0, 0), (15, .aload_n 0, 1, 0, 0, 0), (16, .getfield 300, 3, 9, 37, 0), (19, .iconst (-1), 1, 0, 0, 0), (20, .if_icmp .ne 7, 3, 0, 0, 0), (23, .iload_n 2, 1, 0, 0, 0), (24, .ifCond .ne 5, 3, 0, 0, 0), (27, .iconst 0, 1, 0, 0, 0), (28, .ireturn, 1, 0, 0, 0), (29, .iconst 0, 1, 0, 0, 0), (30, .istore_n 3, 1, 0, 0, 0), (31, .iload_n 3, 1, 0, 0, 0), (32, .aload_n 0, 1, 0, 0, 0), (33, .getfield 330, 3, 9, 43, 0), (36, .if_icmp .ge 26, 3, 0, 0, 0), (39, .aload_n 0, 1, 0, 0, 0), (40, .getfield 95, 3, 9, 44, 0), (43, .iload_n 3, 1, 0, 0, 0), (44, .iaload, 1, 0, 0, 0), (45, .iload_n 2, 1, 0, 0, 0), (46, .if_icmp .ne 10, 3, 0, 0, 0), (49, .aload_n 0, 1, 0, 0, 0), (50, .iconst 3, 1, 0, 0, 0), (51, .iconst 1, 1, 0, 0, 0), (52, .iload_n 1, 1, 0, 0, 0), (53, .invokevirtual 318, 3, 187, 3, 0), (56, .iinc 3 1, 3, 0, 0, 0), (59, .goto (-28), 3, 0, 0, 0), (62, .aload_n 0, 1, 0, 0, 0), (63, .getfield 330, 3, 9, 43, 0), (66, .sipush 200, 3, 0, 0, 0), (69, .if_icmp .ne 10, 3, 0, 0, 0), (72, .aload_n 0, 1, 0, 0, 0), (73, .iconst 3, 1, 0, 0, 0), (74, .iconst 1, 1, 0, 0, 0), (75, .iload_n 1, 1, 0, 0, 0), (76, .invokevirtual 318, 3, 187, 3, 0), (79, .aload_n 0, 1, 0, 0, 0), (80, .getfield 300, 3, 9, 37, 0), (83, .iconst (-1), 1, 0, 0, 0), (84, .if_icmp .eq 5, 3, 0, 0, 0), (87, .iconst 0, 1, 0, 0, 0), (88, .ireturn, 1, 0, 0, 0), (89, .aload_n 0, 1, 0, 0, 0), (90, .getfield 95, 3, 9, 44, 0), (93, .aload_n 0, 1, 0, 0, 0), (94, .getfield 330, 3, 9, 43, 0), (97, .iload_n 2, 1, 0, 0, 0), (98, .iastore, 1, 0, 0, 0), (99, .aload_n 0, 1, 0, 0, 0), (100, .getfield 312, 3, 9, 40, 0), (103, .istore_n 1, 1, 0, 0, 0), (104, .aload_n 0, 1, 0, 0, 0), (105, .iconst 0, 1, 0, 0, 0), (106, .ldc2_w 337, 3, 0, 0, 2147483647), (109, .invokevirtual 339, 3, 191, 2, 0), (112, .l2i, 1, 0, 0, 0), (113, .istore_n 3, 1, 0, 0, 0), (114, .aload_n 0, 1, 0, 0, 0), (115, .getfield 300, 3, 9, 37, 0), (118, .iconst (-1), 1, 0, 0, 0), (119, .if_icmp .ne 17, 3, 0, 0, 0), (122, .iload_n 3, 1, 0, 0, 0), (123, .invokestatic 144, 3, 140, 1, 0), (126, .ifCond .ne 10, 3, 0, 0, 0), (129, .aload_n 0, 1, 0, 0, 0), (130, .iconst 3, 1, 0, 0, 0), (131, .iconst 1, 1, 0, 0, 0), (132, .iload_n 1, 1, 0, 0, 0), (133, .invokevirtual 318, 3, 187, 3, 0), (136, .aload_n 0, 1, 0, 0, 0), (137, .getfield 98, 3, 9, 45, 0), (140, .aload_n 0, 1, 0, 0, 0), (141, .getfield 330, 3, 9, 43, 0), (144, .iload_n 3, 1, 0, 0, 0), (145, .iastore, 1, 0, 0, 0), (146, .aload_n 0, 1, 0, 0, 0), (147, .getfield 312, 3, 9, 40, 0), (150, .istore_n 1, 1, 0, 0, 0), (151, .aload_n 0, 1, 0, 0, 0), (152, .iconst 1, 1, 0, 0, 0), (153, .invokevirtual 343, 3, 190, 1, 0), (156, .l2i, 1, 0, 0, 0), (157, .istore 4, 2, 0, 0, 0), (159, .aload_n 0, 1, 0, 0, 0), (160, .getfield 300, 3, 9, 37, 0), (163, .iconst (-1), 1, 0, 0, 0), (164, .if_icmp .ne 16, 3, 0, 0, 0), (167, .iload 4, 2, 0, 0, 0), (169, .iconst 1, 1, 0, 0, 0), (170, .if_icmp .le 10, 3, 0, 0, 0), (173, .aload_n 0, 1, 0, 0, 0), (174, .iconst 3, 1, 0, 0, 0), (175, .iconst 1, 1, 0, 0, 0), (176, .iload_n 1, 1, 0, 0, 0), (177, .invokevirtual 318, 3, 187, 3, 0), (180, .aload_n 0, 1, 0, 0, 0), (181, .getfield 101, 3, 9, 46, 0), (184, .aload_n 0, 1, 0, 0, 0), (185, .getfield 330, 3, 9, 43, 0), (188, .iload 4, 2, 0, 0, 0), (190, .iconst 1, 1, 0, 0, 0), (191, .if_icmp .ne 7, 3, 0, 0, 0), (194, .iconst 1, 1, 0, 0, 0), (195, .goto 4, 3, 0, 0, 0), (198, .iconst 0, 1, 0, 0, 0), (199, .bastore, 1, 0, 0, 0), (200, .aload_n 0, 1, 0, 0, 0), (201, .getfield 105, 3, 9, 47, 0), (204, .aload_n 0, 1, 0, 0, 0), (205, .getfield 330, 3, 9, 43, 0), (208, .iconst 0, 1, 0, 0, 0), (209, .iastore, 1, 0, 0, 0), (210, .iconst 1, 1, 0, 0, 0), (211, .istore 5, 2, 0, 0, 0), (213, .iload 5, 2, 0, 0, 0), (215, .ifCond .eq 20, 3, 0, 0, 0), (218, .aload_n 0, 1, 0, 0, 0), (219, .getfield 300, 3, 9, 37, 0), (222, .iconst (-1), 1, 0, 0, 0), (223, .if_icmp .ne 12, 3, 0, 0, 0), (226, .aload_n 0, 1, 0, 0, 0), (227, .invokevirtual 347, 3, 194, 0, 0), (230, .istore 5, 2, 0, 0, 0), (232, .goto (-19), 3, 0, 0, 0), (235, .aload_n 0, 1, 0, 0, 0), (236, .dup, 1, 0, 0, 0), (237, .getfield 330, 3, 9, 43, 0), (240, .iconst 1, 1, 0, 0, 0), (241, .iadd, 1, 0, 0, 0), (242, .putfield 330, 3, 9, 43, 0), (245, .iconst 1, 1, 0, 0, 0), (246, .ireturn, 1, 0, 0, 0)]
def aD_X11_readShape : ax_D := (yX11_readShape, cX11_readShape, 6, (some .boolean), [], [], at_X11_readShape, [])
def at_X11_readPair : List (Nat × ax_I) := [(0, .aload_n 0, 1, 0, 0, 0), (1, .getfield 312, 3, 9, 40, 0), (4, .istore_n 1, 1, 0, 0, 0), (5, .aload_n 0, 1, 0, 0, 0), (6, .iconst 0, 1, 0, 0, 0), (7, .ldc2_w 337, 3, 0, 0, 2147483647), (10, .invokevirtual 339, 3, 191, 2, 0), (13, .l2i, 1, 0, 0, 0), (14, .istore_n 2, 1, 0, 0, 0), (15, .aload_n 0, 1, 0, 0, 0), (16, .getfield 300, 3, 9, 37, 0), (19, .iconst (-1), 1, 0, 0, 0), (20, .if_icmp .eq 5, 3, 0, 0, 0), (23, .iconst 0, 1, 0, 0, 0), (24, .ireturn, 1, 0, 0, 0), (25, .aload_n 0, 1, 0, 0, 0), (26, .getfield 105, 3, 9, 47, 0), (29, .aload_n 0, 1, 0, 0, 0), (30, .getfield 330, 3, 9, 43, 0), (33, .iaload, 1, 0, 0, 0), (34, .istore_n 3, 1, 0, 0, 0), (35, .iload_n 2, 1, 0, 0, 0), (36, .ifCond .le 64, 3, 0, 0, 0), (39, .iconst 0, 1, 0, 0, 0), (40, .istore 4, 2, 0, 0, 0), (42, .iload 4, 2, 0, 0, 0), (44, .iload_n 3, 1, 0, 0, 0), (45, .if_icmp .ge 35, 3, 0, 0, 0), (48, .aload_n 0, 1, 0, 0, 0), (49, .getfield 108, 3, 9, 48, 0), (52, .bipush 8, 2, 0, 0, 0), (54, .aload_n 0, 1, 0, 0, 0), (55, .getfield 330, 3, 9, 43, 0), (58, .imul, 1, 0, 0, 0), (59, .iload 4, 2, 0, 0, 0), (61, .iadd, 1, 0, 0, 0), (62, .iaload, 1, 0, 0, 0), (63, .iload_n 2, 1, 0, 0, 0), (64, .if_icmp .ne 10, 3, 0, 0, 0), (67, .aload_n 0, 1, 0, 0, 0), (68, .iconst 3, 1, 0, 0, 0), (69, .iconst 1, 1, 0, 0, 0), (70, .iload_n 1, 1, 0, 0, 0), (71, .invokevirtual 318, 3, 187, 3, 0), (74, .iinc 4 1, 3, 0, 0, 0), (77, .goto (-35), 3, 0, 0, 0), (80, .iload_n 2, 1, 0, 0, 0), (81, .sipush 16383, 3, 0, 0, 0), (84, .if_icmp .gt 9, 3, 0, 0, 0), (87, .iload_n 3, 1, 0, 0, 0), (88, .bipush 8, 2, 0, 0, 0), (90, .if_icmp .ne 10, 3, 0, 0, 0), (93, .aload_n 0, 1, 0, 0, 0), (94, .iconst 3, 1, 0, 0, 0), (95, .iconst 1, 1, 0, 0, 0), (96, .iload_n 1, 1, 0, 0, 0), (97, .invokevirtual 318, 3, 187, 3, 0), (100, .aload_n 0, 1, 0, 0, 0), (101, .getfield 300, 3, 9, 37, 0), (104, .iconst (-1), 1, 0, 0, 0), (105, .if_icmp .eq 5, 3, 0, 0, 0), (108, .iconst 0, 1, 0, 0, 0), (109, .ireturn, 1, 0, 0, 0), (110, .aload_n 0, 1, 0, 0, 0), (111, .getfield 312, 3, 9, 40, 0), (114, .istore 4, 2, 0, 0, 0), (116, .aload_n 0, 1, 0, 0, 0), (117, .iconst 0, 1, 0, 0, 0), (118, .ldc2_w 337, 3, 0, 0, 2147483647), (121, .invokevirtual 339, 3, 191, 2, 0), (124, .lstore 5, 2, 0, 0, 0), (126, .aload_n 0, 1, 0, 0, 0), (127, .getfield 300, 3, 9, 37, 0), (130, .iconst (-1), 1, 0, 0, 0), (131, .if_icmp .ne 14, 3, 0, 0, 0), (134, .iload_n 2, 1, 0, 0, 0), (135, .ifCond .ne 12, 3, 0, 0, 0), (138, .lload 5, 2, 0, 0, 0), (140, .lconst 0, 1, 0, 0, 0), (141, .lcmp, 1, 0, 0, 0), (142, .ifCond .ne 5, 3, 0, 0, 0), (145, .iconst 0, 1, 0, 0, 0), (146, .ireturn, 1, 0, 0, 0), (147, .iload_n 2, 1, 0, 0, 0), (148, .ifCond .ne 10, 3, 0, 0, 0), (151, .aload_n 0, 1, 0, 0, 0), (152, .iconst 3, 1, 0, 0, 0), (153, .iconst 1, 1, 0, 0, 0), (154, .iload_n 1, 1, 0, 0, 0), (155, .invokevirtual 318, 3, 187, 3, 0), (158, .lload 5, 2, 0, 0, 0), (160, .invokestatic 350, 3, 150, 1, 0), (163, .ifCond .ne 11, 3, 0, 0, 0), (166, .aload_n 0, 1, 0, 0, 0), (167, .iconst 3, 1, 0, 0, 0), (168, .iconst 1, 1, 0, 0, 0), (169, .iload 4, 2, 0, 0, 0), (171, .invokevirtual 318, 3, 187, 3, 0), (174, .aload_n 0, 1, 0, 0, 0), (175, .getfield 300, 3, 9, 37, 0), (178, .iconst (-1), 1, 0, 0, 0), (179, .if_icmp .eq 5, 3, 0, 0, 0), (182, .iconst 0, 1, 0, 0, 0), (183, .ireturn, 1, 0, 0, 0), (184, .aload_n 0, 1, 0, 0, 0), (185, .getfield 108, 3, 9, 48, 0), (188, .bipush 8, 2, 0, 0, 0), (190, .aload_n 0, 1, 0, 0, 0), (191, .getfield 330, 3, 9, 43, 0), (194, .imul, 1, 0, 0, 0), (195, .iload_n 3, 1, 0, 0, 0), (196, .iadd, 1, 0, 0, 0), (197, .iload_n 2, 1, 0, 0, 0), (198, .iastore, 1, 0, 0, 0), (199, .aload_n 0, 1, 0, 0, 0), (200, .getfield 111, 3, 9, 49, 0), (203, .bipush 8, 2, 0, 0, 0), (205, .aload_n 0, 1, 0, 0, 0), (206, .getfield 330, 3, 9, 43, 0), (209, .imul, 1, 0, 0, 0), (210, .iload_n 3, 1, 0, 0, 0), (211, .iadd, 1, 0, 0, 0), (212, .lload 5, 2, 0, 0, 0), (214, .l2i, 1, 0, 0, 0), (215, .iastore, 1, 0, 0, 0), (216, .aload_n 0, 1, 0, 0, 0), (217, .getfield 105, 3, 9, 47, 0), (220, .aload_n 0, 1, 0, 0, 0), (221, .getfield 330, 3, 9, 43, 0), (224, .dup2, 1, 0, 0, 0), (225, .iaload, 1, 0, 0, 0), (226, .iconst 1, 1, 0, 0, 0), (227, .iadd, 1, 0, 0, 0), (228, .iastore, 1, 0, 0, 0), (229, .iconst 1, 1, 0, 0, 0), (230, .ireturn, 1, 0, 0, 0)]
def aD_X11_readPair : ax_D := (yX11_readPair, cX11_readPair, 7, (some .boolean), [], [], at_X11_readPair, [])
def at_X11_shapeNumbered : List (Nat × ax_I) := [(0, .iconst 0, 1, 0, 0, 0), (1, .istore_n 3, 1, 0, 0, 0), (2, .iload_n 3, 1, 0, 0, 0), (3, .aload_n 0, 1, 0, 0, 0), (4, .getfield 330, 3, 9, 43, 0), (7, .if_icmp .ge 23, 3, 0, 0, 0), (10, .aload_n 0, 1, 0, 0, 0), (11, .getfield 95, 3, 9, 44, 0), (14, .iload_n 3, 1, 0, 0, 0), (15, .iaload, 1, 0, 0, 0), (16, .i2l, 1, 0, 0, 0), (17, .lload_n 1, 1, 0, 0, 0), (18, .lcmp, 1, 0, 0, 0), (19, .ifCond .ne 5, 3, 0, 0, 0), (22, .iload_n 3, 1, 0, 0, 0), (23, .ireturn, 1, 0, 0, 0), (24, .iinc 3 1, 3, 0, 0, 0), (27, .goto (-25), 3, 0, 0, 0), (30, .iconst (-1), 1, 0, 0, 0), (31, .ireturn, 1, 0, 0, 0)]
def aD_X11_shapeNumbered : ax_D := (yX11_shapeNumbered, cX11_shapeNumbered, 4, (some .int), [], [], at_X11_shapeNumbered, [])
def at_X11_textIs : List (Nat × ax_I) := [(0, .aload_n 0, 1, 0, 0, 0), (1, .getfield 45, 3, 9, 14, 0), (4, .iload_n 1, 1, 0, 0, 0), (5, .iload_n 2, 1, 0, 0, 0), (6, .iastore, 1, 0, 0, 0), (7, .aload_n 0, 1, 0, 0, 0), (8, .getfield 48, 3, 9, 15, 0), (11, .iload_n 1, 1, 0, 0, 0), (12, .iload_n 3, 1, 0, 0, 0), (13, .iastore, 1, 0, 0, 0), (14, .return_, 1, 0, 0, 0)]
def aD_X11_textIs : ax_D := (yX11_textIs, cX11_textIs, 4, none, [], [], at_X11_textIs, [])
def at_X11_keep : List (Nat × ax_I) := [(0, .ldc 195, 2, 0, 0, 90000), (2, .aload_n 0, 1, 0, 0, 0), (3, .getfield 137, 3, 9, 3, 0), (6, .imul, 1, 0, 0, 0), (7, .aload_n 0, 1, 0, 0, 0), (8, .getfield 54, 3, 9, 17, 0), (11, .aload_n 0, 1, 0, 0, 0), (12, .getfield 137, 3, 9, 3, 0), (15, .iaload, 1, 0, 0, 0), (16, .iadd, 1, 0, 0, 0), (17, .istore_n 3, 1, 0, 0, 0), (18, .iconst 0, 1, 0, 0, 0), (19, .istore 4, 2, 0, 0, 0), (21, .iload 4, 2, 0, 0, 0), (23, .iload_n 2, 1, 0, 0, 0), (24, .if_icmp .ge 27, 3, 0, 0, 0), (27, .aload_n 0, 1, 0, 0, 0), (28, .getfield 58, 3, 9, 18, 0), (31, .iload_n 3, 1, 0, 0, 0), (32, .iload 4, 2, 0, 0, 0), (34, .iadd, 1, 0, 0, 0), (35, .aload_n 0, 1, 0, 0, 0), (36, .getfield 62, 3, 9, 19, 0), (39, .iload_n 1, 1, 0, 0, 0), (40, .iload 4, 2, 0, 0, 0), (42, .iadd, 1, 0, 0, 0), (43, .baload, 1, 0, 0, 0), (44, .bastore, 1, 0, 0, 0), (45, .iinc 4 1, 3, 0, 0, 0), (48, .goto (-27), 3, 0, 0, 0), (51, .aload_n 0, 1, 0, 0, 0), (52, .getfield 54, 3, 9, 17, 0), (55, .aload_n 0, 1, 0, 0, 0), (56, .getfield 137, 3, 9, 3, 0), (59, .aload_n 0, 1, 0, 0, 0), (60, .getfield 54, 3, 9, 17, 0), (63, .aload_n 0, 1, 0, 0, 0), (64, .getfield 137, 3, 9, 3, 0), (67, .iaload, 1, 0, 0, 0), (68, .iload_n 2, 1, 0, 0, 0), (69, .iadd, 1, 0, 0, 0), (70, .iastore, 1, 0, 0, 0), (71, .iload_n 3, 1, 0, 0, 0), (72, .ireturn, 1, 0, 0, 0)]
def aD_X11_keep : ax_D := (yX11_keep, cX11_keep, 5, (some .int), [], [], at_X11_keep, [])
def at_X11_readText8 : List (Nat × ax_I) := [(0, .aload_n 0, 1, 0, 0, 0), (1, .getfield 312, 3, 9, 40, 0), (4, .istore_n 2, 1, 0, 0, 0), (5, .iconst 0, 1, 0, 0, 0), (6, .istore_n 3, 1, 0, 0, 0), (7, .aload_n 0, 1, 0, 0, 0), (8, .getfield 300, 3, 9, 37, 0), (11, .iconst (-1), 1, 0, 0, 0), (12, .if_icmp .ne 85, 3, 0, 0, 0), (15, .aload_n 0, 1, 0, 0, 0), (16, .iconst 1, 1, 0, 0, 0), (17, .invokevirtual 322, 3, 189, 1, 0), (20, .ifCond .ne 4, 3, 0, 0, 0), (23, .return_, 1, 0, 0, 0), (24, .aload_n 0, 1, 0, 0, 0), (25, .aload_n 0, 1, 0, 0, 0), (26, .getfield 312, 3, 9, 40, 0), (29, .invokevirtual 325, 3, 188, 1, 0), (32, .ifCond .ne 49, 3, 0, 0, 0), (35, .iload_n 3, 1, 0, 0, 0), (36, .sipush 255, 3, 0, 0, 0), (39, .if_icmp .le 14, 3, 0, 0, 0), (42, .aload_n 0, 1, 0, 0, 0), (43, .bipush 6, 2, 0, 0, 0), (45, .iconst 0, 1, 0, 0, 0), (46, .iload_n 2, 1, 0, 0, 0), (47, .invokevirtual 318, 3, 187, 3, 0), (50, .goto 20, 3, 0, 0, 0), (53, .aload_n 0, 1, 0, 0, 0), (54, .iload_n 1, 1, 0, 0, 0), (55, .aload_n 0, 1, 0, 0, 0), (56, .iconst 0, 1, 0, 0, 0), (57, .invokestatic 284, 3, 136, 1, 0), (60, .iload_n 2, 1, 0, 0, 0), (61, .iadd, 1, 0, 0, 0), (62, .iload_n 3, 1, 0, 0, 0), (63, .invokevirtual 354, 3, 197, 2, 0), (66, .iload_n 3, 1, 0, 0, 0), (67, .invokevirtual 358, 3, 196, 3, 0), (70, .aload_n 0, 1, 0, 0, 0), (71, .dup, 1, 0, 0, 0), (72, .getfield 312, 3, 9, 40, 0), (75, .iconst 1, 1, 0, 0, 0), (76, .iadd, 1, 0, 0, 0), (77, .putfield 312, 3, 9, 40, 0), (80, .return_, 1, 0, 0, 0), (81, .iinc 3 1, 3, 0, 0, 0), (84, .aload_n 0, 1, 0, 0, 0), (85, .dup, 1, 0, 0, 0), (86, .getfield 312, 3, 9, 40, 0), (89, .iconst 1, 1, 0, 0, 0), (90, .iadd, 1, 0, 0, 0), (91, .putfield 312, 3, 9, 40, 0), (94, .goto (-87), 3, 0, 0, 0), (97, .return_, 1, 0, 0, 0)]
def aD_X11_readText8 : ax_D := (yX11_readText8, cX11_readText8, 4, none, [], [], at_X11_readText8, [])
def at_X11_readText14 : List (Nat × ax_I) := [(0, .aload_n 0, 1, 0, 0, 0), (1, .getfield 312, 3, 9, 40, 0), (4, .istore_n 2, 1, 0, 0, 0), (5, .aload_n 0, 1, 0, 0, 0), (6, .iconst 4, 1, 0, 0, 0), (7, .invokevirtual 343, 3, 190, 1, 0), (10, .lstore_n 3, 1, 0, 0, 0), (11, .aload_n 0, 1, 0, 0, 0), (12, .getfield 300, 3, 9, 37, 0), (15, .iconst (-1), 1, 0, 0, 0), (16, .if_icmp .eq 4, 3, 0, 0, 0), (19, .return_, 1, 0, 0, 0), (20, .iconst 0, 1, 0, 0, 0), (21, .istore 5, 2, 0, 0, 0), (23, .lload_n 3, 1, 0, 0, 0), (24, .iload 5, 2, 0, 0, 0), (26, .i2l, 1, 0, 0, 0), (27, .ladd, 1, 0, 0, 0), (28, .aload_n 0, 1, 0, 0, 0), (29, .getfield 65, 3, 9, 20, 0), (32, .iconst 2, 1, 0, 0, 0), (33, .iaload, 1, 0, 0, 0), (34, .i2l, 1, 0, 0, 0), (35, .lcmp, 1, 0, 0, 0), (36, .ifCond .ge 35, 3, 0, 0, 0), (39, .iload 5, 2, 0, 0, 0), (41, .sipush 255, 3, 0, 0, 0), (44, .if_icmp .gt 27, 3, 0, 0, 0), (47, .aload_n 0, 1, 0, 0, 0), (48, .getfield 62, 3, 9, 19, 0), (51, .iconst 2, 1, 0, 0, 0), (52, .invokestatic 284, 3, 136, 1, 0), (55, .lload_n 3, 1, 0, 0, 0), (56, .l2i, 1, 0, 0, 0), (57, .iadd, 1, 0, 0, 0), (58, .iload 5, 2, 0, 0, 0), (60, .iadd, 1, 0, 0, 0), (61, .baload, 1, 0, 0, 0), (62, .ifCond .eq 9, 3, 0, 0, 0), (65, .iinc 5 1, 3, 0, 0, 0), (68, .goto (-45), 3, 0, 0, 0), (71, .lload_n 3, 1, 0, 0, 0), (72, .iload 5, 2, 0, 0, 0), (74, .i2l, 1, 0, 0, 0), (75, .ladd, 1, 0, 0, 0), (76, .aload_n 0, 1, 0, 0, 0), (77, .getfield 65, 3, 9, 20, 0), (80, .iconst 2, 1, 0, 0, 0), (81, .iaload, 1, 0, 0, 0), (82, .i2l, 1, 0, 0, 0), (83, .lcmp, 1, 0, 0, 0), (84, .ifCond .ge 11, 3, 0, 0, 0), (87, .iload 5, 2, 0, 0, 0), (89, .sipush 255, 3, 0, 0, 0), (92, .if_icmp .le 12, 3, 0, 0, 0), (95, .aload_n 0, 1, 0, 0, 0), (96, .bipush 6, 2, 0, 0, 0), (98, .iconst 0, 1, 0, 0, 0), (99, .iload_n 2, 1, 0, 0, 0), (100, .invokevirtual 318, 3, 187, 3, 0), (103, .return_, 1, 0, 0, 0), (104, .aload_n 0, 1, 0, 0, 0), (105, .iload_n 1, 1, 0, 0, 0), (106, .ldc 195, 2, 0, 0, 90000), (108, .aload_n 0, 1, 0, 0, 0), (109, .getfield 137, 3, 9, 3, 0), (112, .imul, 1, 0, 0, 0), (113, .lload_n 3, 1, 0, 0, 0), (114, .l2i, 1, 0, 0, 0), (115, .iadd, 1, 0, 0, 0), (116, .iload 5, 2, 0, 0, 0), (118, .invokevirtual 358, 3, 196, 3, 0), (121, .return_, 1, 0, 0, 0)]
def aD_X11_readText14 : ax_D := (yX11_readText14, cX11_readText14, 6, none, [], [], at_X11_readText14, [])
def at_X11_readValue : List (Nat × ax_I) := [(0, .aload_n 0, 1, 0, 0, 0), (1, .getfield 312, 3, 9, 40, 0), (4, .istore_n 2, 1, 0, 0, 0), (5, .aload_n 0, 1, 0, 0, 0), (6, .getfield 38, 3, 9, 12, 0), (9, .iload_n 1, 1, 0, 0, 0), (10, .iaload, 1, 0, 0, 0), (11, .tableswitch 293 5 25 #[111, 125, 139, 229, 293, 245, 97, 154, 187, 237, 202, 293, 293, 293, 293, 293, 293, 293, 293, 293, 219], 97, 0, 0, 0), (108, .aload_n 0, 1, 0, 0, 0), (109, .getfield 41, 3, 9, 13, 0), (112, .iload_n 1, 1, 0, 0, 0), (113, .aload_n 0, 1, 0, 0, 0), (114, .iconst 1, 1, 0, 0, 0), (115, .invokevirtual 343, 3, 190, 1, 0), (118, .lastore, 1, 0, 0, 0), (119, .goto 237, 3, 0, 0, 0), (122, .aload_n 0, 1, 0, 0, 0), (123, .getfield 41, 3, 9, 13, 0), (126, .iload_n 1, 1, 0, 0, 0), (127, .aload_n 0, 1, 0, 0, 0), (128, .iconst 2, 1, 0, 0, 0), (129, .invokevirtual 343, 3, 190, 1, 0), (132, .lastore, 1, 0, 0, 0), (133, .goto 223, 3, 0, 0, 0), (136, .aload_n 0, 1, 0, 0, 0), (137, .getfield 41, 3, 9, 13, 0), (140, .iload_n 1, 1, 0, 0, 0), (141, .aload_n 0, 1, 0, 0, 0), (142, .iconst 4, 1, 0, 0, 0), (143, .invokevirtual 343, 3, 190, 1, 0), (146, .lastore, 1, 0, 0, 0), (147, .goto 209, 3, 0, 0, 0), (150, .aload_n 0, 1, 0, 0, 0), (151, .getfield 41, 3, 9, 13, 0), (154, .iload_n 1, 1, 0, 0, 0), (155, .aload_n 0, 1, 0, 0, 0), (156, .bipush 8, 2, 0, 0, 0), (158, .invokevirtual 343, 3, 190, 1, 0), (161, .lastore, 1, 0, 0, 0), (162, .goto 194, 3, 0, 0, 0), (165, .aload_n 0, 1, 0, 0, 0), (166, .getfield 41, 3, 9, 13, 0), (169, .iload_n 1, 1, 0, 0, 0), (170, .aload_n 0, 1, 0, 0, 0), (171, .iconst 1, 1, 0, 0, 0), (172, .invokevirtual 343, 3, 190, 1, 0), (175, .lastore, 1, 0, 0, 0), (176, .aload_n 0, 1, 0, 0, 0), (177, .getfield 41, 3, 9, 13, 0), (180, .iload_n 1, 1, 0, 0, 0), (181, .laload, 1, 0, 0, 0), (182, .lconst 1, 1, 0, 0, 0), (183, .lcmp, 1, 0, 0, 0), (184, .ifCond .le 172, 3, 0, 0, 0), (187, .aload_n 0, 1, 0, 0, 0), (188, .bipush 6, 2, 0, 0, 0), (190, .iconst 0, 1, 0, 0, 0), (191, .iload_n 2, 1, 0, 0, 0), (192, .invokevirtual 318, 3, 187, 3, 0), (195, .goto 161, 3, 0, 0, 0), (198, .aload_n 0, 1, 0, 0, 0), (199, .getfield 41, 3, 9, 13, 0), (202, .iload_n 1, 1, 0, 0, 0), (203, .aload_n 0, 1, 0, 0, 0), (204, .iconst 1, 1, 0, 0, 0), (205, .lconst 0, 1, 0, 0, 0), (206, .invokevirtual 339, 3, 191, 2, 0), (209, .lastore, 1, 0, 0, 0), (210, .goto 146, 3, 0, 0, 0), (213, .aload_n 0, 1, 0, 0, 0), (214, .getfield 41, 3, 9, 13, 0), (217, .iload_n 1, 1, 0, 0, 0), (218, .aload_n 0, 1, 0, 0, 0), (219, .iconst 0, 1, 0, 0, 0), (220, .ldc2_w 361, 3, 0, 0, 9223372036854775807), (223, .invokevirtual 339, 3, 191, 2, 0), (226, .lastore, 1, 0, 0, 0), (227, .goto 129, 3, 0, 0, 0), (230, .aload_n 0, 1, 0, 0, 0), (231, .getfield 41, 3, 9, 13, 0), (234, .iload_n 1, 1, 0, 0, 0), (235, .lconst 1, 1, 0, 0, 0), (236, .lastore, 1, 0, 0, 0), (237, .goto 119, 3, 0, 0, 0), (240, .aload_n 0, 1, 0, 0, 0), (241, .iload_n 1, 1, 0, 0, 0), (242, .invokevirtual 363, 3, 198, 1, 0), (245, .goto 111, 3, 0, 0, 0), (248, .aload_n 0, 1, 0, 0, 0), (249, .iload_n 1, 1, 0, 0, 0), (250, .invokevirtual 366, 3, 199, 1, 0), (253, .goto 103, 3, 0, 0, 0), (256, .aload_n 0, 1, 0, 0, 0), (257, .iconst 1, 1, 0, 0, 0), (258, .invokevirtual 343, 3, 190, 1, 0), (261, .l2i, 1, 0, 0, 0), (262, .istore_n 3, 1, 0, 0, 0), (263, .aload_n 0, 1, 0, 0, 0), (264, .iload_n 3, 1, 0, 0, 0), (265, .invokevirtual 322, 3, 189, 1, 0), (268, .ifCond .eq 88, 3, 0, 0, 0), (271, .aload_n 0, 1, 0, 0, 0), (272, .iload_n 1, 1, 0, 0, 0), (273, .aload_n 0, 1, 0, 0, 0), (274, .iconst 0, 1, 0, 0, 0), (275, .invokestatic 284, 3, 136, 1, 0), (278, .aload_n 0, 1, 0, 0, 0), (279, .getfield 312, 3, 9, 40, 0), (282, .iadd, 1, 0, 0, 0), (283, .iload_n 3, 1, 0, 0, 0), (284, .invokevirtual 354, 3, 197, 2, 0), (287, .iload_n 3, 1, 0, 0, 0), (288, .invokevirtual 358, 3, 196, 3, 0), (291, .aload_n 0, 1, 0, 0, 0), (292, .aload_n 0, 1, 0, 0, 0), (293, .getfield 312, 3, 9, 40, 0), (296, .iload_n 3, 1, 0, 0, 0), (297, .iadd, 1, 0, 0, 0), (298, .putfield 312, 3, 9, 40, 0), (301, .goto 55, 3, 0, 0, 0), (304, .aload_n 0, 1, 0, 0, 0), (305, .getfield 117, 3, 9, 51, 0), (308, .iload_n 1, 1, 0, 0, 0), (309, .sipush 3200, 3, 0, 0, 0), (312, .aload_n 0, 1, 0, 0, 0), (313, .getfield 137, 3, 9, 3, 0), (316, .imul, 1, 0, 0, 0), (317, .isub, 1, 0, 0, 0), (318, .aload_n 0, 1, 0, 0, 0), (319, .getfield 312, 3, 9, 40, 0), (322, .iastore, 1, 0, 0, 0), (323, .aload_n 0, 1, 0, 0, 0), (324, .getfield 41, 3, 9, 13, 0), (327, .iload_n 1, 1, 0, 0, 0), (328, .aload_n 0, 1, 0, 0, 0), (329, .getfield 38, 3, 9, 12, 0), (332, .iload_n 1, 1, 0, 0, 0), (333, .iaload, 1, 0, 0, 0), (334, .bipush 19, 2, 0, 0, 0), (336, .if_icmp .ne 11, 3, 0, 0, 0), (339, .aload_n 0, 1, 0, 0, 0), (340, .iconst 4, 1, 0, 0, 0), (341, .invokevirtual 343, 3, 190, 1, 0), (344, .goto 11, 3, 0, 0, 0), (347, .aload_n 0, 1, 0, 0, 0), (348, .iconst 0, 1, 0, 0, 0), (349, .ldc2_w 337, 3, 0, 0, 2147483647), (352, .invokevirtual 339, 3, 191, 2, 0), (355, .lastore, 1, 0, 0, 0), (356, .return_, 1, 0, 0, 0)]
def aD_X11_readValue : ax_D := (yX11_readValue, cX11_readValue, 4, none, [], [], at_X11_readValue, [])
def at_X11_readEntry : List (Nat × ax_I) := [(0, .aload_n 0, 1, 0, 0, 0), (1, .getfield 312, 3, 9, 40, 0), (4, .istore_n 3, 1, 0, 0, 0), (5, .aload_n 0, 1, 0, 0, 0), (6, .iconst 0, 1, 0, 0, 0), (7, .ldc2_w 337, 3, 0, 0, 2147483647), (10, .invokevirtual 339, 3, 191, 2, 0), (13, .lstore 4, 2, 0, 0, 0), (15, .aload_n 0, 1, 0, 0, 0), (16, .getfield 300, 3, 9, 37, 0), (19, .iconst (-1), 1, 0, 0, 0), (20, .if_icmp .eq 5, 3, 0, 0, 0), (23, .iconst (-1), 1, 0, 0, 0), (24, .ireturn, 1, 0, 0, 0), (25, .lload 4, 2, 0, 0, 0), (27, .lconst 0, 1, 0, 0, 0), (28, .lcmp, 1, 0, 0, 0), (29, .ifCond .ne 17, 3, 0, 0, 0), (32, .iload_n 1, 1, 0, 0, 0), (33, .iconst (-1), 1, 0, 0, 0), (34, .if_icmp .ne 10, 3, 0, 0, 0), (37, .aload_n 0, 1, 0, 0, 0), (38, .iconst 5, 1, 0, 0, 0), (39, .iconst 0, 1, 0, 0, 0), (40, .iload_n 3, 1, 0, 0, 0), (41, .invokevirtual 318, 3, 187, 3, 0), (44, .iconst (-1), 1, 0, 0, 0), (45, .ireturn, 1, 0, 0, 0), (46, .aload_n 0, 1, 0, 0, 0), (47, .lload 4, 2, 0, 0, 0), (49, .invokevirtual 369, 3, 195, 1, 0), (52, .istore 6, 2, 0, 0, 0), (54, .iload 6, 2, 0, 0, 0), (56, .iconst (-1), 1, 0, 0, 0), (57, .if_icmp .ne 10, 3, 0, 0, 0), (60, .aload_n 0, 1, 0, 0, 0), (61, .iconst 5, 1, 0, 0, 0), (62, .iconst 0, 1, 0, 0, 0), (63, .iload_n 3, 1, 0, 0, 0), (64, .invokevirtual 318, 3, 187, 3, 0), (67, .aload_n 0, 1, 0, 0, 0), (68, .getfield 13, 3, 9, 4, 0), (71, .aload_n 0, 1, 0, 0, 0), (72, .getfield 137, 3, 9, 3, 0), (75, .iaload, 1, 0, 0, 0), (76, .sipush 400, 3, 0, 0, 0), (79, .if_icmp .eq 9, 3, 0, 0, 0), (82, .iload_n 2, 1, 0, 0, 0), (83, .bipush 30, 2, 0, 0, 0), (85, .if_icmp .le 11, 3, 0, 0, 0), (88, .aload_n 0, 1, 0, 0, 0), (89, .bipush 8, 2, 0, 0, 0), (91, .iconst 0, 1, 0, 0, 0), (92, .iload_n 3, 1, 0, 0, 0), (93, .invokevirtual 318, 3, 187, 3, 0), (96, .aload_n 0, 1, 0, 0, 0), (97, .getfield 300, 3, 9, 37, 0), (100, .iconst (-1), 1, 0, 0, 0), (101, .if_icmp .eq 5, 3, 0, 0, 0), (104, .iconst (-1), 1, 0, 0, 0), (105, .ireturn, 1, 0, 0, 0), (106, .aload_n 0, 1, 0, 0, 0), (107, .aload_n 0, 1, 0, 0, 0), (108, .getfield 98, 3, 9, 45, 0), (111, .iload 6, 2, 0, 0, 0), (113, .iaload, 1, 0, 0, 0), (114, .iload_n 1, 1, 0, 0, 0), (115, .aload_n 0, 1, 0, 0, 0), (116, .getfield 17, 3, 9, 5, 0), (119, .aload_n 0, 1, 0, 0, 0), (120, .getfield 137, 3, 9, 3, 0), (123, .iaload, 1, 0, 0, 0), (124, .iconst 1, 1, 0, 0, 0), (125, .isub, 1, 0, 0, 0), (126, .invokevirtual 148, 3, 143, 3, 0), (129, .istore 7, 2, 0, 0, 0), (131, .aload_n 0, 1, 0, 0, 0), (132, .getfield 114, 3, 9, 50, 0), (135, .iload 7, 2, 0, 0, 0), (137, .iload_n 3, 1, 0, 0, 0), (138, .aload_n 0, 1, 0, 0, 0), (139, .getfield 372, 3, 9, 52, 0), (142, .isub, 1, 0, 0, 0), (143, .iastore, 1, 0, 0, 0), (144, .iconst 0, 1, 0, 0, 0), (145, .istore 8, 2, 0, 0, 0), (147, .iload 8, 2, 0, 0, 0), (149, .aload_n 0, 1, 0, 0, 0), (150, .getfield 105, 3, 9, 47, 0), (153, .iload 6, 2, 0, 0, 0), (155, .iaload, 1, 0, 0, 0), (156, .if_icmp .ge 138, 3, 0, 0, 0), (159, .aload_n 0, 1, 0, 0, 0), (160, .getfield 300, 3, 9, 37, 0), (163, .iconst (-1), 1, 0, 0, 0), (164, .if_icmp .ne 130, 3, 0, 0, 0), (167, .aload_n 0, 1, 0, 0, 0), (168, .iload 7, 2, 0, 0, 0), (170, .aload_n 0, 1, 0, 0, 0), (171, .getfield 108, 3, 9, 48, 0), (174, .bipush 8, 2, 0, 0, 0), (176, .iload 6, 2, 0, 0, 0), (178, .imul, 1, 0, 0, 0), (179, .iload 8, 2, 0, 0, 0), (181, .iadd, 1, 0, 0, 0), (182, .iaload, 1, 0, 0, 0), (183, .aload_n 0, 1, 0, 0, 0), (184, .getfield 111, 3, 9, 49, 0), (187, .bipush 8, 2, 0, 0, 0), (189, .iload 6, 2, 0, 0, 0), (191, .imul, 1, 0, 0, 0), (192, .iload 8, 2, 0, 0, 0), (194, .iadd, 1, 0, 0, 0), (195, .iaload, 1, 0, 0, 0), (196, .lconst 0, 1, 0, 0, 0), (197, .invokevirtual 188, 3, 153, 4, 0), (200, .istore 9, 2, 0, 0, 0), (202, .bipush 8, 2, 0, 0, 0), (204, .aload_n 0, 1, 0, 0, 0), (205, .iload 7, 2, 0, 0, 0), (207, .invokevirtual 140, 3, 141, 1, 0), (210, .imul, 1, 0, 0, 0), (211, .iload 9, 2, 0, 0, 0), (213, .iadd, 1, 0, 0, 0), (214, .iconst 1, 1, 0, 0, 0), (215, .isub, 1, 0, 0, 0), (216, .istore 10, 2, 0, 0, 0), (218, .aload_n 0, 1, 0, 0, 0), (219, .getfield 312, 3, 9, 40, 0), (222, .istore 11, 2, 0, 0, 0), (224, .aload_n 0, 1, 0, 0, 0), (225, .iload 10, 2, 0, 0, 0), (227, .invokevirtual 375, 3, 200, 1, 0), (230, .aload_n 0, 1, 0, 0, 0), (231, .getfield 51, 3, 9, 16, 0), (234, .aload_n 0, 1, 0, 0, 0), (235, .getfield 137, 3, 9, 3, 0), (238, .aload_n 0, 1, 0, 0, 0), (239, .getfield 51, 3, 9, 16, 0), (242, .aload_n 0, 1, 0, 0, 0), (243, .getfield 137, 3, 9, 3, 0), (246, .iaload, 1, 0, 0, 0), (247, .aload_n 0, 1, 0, 0, 0), (248, .getfield 48, 3, 9, 15, 0), (251, .iload 10, 2, 0, 0, 0), (253, .iaload, 1, 0, 0, 0), (254, .iadd, 1, 0, 0, 0), (255, .iastore, 1, 0, 0, 0), (256, .aload_n 0, 1, 0, 0, 0), (257, .getfield 300, 3, 9, 37, 0), (260, .iconst (-1), 1, 0, 0, 0), (261, .if_icmp .ne 27, 3, 0, 0, 0), (264, .aload_n 0, 1, 0, 0, 0), (265, .getfield 51, 3, 9, 16, 0), (268, .aload_n 0, 1, 0, 0, 0), (269, .getfield 137, 3, 9, 3, 0), (272, .iaload, 1, 0, 0, 0), (273, .sipush 30000, 3, 0, 0, 0), (276, .if_icmp .le 12, 3, 0, 0, 0), (279, .aload_n 0, 1, 0, 0, 0), (280, .bipush 8, 2, 0, 0, 0), (282, .iconst 0, 1, 0, 0, 0), (283, .iload 11, 2, 0, 0, 0), (285, .invokevirtual 318, 3, 187, 3, 0), (288, .iinc 8 1, 3, 0, 0, 0), (291, .goto (-144), 3, 0, 0, 0), (294, .aload_n 0, 1, 0, 0, 0), (295, .aload_n 0, 1, 0, 0, 0), (296, .getfield 101, 3, 9, 46, 0), (299, .iload 6, 2, 0, 0, 0), (301, .baload, 1, 0, 0, 0), (302, .putfield 378, 3, 9, 53, 0), (305, .iload 7, 2, 0, 0, 0), (307, .ireturn, 1, 0, 0, 0)]
def aD_X11_readEntry : ax_D := (yX11_readEntry, cX11_readEntry, 12, (some .int), [], [], at_X11_readEntry, [])
def at_X11_readEntries : List (Nat × ax_I) := [(0, .aload_n 0, 1, 0, 0, 0), (1, .getfield 13, 3, 9, 4, 0), (4, .aload_n 0, 1, 0, 0, 0), (5, .getfield 137, 3, 9, 3, 0), (8, .iaload, 1, 0, 0, 0), (9, .istore_n 1, 1, 0, 0, 0), (10, .iconst (-1), 1, 0, 0, 0), (11, .istore_n 2, 1, 0, 0, 0), (12, .iconst 0, 1, 0, 0, 0), (13, .istore_n 3, 1, 0, 0, 0), (14, .iconst 1, 1, 0, 0, 0), (15, .istore 4, 2, 0, 0, 0), (17, .iload 4, 2, 0, 0, 0), (19, .ifCond .eq 119, 3, 0, 0, 0), (22, .aload_n 0, 1, 0, 0, 0), (23, .getfield 300, 3, 9, 37, 0), (26, .iconst (-1), 1, 0, 0, 0), (27, .if_icmp .ne 111, 3, 0, 0, 0), (30, .aload_n 0, 1, 0, 0, 0), (31, .iload_n 2, 1, 0, 0, 0), (32, .iload_n 3, 1, 0, 0, 0), (33, .invokevirtual 382, 3, 201, 2, 0), (36, .istore 5, 2, 0, 0, 0), (38, .aload_n 0, 1, 0, 0, 0), (39, .getfield 300, 3, 9, 37, 0), (42, .iconst (-1), 1, 0, 0, 0), (43, .if_icmp .ne 92, 3, 0, 0, 0), (46, .iload 5, 2, 0, 0, 0), (48, .iconst (-1), 1, 0, 0, 0), (49, .if_icmp .ne 20, 3, 0, 0, 0), (52, .aload_n 0, 1, 0, 0, 0), (53, .getfield 26, 3, 9, 8, 0), (56, .aload_n 0, 1, 0, 0, 0), (57, .iload_n 2, 1, 0, 0, 0), (58, .invokevirtual 140, 3, 141, 1, 0), (61, .iaload, 1, 0, 0, 0), (62, .istore_n 2, 1, 0, 0, 0), (63, .iinc 3 (-1), 3, 0, 0, 0), (66, .goto 57, 3, 0, 0, 0), (69, .aload_n 0, 1, 0, 0, 0), (70, .getfield 26, 3, 9, 8, 0), (73, .aload_n 0, 1, 0, 0, 0), (74, .iload 5, 2, 0, 0, 0), (76, .invokevirtual 140, 3, 141, 1, 0), (79, .iaload, 1, 0, 0, 0), (80, .iconst (-1), 1, 0, 0, 0), (81, .if_icmp .ne 29, 3, 0, 0, 0), (84, .aload_n 0, 1, 0, 0, 0), (85, .getfield 20, 3, 9, 6, 0), (88, .bipush 6, 2, 0, 0, 0), (90, .aload_n 0, 1, 0, 0, 0), (91, .getfield 137, 3, 9, 3, 0), (94, .imul, 1, 0, 0, 0), (95, .aload_n 0, 1, 0, 0, 0), (96, .getfield 17, 3, 9, 5, 0), (99, .aload_n 0, 1, 0, 0, 0), (100, .getfield 137, 3, 9, 3, 0), (103, .iaload, 1, 0, 0, 0), (104, .iadd, 1, 0, 0, 0), (105, .iconst 1, 1, 0, 0, 0), (106, .isub, 1, 0, 0, 0), (107, .iload 5, 2, 0, 0, 0), (109, .iastore, 1, 0, 0, 0), (110, .aload_n 0, 1, 0, 0, 0), (111, .getfield 378, 3, 9, 53, 0), (114, .ifCond .eq 9, 3, 0, 0, 0), (117, .iload 5, 2, 0, 0, 0), (119, .istore_n 2, 1, 0, 0, 0), (120, .iinc 3 1, 3, 0, 0, 0), (123, .iload_n 2, 1, 0, 0, 0), (124, .iconst (-1), 1, 0, 0, 0), (125, .if_icmp .eq 7, 3, 0, 0, 0), (128, .iconst 1, 1, 0, 0, 0), (129, .goto 4, 3, 0, 0, 0), (132, .iconst 0, 1, 0, 0, 0), (133, .istore 4, 2, 0, 0, 0), (135, .goto (-118), 3, 0, 0, 0), (138, .aload_n 0, 1, 0, 0, 0), (139, .getfield 300, 3, 9, 37, 0), (142, .iconst (-1), 1, 0, 0, 0), (143, .if_icmp .ne 24, 3, 0, 0, 0), (146, .aload_n 0, 1, 0, 0, 0), (147, .getfield 312, 3, 9, 40, 0), (150, .aload_n 0, 1, 0, 0, 0), (151, .getfield 315, 3, 9, 41, 0), (154, .if_icmp .ge 13, 3, 0, 0, 0), (157, .aload_n 0, 1, 0, 0, 0), (158, .iconst 5, 1, 0, 0, 0), (159, .iconst 0, 1, 0, 0, 0), (160, .aload_n 0, 1, 0, 0, 0), (161, .getfield 312, 3, 9, 40, 0), (164, .invokevirtual 318, 3, 187, 3, 0), (167, .iload_n 1, 1, 0, 0, 0), (168, .istore 5, 2, 0, 0, 0), (170, .iload 5, 2, 0, 0, 0), (172, .aload_n 0, 1, 0, 0, 0), (173, .getfield 13, 3, 9, 4, 0), (176, .aload_n 0, 1, 0, 0, 0), (177, .getfield 137, 3, 9, 3, 0), (180, .iaload, 1, 0, 0, 0), (181, .if_icmp .ge 24, 3, 0, 0, 0), (184, .aload_n 0, 1, 0, 0, 0), (185, .getfield 300, 3, 9, 37, 0), (188, .iconst (-1), 1, 0, 0, 0), (189, .if_icmp .ne 16, 3, 0, 0, 0), (192, .aload_n 0, 1, 0, 0, 0), (193, .iload 5, 2, 0, 0, 0), (195, .iload_n 1, 1, 0, 0, 0), (196, .invokevirtual 385, 3, 203, 2, 0), (199, .iinc 5 1, 3, 0, 0, 0), (202, .goto (-32), 3, 0, 0, 0), (205, .return_, 1, 0, 0, 0)]
def aD_X11_readEntries : ax_D := (yX11_readEntries, cX11_readEntries, 6, none, [], [], at_X11_readEntries, [])
def at_X11_resolve : List (Nat × ax_I) := [(0, .aload_n 0, 1, 0, 0, 0), (1, .iload_n 1, 1, 0, 0, 0), (2, .invokevirtual 140, 3, 141, 1, 0), (5, .istore_n 3, 1, 0, 0, 0), (6, .bipush 8, 2, 0, 0, 0), (8, .iload_n 3, 1, 0, 0, 0), (9, .imul, 1, 0, 0, 0), (10, .istore 4, 2, 0, 0, 0), (12, .iload 4, 2, 0, 0, 0), (14, .bipush 8, 2, 0, 0, 0), (16, .iload_n 3, 1, 0, 0, 0), (17, .imul, 1, 0, 0, 0), (18, .aload_n 0, 1, 0, 0, 0), (19, .getfield 32, 3, 9, 10, 0), (22, .iload_n 3, 1, 0, 0, 0), (23, .iaload, 1, 0, 0, 0), (24, .iadd, 1, 0, 0, 0), (25, .if_icmp .ge 115, 3, 0, 0, 0), (28, .aload_n 0, 1, 0, 0, 0), (29, .getfield 38, 3, 9, 12, 0), (32, .iload 4, 2, 0, 0, 0), (34, .iaload, 1, 0, 0, 0), (35, .invokestatic 168, 3, 149, 1, 0), (38, .ifCond .eq 96, 3, 0, 0, 0), (41, .iconst (-1), 1, 0, 0, 0), (42, .istore 5, 2, 0, 0, 0), (44, .iload_n 2, 1, 0, 0, 0), (45, .istore 6, 2, 0, 0, 0), (47, .iload 6, 2, 0, 0, 0), (49, .aload_n 0, 1, 0, 0, 0), (50, .getfield 13, 3, 9, 4, 0), (53, .aload_n 0, 1, 0, 0, 0), (54, .getfield 137, 3, 9, 3, 0), (57, .iaload, 1, 0, 0, 0), (58, .if_icmp .ge 37, 3, 0, 0, 0), (61, .aload_n 0, 1, 0, 0, 0), (62, .getfield 114, 3, 9, 50, 0), (65, .iload 6, 2, 0, 0, 0), (67, .iaload, 1, 0, 0, 0), (68, .i2l, 1, 0, 0, 0), (69, .aload_n 0, 1, 0, 0, 0), (70, .getfield 41, 3, 9, 13, 0), (73, .iload 4, 2, 0, 0, 0), (75, .laload, 1, 0, 0, 0), (76, .lcmp, 1, 0, 0, 0), (77, .ifCond .ne 8, 3, 0, 0, 0), (80, .iload 6, 2, 0, 0, 0), (82, .goto 5, 3, 0, 0, 0), (85, .iload 5, 2, 0, 0, 0), (87, .istore 5, 2, 0, 0, 0), (89, .iinc 6 1, 3, 0, 0, 0), (92, .goto (-45), 3, 0, 0, 0), (95, .iload 5, 2, 0, 0, 0), (97, .iconst (-1), 1, 0, 0, 0), (98, .if_icmp .ne 26, 3, 0, 0, 0), (101, .aload_n 0, 1, 0, 0, 0), (102, .bipush 7, 2, 0, 0, 0), (104, .iconst 0, 1, 0, 0, 0), (105, .aload_n 0, 1, 0, 0, 0), (106, .getfield 117, 3, 9, 51, 0), (109, .iload 4, 2, 0, 0, 0), (111, .sipush 3200, 3, 0, 0, 0), (114, .aload_n 0, 1, 0, 0, 0), (115, .getfield 137, 3, 9, 3, 0), (118, .imul, 1, 0, 0, 0), (119, .isub, 1, 0, 0, 0), (120, .iaload, 1, 0, 0, 0), (121, .invokevirtual 318, 3, 187, 3, 0), (124, .aload_n 0, 1, 0, 0, 0), (125, .getfield 41, 3, 9, 13, 0), (128, .iload 4, 2, 0, 0, 0), (130, .iload 5, 2, 0, 0, 0), (132, .i2l, 1, 0, 0, 0), (133, .lastore, 1, 0, 0, 0), (134, .iinc 4 1, 3, 0, 0, 0), (137, .goto (-125), 3, 0, 0, 0), (140, .return_, 1, 0, 0, 0)]
def aD_X11_resolve : ax_D := (yX11_resolve, cX11_resolve, 7, none, [], [], at_X11_resolve, [])
def at_X11_readUnit : List (Nat × ax_I) := [(0, .aload_n 0, 1, 0, 0, 0), (1, .iload_n 1, 1, 0, 0, 0), (2, .putfield 372, 3, 9, 52, 0), (5, .aload_n 0, 1, 0, 0, 0), (6, .iconst 0, 1, 0, 0, 0), (7, .putfield 309, 3, 9, 42, 0), (10, .aload_n 0, 1, 0, 0, 0), (11, .aload_n 0, 1, 0, 0, 0), (12, .getfield 65, 3, 9, 20, 0), (15, .iconst 0, 1, 0, 0, 0), (16, .iaload, 1, 0, 0, 0), (17, .putfield 315, 3, 9, 41, 0), (20, .aload_n 0, 1, 0, 0, 0), (21, .iload_n 1, 1, 0, 0, 0), (22, .putfield 312, 3, 9, 40, 0), (25, .aload_n 0, 1, 0, 0, 0), (26, .getfield 17, 3, 9, 5, 0), (29, .aload_n 0, 1, 0, 0, 0), (30, .getfield 137, 3, 9, 3, 0), (33, .iaload, 1, 0, 0, 0), (34, .bipush 6, 2, 0, 0, 0), (36, .if_icmp .ne 11, 3, 0, 0, 0), (39, .aload_n 0, 1, 0, 0, 0), (40, .bipush 8, 2, 0, 0, 0), (42, .iconst 0, 1, 0, 0, 0), (43, .iload_n 1, 1, 0, 0, 0), (44, .invokevirtual 318, 3, 187, 3, 0), (47, .aload_n 0, 1, 0, 0, 0), (48, .iconst 4, 1, 0, 0, 0), (49, .invokevirtual 343, 3, 190, 1, 0), (52, .lstore_n 2, 1, 0, 0, 0), (53, .aload_n 0, 1, 0, 0, 0), (54, .getfield 300, 3, 9, 37, 0), (57, .iconst (-1), 1, 0, 0, 0), (58, .if_icmp .ne 29, 3, 0, 0, 0), (61, .iload_n 1, 1, 0, 0, 0), (62, .i2l, 1, 0, 0, 0), (63, .ldc2_w 287, 3, 0, 0, 4), (66, .ladd, 1, 0, 0, 0), (67, .lload_n 2, 1, 0, 0, 0), (68, .ladd, 1, 0, 0, 0), (69, .aload_n 0, 1, 0, 0, 0), (70, .getfield 65, 3, 9, 20, 0), (73, .iconst 0, 1, 0, 0, 0), (74, .iaload, 1, 0, 0, 0), (75, .i2l, 1, 0, 0, 0), (76, .lcmp, 1, 0, 0, 0), (77, .ifCond .le 10, 3, 0, 0, 0), (80, .aload_n 0, 1, 0, 0, 0), (81, .iconst 2, 1, 0, 0, 0), (82, .iconst 0, 1, 0, 0, 0), (83, .iload_n 1, 1, 0, 0, 0), (84, .invokevirtual 318, 3, 187, 3, 0), (87, .aload_n 0, 1, 0, 0, 0), (88, .getfield 300, 3, 9, 37, 0), (91, .iconst (-1), 1, 0, 0, 0), (92, .if_icmp .eq 4, 3, 0, 0, 0), (95, .return_, 1, 0, 0, 0), (96, .iload_n 1, 1, 0, 0, 0), (97, .iconst 4, 1, 0, 0, 0), (98, .iadd, 1, 0, 0, 0), (99, .lload_n 2, 1, 0, 0, 0), (100, .l2i, 1, 0, 0, 0), (101, .iadd, 1, 0, 0, 0), (102, .istore 4, 2, 0, 0, 0), (104, .aload_n 0, 1, 0, 0, 0), (105, .iload 4, 2, 0, 0, 0), (107, .putfield 315, 3, 9, 41, 0), (110, .aload_n 0, 1, 0, 0, 0), (111, .iconst 2, 1, 0, 0, 0), (112, .invokevirtual 343, 3, 190, 1, 0), (115, .ldc2_w 287, 3, 0, 0, 4), (118, .lcmp, 1, 0, 0, 0), (119, .ifCond .eq 12, 3, 0, 0, 0), (122, .aload_n 0, 1, 0, 0, 0), (123, .iconst 2, 1, 0, 0, 0), (124, .iconst 0, 1, 0, 0, 0), (125, .iload_n 1, 1, 0, 0, 0), (126, .iconst 4, 1, 0, 0, 0), (127, .iadd, 1, 0, 0, 0), (128, .invokevirtual 318, 3, 187, 3, 0), (131, .aload_n 0, 1, 0, 0, 0), (132, .iconst 4, 1, 0, 0, 0), (133, .invokevirtual 343, 3, 190, 1, 0), (136, .lstore 5, 2, 0, 0, 0), (138, .aload_n 0, 1, 0, 0, 0), (139, .getfield 300, 3, 9, 37, 0), (142, .iconst (-1), 1, 0, 0, 0), (143, .if_icmp .ne 26, 3, 0, 0, 0), (146, .lload 5, 2, 0, 0, 0), (148, .aload_n 0, 1, 0, 0, 0), (149, .getfield 65, 3, 9, 20, 0), (152, .iconst 1, 1, 0, 0, 0), (153, .iaload, 1, 0, 0, 0), (154, .i2l, 1, 0, 0, 0), (155, .lcmp, 1, 0, 0, 0), (156, .ifCond .le 13, 3, 0, 0, 0), (159, .aload_n 0, 1, 0, 0, 0), (160, .iconst 2, 1, 0, 0, 0), (161, .iconst 0, 1, 0, 0, 0), (162, .iload_n 1, 1, 0, 0, 0), (163, .bipush 6, 2, 0, 0, 0), (165, .iadd, 1, 0, 0, 0), (166, .invokevirtual 318, 3, 187, 3, 0), (169, .aload_n 0, 1, 0, 0, 0), (170, .iconst 1, 1, 0, 0, 0), (171, .invokevirtual 343, 3, 190, 1, 0), (174, .ldc2_w 389, 3, 0, 0, 8), (177, .lcmp, 1, 0, 0, 0), (178, .ifCond .eq 13, 3, 0, 0, 0), (181, .aload_n 0, 1, 0, 0, 0), (182, .iconst 2, 1, 0, 0, 0), (183, .iconst 0, 1, 0, 0, 0), (184, .iload_n 1, 1, 0, 0, 0), (185, .bipush 10, 2, 0, 0, 0), (187, .iadd, 1, 0, 0, 0), (188, .invokevirtual 318, 3, 187, 3, 0), (191, .aload_n 0, 1, 0, 0, 0), (192, .getfield 300, 3, 9, 37, 0), (195, .iconst (-1), 1, 0, 0, 0), (196, .if_icmp .ne 38, 3, 0, 0, 0), (199, .aload_n 0, 1, 0, 0, 0), (200, .getfield 17, 3, 9, 5, 0), (203, .aload_n 0, 1, 0, 0, 0), (204, .getfield 137, 3, 9, 3, 0), (207, .iaload, 1, 0, 0, 0), (208, .ifCond .eq 13, 3, 0, 0, 0), (211, .lload 5, 2, 0, 0, 0), (213, .aload_n 0, 1, 0, 0, 0), (214, .getfield 391, 3, 9, 54, 0), (217, .lcmp, 1, 0, 0, 0), (218, .ifCond .eq 16, 3, 0, 0, 0), (221, .aload_n 0, 1, 0, 0, 0), (222, .lload 5, 2, 0, 0, 0), (224, .l2i, 1, 0, 0, 0), (225, .invokevirtual 395, 3, 192, 1, 0), (228, .aload_n 0, 1, 0, 0, 0), (229, .lload 5, 2, 0, 0, 0), (231, .putfield 391, 3, 9, 54, 0), (234, .aload_n 0, 1, 0, 0, 0), (235, .getfield 300, 3, 9, 37, 0), (238, .iconst (-1), 1, 0, 0, 0), (239, .if_icmp .eq 4, 3, 0, 0, 0), (242, .return_, 1, 0, 0, 0), (243, .aload_n 0, 1, 0, 0, 0), (244, .getfield 17, 3, 9, 5, 0), (247, .aload_n 0, 1, 0, 0, 0), (248, .getfield 137, 3, 9, 3, 0), (251, .dup2, 1, 0, 0, 0), (252, .iaload, 1, 0, 0, 0), (253, .iconst 1, 1, 0, 0, 0), (254, .iadd, 1, 0, 0, 0), (255, .iastore, 1, 0, 0, 0), (256, .aload_n 0, 1, 0, 0, 0), (257, .iconst 0, 1, 0, 0, 0), (258, .putfield 309, 3, 9, 42, 0), (261, .aload_n 0, 1, 0, 0, 0), (262, .iload_n 1, 1, 0, 0, 0), (263, .bipush 11, 2, 0, 0, 0), (265, .iadd, 1, 0, 0, 0), (266, .putfield 312, 3, 9, 40, 0), (269, .aload_n 0, 1, 0, 0, 0), (270, .iload 4, 2, 0, 0, 0), (272, .putfield 315, 3, 9, 41, 0), (275, .aload_n 0, 1, 0, 0, 0), (276, .invokevirtual 398, 3, 202, 0, 0), (279, .aload_n 0, 1, 0, 0, 0), (280, .iload 4, 2, 0, 0, 0), (282, .putfield 312, 3, 9, 40, 0), (285, .return_, 1, 0, 0, 0)]
def aD_X11_readUnit : ax_D := (yX11_readUnit, cX11_readUnit, 7, none, [], [], at_X11_readUnit, [])
def at_X11_read : List (Nat × ax_I) := [(0, .aload_n 0, 1, 0, 0, 0), (1, .iconst 0, 1, 0, 0, 0), (2, .putfield 120, 3, 9, 0, 0), (5, .aload_n 0, 1, 0, 0, 0), (6, .iconst 1, 1, 0, 0, 0), (7, .aload_n 0, 1, 0, 0, 0), (8, .getfield 137, 3, 9, 3, 0), (11, .isub, 1, 0, 0, 0), (12, .putfield 137, 3, 9, 3, 0), (15, .aload_n 0, 1, 0, 0, 0), (16, .getfield 13, 3, 9, 4, 0), (19, .aload_n 0, 1, 0, 0, 0), (20, .getfield 137, 3, 9, 3, 0), (23, .iconst 0, 1, 0, 0, 0), (24, .iastore, 1, 0, 0, 0), (25, .aload_n 0, 1, 0, 0, 0), (26, .getfield 17, 3, 9, 5, 0), (29, .aload_n 0, 1, 0, 0, 0), (30, .getfield 137, 3, 9, 3, 0), (33, .iconst 0, 1, 0, 0, 0), (34, .iastore, 1, 0, 0, 0), (35, .aload_n 0, 1, 0, 0, 0), (36, .getfield 54, 3, 9, 17, 0), (39, .aload_n 0, 1, 0, 0, 0), (40, .getfield 137, 3, 9, 3, 0), (43, .iconst 0, 1, 0, 0, 0), (44, .iastore, 1, 0, 0, 0), (45, .aload_n 0, 1, 0, 0, 0), (46, .getfield 51, 3, 9, 16, 0), (49, .aload_n 0, 1, 0, 0, 0), (50, .getfield 137, 3, 9, 3, 0), (53, .iconst 0, 1, 0, 0, 0), (54, .iastore, 1, 0, 0, 0), (55, .aload_n 0, 1, 0, 0, 0), (56, .iconst (-1), 1, 0, 0, 0), (57, .putfield 300, 3, 9, 37, 0), (60, .aload_n 0, 1, 0, 0, 0), (61, .iconst 2, 1, 0, 0, 0), (62, .invokestatic 284, 3, 136, 1, 0), (65, .aload_n 0, 1, 0, 0, 0), (66, .getfield 65, 3, 9, 20, 0), (69, .iconst 2, 1, 0, 0, 0), (70, .iaload, 1, 0, 0, 0), (71, .invokevirtual 354, 3, 197, 2, 0), (74, .istore_n 1, 1, 0, 0, 0), (75, .iconst 0, 1, 0, 0, 0), (76, .istore_n 2, 1, 0, 0, 0), (77, .aload_n 0, 1, 0, 0, 0), (78, .getfield 300, 3, 9, 37, 0), (81, .iconst (-1), 1, 0, 0, 0), (82, .if_icmp .ne 26, 3, 0, 0, 0), (85, .iload_n 2, 1, 0, 0, 0), (86, .aload_n 0, 1, 0, 0, 0), (87, .getfield 65, 3, 9, 20, 0), (90, .iconst 0, 1, 0, 0, 0), (91, .iaload, 1, 0, 0, 0), (92, .if_icmp .ge 16, 3, 0, 0, 0), (95, .aload_n 0, 1, 0, 0, 0), (96, .iload_n 2, 1, 0, 0, 0), (97, .invokevirtual 401, 3, 204, 1, 0), (100, .aload_n 0, 1, 0, 0, 0), (101, .getfield 312, 3, 9, 40, 0), (104, .istore_n 2, 1, 0, 0, 0), (105, .goto (-28), 3, 0, 0, 0), (108, .aload_n 0, 1, 0, 0, 0), (109, .getfield 300, 3, 9, 37, 0), (112, .iconst (-1), 1, 0, 0, 0), (113, .if_icmp .eq 36, 3, 0, 0, 0), (116, .aload_n 0, 1, 0, 0, 0), (117, .iconst 1, 1, 0, 0, 0), (118, .aload_n 0, 1, 0, 0, 0), (119, .getfield 137, 3, 9, 3, 0), (122, .isub, 1, 0, 0, 0), (123, .putfield 137, 3, 9, 3, 0), (126, .aload_n 0, 1, 0, 0, 0), (127, .aload_n 0, 1, 0, 0, 0), (128, .getfield 303, 3, 9, 38, 0), (131, .putfield 404, 3, 9, 21, 0), (134, .aload_n 0, 1, 0, 0, 0), (135, .aload_n 0, 1, 0, 0, 0), (136, .getfield 306, 3, 9, 39, 0), (139, .putfield 407, 3, 9, 22, 0), (142, .iconst (-1), 1, 0, 0, 0), (143, .aload_n 0, 1, 0, 0, 0), (144, .getfield 300, 3, 9, 37, 0), (147, .isub, 1, 0, 0, 0), (148, .ireturn, 1, 0, 0, 0), (149, .aload_n 0, 1, 0, 0, 0), (150, .iconst 0, 1, 0, 0, 0), (151, .putfield 404, 3, 9, 21, 0), (154, .aload_n 0, 1, 0, 0, 0), (155, .iconst 0, 1, 0, 0, 0), (156, .putfield 407, 3, 9, 22, 0), (159, .aload_n 0, 1, 0, 0, 0), (160, .getfield 13, 3, 9, 4, 0), (163, .aload_n 0, 1, 0, 0, 0), (164, .getfield 137, 3, 9, 3, 0), (167, .iaload, 1, 0, 0, 0), (168, .ireturn, 1, 0, 0, 0)]
def aD_X11_read : ax_D := (yX11_read, cX11_read, 3, (some .int), [], [], at_X11_read, [])
def at_X11_fault : List (Nat × ax_I) := [(0, .aload_n 0, 1, 0, 0, 0), (1, .iload_n 1, 1, 0, 0, 0), (2, .i2l, 1, 0, 0, 0), (3, .lconst 0, 1, 0, 0, 0), (4, .lconst 1, 1, 0, 0, 0), (5, .invokestatic 131, 3, 134, 3, 0), (8, .invokevirtual 127, 3, 135, 1, 0), (11, .ifCond .eq 21, 3, 0, 0, 0), (14, .iload_n 1, 1, 0, 0, 0), (15, .ifCond .ne 10, 3, 0, 0, 0), (18, .aload_n 0, 1, 0, 0, 0), (19, .getfield 404, 3, 9, 21, 0), (22, .goto 11, 3, 0, 0, 0), (25, .aload_n 0, 1, 0, 0, 0), (26, .getfield 407, 3, 9, 22, 0), (29, .goto 4, 3, 0, 0, 0), (32, .iconst 0, 1, 0, 0, 0), (33, .ireturn, 1, 0, 0, 0)]
def aD_X11_fault : ax_D := (yX11_fault, cX11_fault, 2, (some .int), [], [], at_X11_fault, [])
def at_X11_count : List (Nat × ax_I) := [(0, .aload_n 0, 1, 0, 0, 0), (1, .iload_n 1, 1, 0, 0, 0), (2, .i2l, 1, 0, 0, 0), (3, .lconst 0, 1, 0, 0, 0), (4, .ldc2_w 410, 3, 0, 0, 3), (7, .invokestatic 131, 3, 134, 3, 0), (10, .invokevirtual 127, 3, 135, 1, 0), (13, .ifCond .ne 5, 3, 0, 0, 0), (16, .iconst 0, 1, 0, 0, 0), (17, .ireturn, 1, 0, 0, 0), (18, .iload_n 1, 1, 0, 0, 0), (19, .iconst 2, 1, 0, 0, 0), (20, .if_icmp .ge 29, 3, 0, 0, 0), (23, .iload_n 1, 1, 0, 0, 0), (24, .ifCond .ne 15, 3, 0, 0, 0), (27, .aload_n 0, 1, 0, 0, 0), (28, .getfield 13, 3, 9, 4, 0), (31, .aload_n 0, 1, 0, 0, 0), (32, .getfield 137, 3, 9, 3, 0), (35, .iaload, 1, 0, 0, 0), (36, .goto 12, 3, 0, 0, 0), (39, .aload_n 0, 1, 0, 0, 0), (40, .getfield 17, 3, 9, 5, 0), (43, .aload_n 0, 1, 0, 0, 0), (44, .getfield 137, 3, 9, 3, 0), (47, .iaload, 1, 0, 0, 0), (48, .ireturn, 1, 0, 0, 0), (49, .aload_n 0, 1, 0, 0, 0), (50, .invokevirtual 274, 3, 172, 0, 0), (53, .iload_n 1, 1, 0, 0, 0), (54, .iconst 2, 1, 0, 0, 0), (55, .if_icmp .ne 10, 3, 0, 0, 0), (58, .aload_n 0, 1, 0, 0, 0), (59, .getfield 205, 3, 9, 26, 0), (62, .goto 7, 3, 0, 0, 0), (65, .aload_n 0, 1, 0, 0, 0), (66, .getfield 211, 3, 9, 29, 0), (69, .ireturn, 1, 0, 0, 0)]
def aD_X11_count : ax_D := (yX11_count, cX11_count, 2, (some .int), [], [], at_X11_count, [])
def at_X11_about : List (Nat × ax_I) := [(0, .aload_n 0, 1, 0, 0, 0), (1, .aload_n 0, 1, 0, 0, 0), (2, .iload_n 1, 1, 0, 0, 0), (3, .invokevirtual 152, 3, 142, 1, 0), (6, .ifCond .eq 19, 3, 0, 0, 0), (9, .iload_n 2, 1, 0, 0, 0), (10, .i2l, 1, 0, 0, 0), (11, .lconst 0, 1, 0, 0, 0), (12, .ldc2_w 412, 3, 0, 0, 5), (15, .invokestatic 131, 3, 134, 3, 0), (18, .ifCond .eq 7, 3, 0, 0, 0), (21, .iconst 1, 1, 0, 0, 0), (22, .goto 4, 3, 0, 0, 0), (25, .iconst 0, 1, 0, 0, 0), (26, .invokevirtual 127, 3, 135, 1, 0), (29, .ifCond .ne 5, 3, 0, 0, 0), (32, .iconst 0, 1, 0, 0, 0), (33, .ireturn, 1, 0, 0, 0), (34, .aload_n 0, 1, 0, 0, 0), (35, .iload_n 1, 1, 0, 0, 0), (36, .invokevirtual 140, 3, 141, 1, 0), (39, .istore_n 3, 1, 0, 0, 0), (40, .iload_n 2, 1, 0, 0, 0), (41, .tableswitch 118 0 4 #[35, 42, 49, 56, 111], 35, 0, 0, 0), (76, .aload_n 0, 1, 0, 0, 0), (77, .getfield 23, 3, 9, 7, 0), (80, .iload_n 3, 1, 0, 0, 0), (81, .iaload, 1, 0, 0, 0), (82, .ireturn, 1, 0, 0, 0), (83, .aload_n 0, 1, 0, 0, 0), (84, .getfield 26, 3, 9, 8, 0), (87, .iload_n 3, 1, 0, 0, 0), (88, .iaload, 1, 0, 0, 0), (89, .ireturn, 1, 0, 0, 0), (90, .aload_n 0, 1, 0, 0, 0), (91, .getfield 29, 3, 9, 9, 0), (94, .iload_n 3, 1, 0, 0, 0), (95, .iaload, 1, 0, 0, 0), (96, .ireturn, 1, 0, 0, 0), (97, .iconst 0, 1, 0, 0, 0), (98, .istore 4, 2, 0, 0, 0), (100, .iconst 0, 1, 0, 0, 0), (101, .istore 5, 2, 0, 0, 0), (103, .iload 5, 2, 0, 0, 0), (105, .aload_n 0, 1, 0, 0, 0), (106, .getfield 13, 3, 9, 4, 0), (109, .aload_n 0, 1, 0, 0, 0), (110, .getfield 137, 3, 9, 3, 0), (113, .iaload, 1, 0, 0, 0), (114, .if_icmp .ge 35, 3, 0, 0, 0), (117, .aload_n 0, 1, 0, 0, 0), (118, .getfield 26, 3, 9, 8, 0), (121, .aload_n 0, 1, 0, 0, 0), (122, .iload 5, 2, 0, 0, 0), (124, .invokevirtual 140, 3, 141, 1, 0), (127, .iaload, 1, 0, 0, 0), (128, .iload_n 1, 1, 0, 0, 0), (129, .if_icmp .ne 10, 3, 0, 0, 0), (132, .iload 4, 2, 0, 0, 0), (134, .iconst 1, 1, 0, 0, 0), (135, .iadd, 1, 0, 0, 0), (136, .goto 5, 3, 0, 0, 0), (139, .iload 4, 2, 0, 0, 0), (141, .istore 4, 2, 0, 0, 0), (143, .iinc 5 1, 3, 0, 0, 0), (146, .goto (-43), 3, 0, 0, 0), (149, .iload 4, 2, 0, 0, 0), (151, .ireturn, 1, 0, 0, 0), (152, .aload_n 0, 1, 0, 0, 0), (153, .getfield 32, 3, 9, 10, 0), (156, .iload_n 3, 1, 0, 0, 0), (157, .iaload, 1, 0, 0, 0), (158, .ireturn, 1, 0, 0, 0), (159, .aload_n 0, 1, 0, 0, 0), (160, .invokevirtual 274, 3, 172, 0, 0), (163, .aload_n 0, 1, 0, 0, 0), (164, .getfield 86, 3, 9, 33, 0), (167, .iload_n 1, 1, 0, 0, 0), (168, .iaload, 1, 0, 0, 0), (169, .ireturn, 1, 0, 0, 0)]
def aD_X11_about : ax_D := (yX11_about, cX11_about, 6, (some .int), [], [], at_X11_about, [])
def at_X11_child : List (Nat × ax_I) := [(0, .aload_n 0, 1, 0, 0, 0), (1, .aload_n 0, 1, 0, 0, 0), (2, .iload_n 1, 1, 0, 0, 0), (3, .invokevirtual 152, 3, 142, 1, 0), (6, .invokevirtual 127, 3, 135, 1, 0), (9, .ifCond .ne 5, 3, 0, 0, 0), (12, .iconst 0, 1, 0, 0, 0), (13, .ireturn, 1, 0, 0, 0), (14, .iload_n 2, 1, 0, 0, 0), (15, .istore_n 3, 1, 0, 0, 0), (16, .iconst 0, 1, 0, 0, 0), (17, .istore 4, 2, 0, 0, 0), (19, .iload 4, 2, 0, 0, 0), (21, .aload_n 0, 1, 0, 0, 0), (22, .getfield 13, 3, 9, 4, 0), (25, .aload_n 0, 1, 0, 0, 0), (26, .getfield 137, 3, 9, 3, 0), (29, .iaload, 1, 0, 0, 0), (30, .if_icmp .ge 38, 3, 0, 0, 0), (33, .iload_n 3, 1, 0, 0, 0), (34, .ifCond .lt 34, 3, 0, 0, 0), (37, .aload_n 0, 1, 0, 0, 0), (38, .getfield 26, 3, 9, 8, 0), (41, .aload_n 0, 1, 0, 0, 0), (42, .iload 4, 2, 0, 0, 0), (44, .invokevirtual 140, 3, 141, 1, 0), (47, .iaload, 1, 0, 0, 0), (48, .iload_n 1, 1, 0, 0, 0), (49, .if_icmp .ne 13, 3, 0, 0, 0), (52, .iload_n 3, 1, 0, 0, 0), (53, .ifCond .ne 6, 3, 0, 0, 0), (56, .iload 4, 2, 0, 0, 0), (58, .ireturn, 1, 0, 0, 0), (59, .iinc 3 (-1), 3, 0, 0, 0), (62, .iinc 4 1, 3, 0, 0, 0), (65, .goto (-46), 3, 0, 0, 0), (68, .iconst (-1), 1, 0, 0, 0), (69, .ireturn, 1, 0, 0, 0)]
def aD_X11_child : ax_D := (yX11_child, cX11_child, 5, (some .int), [], [], at_X11_child, [])
def at_X11_root : List (Nat × ax_I) := [(0, .aload_n 0, 1, 0, 0, 0), (1, .iload_n 1, 1, 0, 0, 0), (2, .i2l, 1, 0, 0, 0), (3, .lconst 0, 1, 0, 0, 0), (4, .aload_n 0, 1, 0, 0, 0), (5, .getfield 17, 3, 9, 5, 0), (8, .aload_n 0, 1, 0, 0, 0), (9, .getfield 137, 3, 9, 3, 0), (12, .iaload, 1, 0, 0, 0), (13, .iconst 1, 1, 0, 0, 0), (14, .isub, 1, 0, 0, 0), (15, .i2l, 1, 0, 0, 0), (16, .invokestatic 131, 3, 134, 3, 0), (19, .invokevirtual 127, 3, 135, 1, 0), (22, .ifCond .eq 20, 3, 0, 0, 0), (25, .aload_n 0, 1, 0, 0, 0), (26, .getfield 20, 3, 9, 6, 0), (29, .bipush 6, 2, 0, 0, 0), (31, .aload_n 0, 1, 0, 0, 0), (32, .getfield 137, 3, 9, 3, 0), (35, .imul, 1, 0, 0, 0), (36, .iload_n 1, 1, 0, 0, 0), (37, .iadd, 1, 0, 0, 0), (38, .iaload, 1, 0, 0, 0), (39, .goto 4, 3, 0, 0, 0), (42, .iconst 0, 1, 0, 0, 0), (43, .ireturn, 1, 0, 0, 0)]
def aD_X11_root : ax_D := (yX11_root, cX11_root, 2, (some .int), [], [], at_X11_root, [])
def at_X11_isAttribute : List (Nat × ax_I) := [(0, .aload_n 0, 1, 0, 0, 0), (1, .iload_n 1, 1, 0, 0, 0), (2, .invokevirtual 152, 3, 142, 1, 0), (5, .ifCond .eq 29, 3, 0, 0, 0), (8, .iload_n 2, 1, 0, 0, 0), (9, .i2l, 1, 0, 0, 0), (10, .lconst 0, 1, 0, 0, 0), (11, .aload_n 0, 1, 0, 0, 0), (12, .getfield 32, 3, 9, 10, 0), (15, .aload_n 0, 1, 0, 0, 0), (16, .iload_n 1, 1, 0, 0, 0), (17, .invokevirtual 140, 3, 141, 1, 0), (20, .iaload, 1, 0, 0, 0), (21, .iconst 1, 1, 0, 0, 0), (22, .isub, 1, 0, 0, 0), (23, .i2l, 1, 0, 0, 0), (24, .invokestatic 131, 3, 134, 3, 0), (27, .ifCond .eq 7, 3, 0, 0, 0), (30, .iconst 1, 1, 0, 0, 0), (31, .goto 4, 3, 0, 0, 0), (34, .iconst 0, 1, 0, 0, 0), (35, .ireturn, 1, 0, 0, 0)]
def aD_X11_isAttribute : ax_D := (yX11_isAttribute, cX11_isAttribute, 3, (some .boolean), [], [], at_X11_isAttribute, [])
def at_X11_attribute : List (Nat × ax_I) := [(0, .aload_n 0, 1, 0, 0, 0), (1, .aload_n 0, 1, 0, 0, 0), (2, .iload_n 1, 1, 0, 0, 0), (3, .iload_n 2, 1, 0, 0, 0), (4, .invokevirtual 414, 3, 211, 2, 0), (7, .ifCond .eq 19, 3, 0, 0, 0), (10, .iload_n 3, 1, 0, 0, 0), (11, .i2l, 1, 0, 0, 0), (12, .lconst 0, 1, 0, 0, 0), (13, .ldc2_w 292, 3, 0, 0, 2), (16, .invokestatic 131, 3, 134, 3, 0), (19, .ifCond .eq 7, 3, 0, 0, 0), (22, .iconst 1, 1, 0, 0, 0), (23, .goto 4, 3, 0, 0, 0), (26, .iconst 0, 1, 0, 0, 0), (27, .invokevirtual 127, 3, 135, 1, 0), (30, .ifCond .ne 5, 3, 0, 0, 0), (33, .iconst 0, 1, 0, 0, 0), (34, .ireturn, 1, 0, 0, 0), (35, .bipush 8, 2, 0, 0, 0), (37, .aload_n 0, 1, 0, 0, 0), (38, .iload_n 1, 1, 0, 0, 0), (39, .invokevirtual 140, 3, 141, 1, 0), (42, .imul, 1, 0, 0, 0), (43, .iload_n 2, 1, 0, 0, 0), (44, .iadd, 1, 0, 0, 0), (45, .istore 4, 2, 0, 0, 0), (47, .iload_n 3, 1, 0, 0, 0), (48, .ifCond .ne 13, 3, 0, 0, 0), (51, .aload_n 0, 1, 0, 0, 0), (52, .getfield 35, 3, 9, 11, 0), (55, .iload 4, 2, 0, 0, 0), (57, .iaload, 1, 0, 0, 0), (58, .goto 25, 3, 0, 0, 0), (61, .iload_n 3, 1, 0, 0, 0), (62, .iconst 1, 1, 0, 0, 0), (63, .if_icmp .ne 13, 3, 0, 0, 0), (66, .aload_n 0, 1, 0, 0, 0), (67, .getfield 38, 3, 9, 12, 0), (70, .iload 4, 2, 0, 0, 0), (72, .iaload, 1, 0, 0, 0), (73, .goto 10, 3, 0, 0, 0), (76, .aload_n 0, 1, 0, 0, 0), (77, .getfield 48, 3, 9, 15, 0), (80, .iload 4, 2, 0, 0, 0), (82, .iaload, 1, 0, 0, 0), (83, .ireturn, 1, 0, 0, 0)]
def aD_X11_attribute : ax_D := (yX11_attribute, cX11_attribute, 5, (some .int), [], [], at_X11_attribute, [])
def at_X11_value : List (Nat × ax_I) := [(0, .aload_n 0, 1, 0, 0, 0), (1, .aload_n 0, 1, 0, 0, 0), (2, .iload_n 1, 1, 0, 0, 0), (3, .iload_n 2, 1, 0, 0, 0), (4, .invokevirtual 414, 3, 211, 2, 0), (7, .invokevirtual 127, 3, 135, 1, 0), (10, .ifCond .ne 5, 3, 0, 0, 0), (13, .lconst 0, 1, 0, 0, 0), (14, .lreturn, 1, 0, 0, 0), (15, .bipush 8, 2, 0, 0, 0), (17, .aload_n 0, 1, 0, 0, 0), (18, .iload_n 1, 1, 0, 0, 0), (19, .invokevirtual 140, 3, 141, 1, 0), (22, .imul, 1, 0, 0, 0), (23, .iload_n 2, 1, 0, 0, 0), (24, .iadd, 1, 0, 0, 0), (25, .istore_n 3, 1, 0, 0, 0), (26, .aload_n 0, 1, 0, 0, 0), (27, .getfield 38, 3, 9, 12, 0), (30, .iload_n 3, 1, 0, 0, 0), (31, .iaload, 1, 0, 0, 0), (32, .invokestatic 163, 3, 148, 1, 0), (35, .ifCond .ne 14, 3, 0, 0, 0), (38, .aload_n 0, 1, 0, 0, 0), (39, .getfield 38, 3, 9, 12, 0), (42, .iload_n 3, 1, 0, 0, 0), (43, .iaload, 1, 0, 0, 0), (44, .bipush 10, 2, 0, 0, 0), (46, .if_icmp .ne 7, 3, 0, 0, 0), (49, .lconst 0, 1, 0, 0, 0), (50, .goto 9, 3, 0, 0, 0), (53, .aload_n 0, 1, 0, 0, 0), (54, .getfield 41, 3, 9, 13, 0), (57, .iload_n 3, 1, 0, 0, 0), (58, .laload, 1, 0, 0, 0), (59, .lreturn, 1, 0, 0, 0)]
def aD_X11_value : ax_D := (yX11_value, cX11_value, 4, (some .long), [], [], at_X11_value, [])
def at_X11_letter : List (Nat × ax_I) := [(0, .aload_n 0, 1, 0, 0, 0), (1, .aload_n 0, 1, 0, 0, 0), (2, .iload_n 1, 1, 0, 0, 0), (3, .iload_n 2, 1, 0, 0, 0), (4, .invokevirtual 414, 3, 211, 2, 0), (7, .ifCond .eq 34, 3, 0, 0, 0), (10, .iload_n 3, 1, 0, 0, 0), (11, .i2l, 1, 0, 0, 0), (12, .lconst 0, 1, 0, 0, 0), (13, .aload_n 0, 1, 0, 0, 0), (14, .getfield 48, 3, 9, 15, 0), (17, .bipush 8, 2, 0, 0, 0), (19, .aload_n 0, 1, 0, 0, 0), (20, .iload_n 1, 1, 0, 0, 0), (21, .invokevirtual 140, 3, 141, 1, 0), (24, .imul, 1, 0, 0, 0), (25, .iload_n 2, 1, 0, 0, 0), (26, .iadd, 1, 0, 0, 0), (27, .iaload, 1, 0, 0, 0), (28, .iconst 1, 1, 0, 0, 0), (29, .isub, 1, 0, 0, 0), (30, .i2l, 1, 0, 0, 0), (31, .invokestatic 131, 3, 134, 3, 0), (34, .ifCond .eq 7, 3, 0, 0, 0), (37, .iconst 1, 1, 0, 0, 0), (38, .goto 4, 3, 0, 0, 0), (41, .iconst 0, 1, 0, 0, 0), (42, .invokevirtual 127, 3, 135, 1, 0), (45, .ifCond .ne 5, 3, 0, 0, 0), (48, .iconst 0, 1, 0, 0, 0), (49, .ireturn, 1, 0, 0, 0), (50, .aload_n 0, 1, 0, 0, 0), (51, .getfield 58, 3, 9, 18, 0), (54, .aload_n 0, 1, 0, 0, 0), (55, .getfield 45, 3, 9, 14, 0), (58, .bipush 8, 2, 0, 0, 0), (60, .aload_n 0, 1, 0, 0, 0), (61, .iload_n 1, 1, 0, 0, 0), (62, .invokevirtual 140, 3, 141, 1, 0), (65, .imul, 1, 0, 0, 0), (66, .iload_n 2, 1, 0, 0, 0), (67, .iadd, 1, 0, 0, 0), (68, .iaload, 1, 0, 0, 0), (69, .iload_n 3, 1, 0, 0, 0), (70, .iadd, 1, 0, 0, 0), (71, .baload, 1, 0, 0, 0), (72, .sipush 255, 3, 0, 0, 0), (75, .iand, 1, 0, 0, 0), (76, .ireturn, 1, 0, 0, 0)]
def aD_X11_letter : ax_D := (yX11_letter, cX11_letter, 4, (some .int), [], [], at_X11_letter, [])
def at_X11_isNamed : List (Nat × ax_I) := [(0, .aload_n 0, 1, 0, 0, 0), (1, .iload_n 1, 1, 0, 0, 0), (2, .invokevirtual 140, 3, 141, 1, 0), (5, .istore_n 3, 1, 0, 0, 0), (6, .bipush 8, 2, 0, 0, 0), (8, .iload_n 3, 1, 0, 0, 0), (9, .imul, 1, 0, 0, 0), (10, .istore 4, 2, 0, 0, 0), (12, .iload 4, 2, 0, 0, 0), (14, .bipush 8, 2, 0, 0, 0), (16, .iload_n 3, 1, 0, 0, 0), (17, .imul, 1, 0, 0, 0), (18, .aload_n 0, 1, 0, 0, 0), (19, .getfield 32, 3, 9, 10, 0), (22, .iload_n 3, 1, 0, 0, 0), (23, .iaload, 1, 0, 0, 0), (24, .iadd, 1, 0, 0, 0), (25, .if_icmp .ge 106, 3, 0, 0, 0), (28, .aload_n 0, 1, 0, 0, 0), (29, .getfield 35, 3, 9, 11, 0), (32, .iload 4, 2, 0, 0, 0), (34, .iaload, 1, 0, 0, 0), (35, .iconst 3, 1, 0, 0, 0), (36, .if_icmp .ne 89, 3, 0, 0, 0), (39, .aload_n 0, 1, 0, 0, 0), (40, .getfield 38, 3, 9, 12, 0), (43, .iload 4, 2, 0, 0, 0), (45, .iaload, 1, 0, 0, 0), (46, .invokestatic 163, 3, 148, 1, 0), (49, .ifCond .eq 76, 3, 0, 0, 0), (52, .aload_n 0, 1, 0, 0, 0), (53, .getfield 48, 3, 9, 15, 0), (56, .iload 4, 2, 0, 0, 0), (58, .iaload, 1, 0, 0, 0), (59, .iload_n 2, 1, 0, 0, 0), (60, .if_icmp .ne 7, 3, 0, 0, 0), (63, .iconst 1, 1, 0, 0, 0), (64, .goto 4, 3, 0, 0, 0), (67, .iconst 0, 1, 0, 0, 0), (68, .istore 5, 2, 0, 0, 0), (70, .iconst 0, 1, 0, 0, 0), (71, .istore 6, 2, 0, 0, 0), (73, .iload 6, 2, 0, 0, 0), (75, .iload_n 2, 1, 0, 0, 0), (76, .if_icmp .ge 46, 3, 0, 0, 0), (79, .iload 5, 2, 0, 0, 0), (81, .ifCond .eq 41, 3, 0, 0, 0), (84, .aload_n 0, 1, 0, 0, 0), (85, .getfield 58, 3, 9, 18, 0), (88, .aload_n 0, 1, 0, 0, 0), (89, .getfield 45, 3, 9, 14, 0), (92, .iload 4, 2, 0, 0, 0), (94, .iaload, 1, 0, 0, 0), (95, .iload 6, 2, 0, 0, 0), (97, .iadd, 1, 0, 0, 0), (98, .baload, 1, 0, 0, 0), (99, .aload_n 0, 1, 0, 0, 0), (100, .getfield 7, 3, 9, 1, 0), (103, .iload 6, 2, 0, 0, 0), (105, .baload, 1, 0, 0, 0), (106, .if_icmp .ne 7, 3, 0, 0, 0), (109, .iconst 1, 1, 0, 0, 0), (110, .goto 4, 3, 0, 0, 0), (113, .iconst 0, 1, 0, 0, 0), (114, .istore 5, 2, 0, 0, 0), (116, .iinc 6 1, 3, 0, 0, 0), (119, .goto (-46), 3, 0, 0, 0), (122, .iload 5, 2, 0, 0, 0), (124, .ireturn, 1, 0, 0, 0), (125, .iinc 4 1, 3, 0, 0, 0), (128, .goto (-116), 3, 0, 0, 0), (131, .iconst 0, 1, 0, 0, 0), (132, .ireturn, 1, 0, 0, 0)]
def aD_X11_isNamed : ax_D := (yX11_isNamed, cX11_isNamed, 7, (some .boolean), [], [], at_X11_isNamed, [])
def at_X11_find : List (Nat × ax_I) := [(0, .aload_n 0, 1, 0, 0, 0), (1, .iload_n 1, 1, 0, 0, 0), (2, .iconst (-1), 1, 0, 0, 0), (3, .if_icmp .eq 11, 3, 0, 0, 0), (6, .aload_n 0, 1, 0, 0, 0), (7, .iload_n 1, 1, 0, 0, 0), (8, .invokevirtual 152, 3, 142, 1, 0), (11, .ifCond .eq 7, 3, 0, 0, 0), (14, .iconst 1, 1, 0, 0, 0), (15, .goto 4, 3, 0, 0, 0), (18, .iconst 0, 1, 0, 0, 0), (19, .invokevirtual 127, 3, 135, 1, 0), (22, .ifCond .ne 5, 3, 0, 0, 0), (25, .iconst 0, 1, 0, 0, 0), (26, .ireturn, 1, 0, 0, 0), (27, .aload_n 0, 1, 0, 0, 0), (28, .getfield 124, 3, 9, 2, 0), (31, .istore_n 2, 1, 0, 0, 0), (32, .aload_n 0, 1, 0, 0, 0), (33, .iconst 0, 1, 0, 0, 0), (34, .putfield 124, 3, 9, 2, 0), (37, .iconst 0, 1, 0, 0, 0), (38, .istore_n 3, 1, 0, 0, 0), (39, .iload_n 3, 1, 0, 0, 0), (40, .aload_n 0, 1, 0, 0, 0), (41, .getfield 13, 3, 9, 4, 0), (44, .aload_n 0, 1, 0, 0, 0), (45, .getfield 137, 3, 9, 3, 0), (48, .iaload, 1, 0, 0, 0), (49, .if_icmp .ge 34, 3, 0, 0, 0), (52, .aload_n 0, 1, 0, 0, 0), (53, .getfield 26, 3, 9, 8, 0), (56, .aload_n 0, 1, 0, 0, 0), (57, .iload_n 3, 1, 0, 0, 0), (58, .invokevirtual 140, 3, 141, 1, 0), (61, .iaload, 1, 0, 0, 0), (62, .iload_n 1, 1, 0, 0, 0), (63, .if_icmp .ne 14, 3, 0, 0, 0), (66, .aload_n 0, 1, 0, 0, 0), (67, .iload_n 3, 1, 0, 0, 0), (68, .iload_n 2, 1, 0, 0, 0), (69, .invokevirtual 417, 3, 215, 2, 0), (72, .ifCond .eq 5, 3, 0, 0, 0), (75, .iload_n 3, 1, 0, 0, 0), (76, .ireturn, 1, 0, 0, 0), (77, .iinc 3 1, 3, 0, 0, 0), (80, .goto (-41), 3, 0, 0, 0), (83, .iconst (-1), 1, 0, 0, 0), (84, .ireturn, 1, 0, 0, 0)]
def aD_X11_find : ax_D := (yX11_find, cX11_find, 4, (some .int), [], [], at_X11_find, [])
def at_X11_numberNamed : List (Nat × ax_I) := [(0, .aload_n 0, 1, 0, 0, 0), (1, .iload_n 1, 1, 0, 0, 0), (2, .invokevirtual 140, 3, 141, 1, 0), (5, .istore_n 3, 1, 0, 0, 0), (6, .bipush 8, 2, 0, 0, 0), (8, .iload_n 3, 1, 0, 0, 0), (9, .imul, 1, 0, 0, 0), (10, .istore 4, 2, 0, 0, 0), (12, .iload 4, 2, 0, 0, 0), (14, .bipush 8, 2, 0, 0, 0), (16, .iload_n 3, 1, 0, 0, 0), (17, .imul, 1, 0, 0, 0), (18, .aload_n 0, 1, 0, 0, 0), (19, .getfield 32, 3, 9, 10, 0), (22, .iload_n 3, 1, 0, 0, 0), (23, .iaload, 1, 0, 0, 0), (24, .iadd, 1, 0, 0, 0), (25, .if_icmp .ge 36, 3, 0, 0, 0), (28, .aload_n 0, 1, 0, 0, 0), (29, .getfield 35, 3, 9, 11, 0), (32, .iload 4, 2, 0, 0, 0), (34, .iaload, 1, 0, 0, 0), (35, .iload_n 2, 1, 0, 0, 0), (36, .if_icmp .ne 19, 3, 0, 0, 0), (39, .aload_n 0, 1, 0, 0, 0), (40, .getfield 38, 3, 9, 12, 0), (43, .iload 4, 2, 0, 0, 0), (45, .iaload, 1, 0, 0, 0), (46, .invokestatic 160, 3, 147, 1, 0), (49, .ifCond .eq 6, 3, 0, 0, 0), (52, .iload 4, 2, 0, 0, 0), (54, .ireturn, 1, 0, 0, 0), (55, .iinc 4 1, 3, 0, 0, 0), (58, .goto (-46), 3, 0, 0, 0), (61, .iconst (-1), 1, 0, 0, 0), (62, .ireturn, 1, 0, 0, 0)]
def aD_X11_numberNamed : ax_D := (yX11_numberNamed, cX11_numberNamed, 5, (some .int), [], [], at_X11_numberNamed, [])
def at_X11_isBelow : List (Nat × ax_I) := [(0, .lload_n 0, 1, 0, 0, 0), (1, .ldc2_w 420, 3, 0, 0, (-9223372036854775808)), (4, .lxor, 1, 0, 0, 0), (5, .lload_n 2, 1, 0, 0, 0), (6, .ldc2_w 420, 3, 0, 0, (-9223372036854775808)), (9, .lxor, 1, 0, 0, 0), (10, .lcmp, 1, 0, 0, 0), (11, .ifCond .ge 7, 3, 0, 0, 0), (14, .iconst 1, 1, 0, 0, 0), (15, .goto 4, 3, 0, 0, 0), (18, .iconst 0, 1, 0, 0, 0), (19, .ireturn, 1, 0, 0, 0)]
def aD_X11_isBelow : ax_D := (yX11_isBelow, cX11_isBelow, 4, (some .boolean), [], [], at_X11_isBelow, [])
def at_X11_covers : List (Nat × ax_I) := [(0, .aload_n 0, 1, 0, 0, 0), (1, .iconst 0, 1, 0, 0, 0), (2, .putfield 120, 3, 9, 0, 0), (5, .iconst (-1), 1, 0, 0, 0), (6, .istore_n 3, 1, 0, 0, 0), (7, .iconst (-1), 1, 0, 0, 0), (8, .istore 4, 2, 0, 0, 0), (10, .iconst 0, 1, 0, 0, 0), (11, .istore 5, 2, 0, 0, 0), (13, .iload 5, 2, 0, 0, 0), (15, .aload_n 0, 1, 0, 0, 0), (16, .getfield 13, 3, 9, 4, 0), (19, .aload_n 0, 1, 0, 0, 0), (20, .getfield 137, 3, 9, 3, 0), (23, .iaload, 1, 0, 0, 0), (24, .if_icmp .ge 103, 3, 0, 0, 0), (27, .aload_n 0, 1, 0, 0, 0), (28, .iload 5, 2, 0, 0, 0), (30, .bipush 17, 2, 0, 0, 0), (32, .invokevirtual 422, 3, 217, 2, 0), (35, .istore 6, 2, 0, 0, 0), (37, .aload_n 0, 1, 0, 0, 0), (38, .iload 5, 2, 0, 0, 0), (40, .bipush 18, 2, 0, 0, 0), (42, .invokevirtual 422, 3, 217, 2, 0), (45, .istore 7, 2, 0, 0, 0), (47, .iload 6, 2, 0, 0, 0), (49, .iconst (-1), 1, 0, 0, 0), (50, .if_icmp .eq 41, 3, 0, 0, 0), (53, .iload 7, 2, 0, 0, 0), (55, .iconst (-1), 1, 0, 0, 0), (56, .if_icmp .eq 35, 3, 0, 0, 0), (59, .lload_n 1, 1, 0, 0, 0), (60, .aload_n 0, 1, 0, 0, 0), (61, .getfield 41, 3, 9, 13, 0), (64, .iload 6, 2, 0, 0, 0), (66, .laload, 1, 0, 0, 0), (67, .invokestatic 425, 3, 218, 2, 0), (70, .ifCond .ne 21, 3, 0, 0, 0), (73, .lload_n 1, 1, 0, 0, 0), (74, .aload_n 0, 1, 0, 0, 0), (75, .getfield 41, 3, 9, 13, 0), (78, .iload 7, 2, 0, 0, 0), (80, .laload, 1, 0, 0, 0), (81, .invokestatic 425, 3, 218, 2, 0), (84, .ifCond .eq 7, 3, 0, 0, 0), (87, .iconst 1, 1, 0, 0, 0), (88, .goto 4, 3, 0, 0, 0), (91, .iconst 0, 1, 0, 0, 0), (92, .istore 8, 2, 0, 0, 0), (94, .iload 8, 2, 0, 0, 0), (96, .ifCond .eq 25, 3, 0, 0, 0), (99, .aload_n 0, 1, 0, 0, 0), (100, .iload 5, 2, 0, 0, 0), (102, .invokevirtual 155, 3, 145, 1, 0), (105, .iload 4, 2, 0, 0, 0), (107, .if_icmp .le 14, 3, 0, 0, 0), (110, .aload_n 0, 1, 0, 0, 0), (111, .iload 5, 2, 0, 0, 0), (113, .invokevirtual 155, 3, 145, 1, 0), (116, .istore 4, 2, 0, 0, 0), (118, .iload 5, 2, 0, 0, 0), (120, .istore_n 3, 1, 0, 0, 0), (121, .iinc 5 1, 3, 0, 0, 0), (124, .goto (-111), 3, 0, 0, 0), (127, .iload_n 3, 1, 0, 0, 0), (128, .ireturn, 1, 0, 0, 0)]
def aD_X11_covers : ax_D := (yX11_covers, cX11_covers, 9, (some .int), [], [], at_X11_covers, [])
def at_J7_fill_53178 : List (Nat × ax_I) := [(0, .iconst 0, 1, 0, 0, 0), (1, .istore_n 2, 1, 0, 0, 0), (2, .aload_n 0, 1, 0, 0, 0), (3, .arraylength, 1, 0, 0, 0), (4, .istore_n 3, 1, 0, 0, 0), (5, .iload_n 2, 1, 0, 0, 0), (6, .iload_n 3, 1, 0, 0, 0), (7, .if_icmp .ge 13, 3, 0, 0, 0), (10, .aload_n 0, 1, 0, 0, 0), (11, .iload_n 2, 1, 0, 0, 0), (12, .iload_n 1, 1, 0, 0, 0), (13, .iastore, 1, 0, 0, 0), (14, .iinc 2 1, 3, 0, 0, 0), (17, .goto (-12), 3, 0, 0, 0), (20, .return_, 1, 0, 0, 0)]
def aD_J7_fill_53178 : ax_D := (yJ7_fill_53178, cJ7_fill_53178, 4, none, [], [], at_J7_fill_53178, [])
def at_L_feed : List (Nat × ax_I) := [(0, .aload 6, 2, 0, 0, 0), (2, .iconst 0, 1, 0, 0, 0), (3, .aload_n 0, 1, 0, 0, 0), (4, .iload_n 1, 1, 0, 0, 0), (5, .iload_n 2, 1, 0, 0, 0), (6, .iload_n 3, 1, 0, 0, 0), (7, .iload 4, 2, 0, 0, 0), (9, .iload 5, 2, 0, 0, 0), (11, .invokevirtual 7, 3, 93, 5, 0), (14, .i2l, 1, 0, 0, 0), (15, .lastore, 1, 0, 0, 0), (16, .goto 7, 3, 0, 0, 0), (19, .astore 7, 2, 0, 0, 0), (21, .iconst 1, 1, 0, 0, 0), (22, .ireturn, 1, 0, 0, 0), (23, .iconst 0, 1, 0, 0, 0), (24, .ireturn, 1, 0, 0, 0)]
def aD_L_feed : ax_D := (yL_feed, cL_feed, 8, (some .int), [(0, 16, 19, 13)], ["java/lang/IllegalStateException"], at_L_feed, [])
def at_L_end : List (Nat × ax_I) := [(0, .aload_n 0, 1, 0, 0, 0), (1, .iload_n 1, 1, 0, 0, 0), (2, .invokevirtual 15, 3, 94, 1, 0), (5, .goto 6, 3, 0, 0, 0), (8, .astore_n 2, 1, 0, 0, 0), (9, .iconst 1, 1, 0, 0, 0), (10, .ireturn, 1, 0, 0, 0), (11, .iconst 0, 1, 0, 0, 0), (12, .ireturn, 1, 0, 0, 0)]
def aD_L_end : ax_D := (yL_end, cL_end, 3, (some .int), [(0, 5, 8, 19)], ["java/lang/IllegalArgumentException"], at_L_end, [])
def at_L_unit : List (Nat × ax_I) := [(0, .aload_n 2, 1, 0, 0, 0), (1, .iconst 0, 1, 0, 0, 0), (2, .aload_n 0, 1, 0, 0, 0), (3, .iload_n 1, 1, 0, 0, 0), (4, .invokevirtual 21, 3, 95, 1, 0), (7, .i2l, 1, 0, 0, 0), (8, .lastore, 1, 0, 0, 0), (9, .goto 9, 3, 0, 0, 0), (12, .astore_n 3, 1, 0, 0, 0), (13, .iconst 1, 1, 0, 0, 0), (14, .ireturn, 1, 0, 0, 0), (15, .astore_n 3, 1, 0, 0, 0), (16, .iconst 2, 1, 0, 0, 0), (17, .ireturn, 1, 0, 0, 0), (18, .iconst 0, 1, 0, 0, 0), (19, .ireturn, 1, 0, 0, 0)]
def aD_L_unit : ax_D := (yL_unit, cL_unit, 4, (some .int), [(0, 9, 12, 19), (0, 9, 15, 25)], ["java/lang/IllegalArgumentException", "java/lang/UnsupportedOperationException"], at_L_unit, [])
def at_L_entry : List (Nat × ax_I) := [(0, .aload_n 3, 1, 0, 0, 0), (1, .iconst 0, 1, 0, 0, 0), (2, .aload_n 0, 1, 0, 0, 0), (3, .iload_n 1, 1, 0, 0, 0), (4, .iload_n 2, 1, 0, 0, 0), (5, .invokevirtual 27, 3, 96, 2, 0), (8, .i2l, 1, 0, 0, 0), (9, .lastore, 1, 0, 0, 0), (10, .goto 15, 3, 0, 0, 0), (13, .astore 4, 2, 0, 0, 0), (15, .iconst 1, 1, 0, 0, 0), (16, .ireturn, 1, 0, 0, 0), (17, .astore 4, 2, 0, 0, 0), (19, .iconst 2, 1, 0, 0, 0), (20, .ireturn, 1, 0, 0, 0), (21, .astore 4, 2, 0, 0, 0), (23, .iconst 3, 1, 0, 0, 0), (24, .ireturn, 1, 0, 0, 0), (25, .iconst 0, 1, 0, 0, 0), (26, .ireturn, 1, 0, 0, 0)]
def aD_L_entry : ax_D := (yL_entry, cL_entry, 5, (some .int), [(0, 10, 13, 31), (0, 10, 17, 19), (0, 10, 21, 25)], ["java/lang/IndexOutOfBoundsException", "java/lang/IllegalArgumentException", "java/lang/UnsupportedOperationException"], at_L_entry, [])
def at_L_number : List (Nat × ax_I) := [(0, .aload 6, 2, 0, 0, 0), (2, .iconst 0, 1, 0, 0, 0), (3, .aload_n 0, 1, 0, 0, 0), (4, .iload_n 1, 1, 0, 0, 0), (5, .iload_n 2, 1, 0, 0, 0), (6, .iload_n 3, 1, 0, 0, 0), (7, .lload 4, 2, 0, 0, 0), (9, .invokevirtual 33, 3, 97, 4, 0), (12, .i2l, 1, 0, 0, 0), (13, .lastore, 1, 0, 0, 0), (14, .goto 15, 3, 0, 0, 0), (17, .astore 7, 2, 0, 0, 0), (19, .iconst 1, 1, 0, 0, 0), (20, .ireturn, 1, 0, 0, 0), (21, .astore 7, 2, 0, 0, 0), (23, .iconst 2, 1, 0, 0, 0), (24, .ireturn, 1, 0, 0, 0), (25, .astore 7, 2, 0, 0, 0), (27, .iconst 3, 1, 0, 0, 0), (28, .ireturn, 1, 0, 0, 0), (29, .iconst 0, 1, 0, 0, 0), (30, .ireturn, 1, 0, 0, 0)]
def aD_L_number : ax_D := (yL_number, cL_number, 8, (some .int), [(0, 14, 17, 31), (0, 14, 21, 19), (0, 14, 25, 25)], ["java/lang/IndexOutOfBoundsException", "java/lang/IllegalArgumentException", "java/lang/UnsupportedOperationException"], at_L_number, [])
def at_L_bytes : List (Nat × ax_I) := [(0, .aload 4, 2, 0, 0, 0), (2, .iconst 0, 1, 0, 0, 0), (3, .aload_n 0, 1, 0, 0, 0), (4, .iload_n 1, 1, 0, 0, 0), (5, .iload_n 2, 1, 0, 0, 0), (6, .iload_n 3, 1, 0, 0, 0), (7, .invokevirtual 37, 3, 98, 3, 0), (10, .i2l, 1, 0, 0, 0), (11, .lastore, 1, 0, 0, 0), (12, .goto 15, 3, 0, 0, 0), (15, .astore 5, 2, 0, 0, 0), (17, .iconst 1, 1, 0, 0, 0), (18, .ireturn, 1, 0, 0, 0), (19, .astore 5, 2, 0, 0, 0), (21, .iconst 2, 1, 0, 0, 0), (22, .ireturn, 1, 0, 0, 0), (23, .astore 5, 2, 0, 0, 0), (25, .iconst 3, 1, 0, 0, 0), (26, .ireturn, 1, 0, 0, 0), (27, .iconst 0, 1, 0, 0, 0), (28, .ireturn, 1, 0, 0, 0)]
def aD_L_bytes : ax_D := (yL_bytes, cL_bytes, 6, (some .int), [(0, 12, 15, 31), (0, 12, 19, 19), (0, 12, 23, 25)], ["java/lang/IndexOutOfBoundsException", "java/lang/IllegalArgumentException", "java/lang/UnsupportedOperationException"], at_L_bytes, [])
def at_L_reference : List (Nat × ax_I) := [(0, .aload 5, 2, 0, 0, 0), (2, .iconst 0, 1, 0, 0, 0), (3, .aload_n 0, 1, 0, 0, 0), (4, .iload_n 1, 1, 0, 0, 0), (5, .iload_n 2, 1, 0, 0, 0), (6, .iload_n 3, 1, 0, 0, 0), (7, .iload 4, 2, 0, 0, 0), (9, .invokevirtual 41, 3, 99, 4, 0), (12, .i2l, 1, 0, 0, 0), (13, .lastore, 1, 0, 0, 0), (14, .goto 19, 3, 0, 0, 0), (17, .astore 6, 2, 0, 0, 0), (19, .iconst 1, 1, 0, 0, 0), (20, .ireturn, 1, 0, 0, 0), (21, .astore 6, 2, 0, 0, 0), (23, .iconst 2, 1, 0, 0, 0), (24, .ireturn, 1, 0, 0, 0), (25, .astore 6, 2, 0, 0, 0), (27, .iconst 3, 1, 0, 0, 0), (28, .ireturn, 1, 0, 0, 0), (29, .astore 6, 2, 0, 0, 0), (31, .iconst 4, 1, 0, 0, 0), (32, .ireturn, 1, 0, 0, 0), (33, .iconst 0, 1, 0, 0, 0), (34, .ireturn, 1, 0, 0, 0)]
def aD_L_reference : ax_D := (yL_reference, cL_reference, 7, (some .int), [(0, 14, 17, 31), (0, 14, 21, 13), (0, 14, 25, 19), (0, 14, 29, 25)], ["java/lang/IndexOutOfBoundsException", "java/lang/IllegalStateException", "java/lang/IllegalArgumentException", "java/lang/UnsupportedOperationException"], at_L_reference, [])
def at_L_size : List (Nat × ax_I) := [(0, .aload_n 2, 1, 0, 0, 0), (1, .iconst 0, 1, 0, 0, 0), (2, .aload_n 0, 1, 0, 0, 0), (3, .iload_n 1, 1, 0, 0, 0), (4, .invokevirtual 45, 3, 102, 1, 0), (7, .i2l, 1, 0, 0, 0), (8, .lastore, 1, 0, 0, 0), (9, .goto 6, 3, 0, 0, 0), (12, .astore_n 3, 1, 0, 0, 0), (13, .iconst 1, 1, 0, 0, 0), (14, .ireturn, 1, 0, 0, 0), (15, .iconst 0, 1, 0, 0, 0), (16, .ireturn, 1, 0, 0, 0)]
def aD_L_size : ax_D := (yL_size, cL_size, 4, (some .int), [(0, 9, 12, 31)], ["java/lang/IndexOutOfBoundsException"], at_L_size, [])
def at_L_octet : List (Nat × ax_I) := [(0, .aload_n 3, 1, 0, 0, 0), (1, .iconst 0, 1, 0, 0, 0), (2, .aload_n 0, 1, 0, 0, 0), (3, .iload_n 1, 1, 0, 0, 0), (4, .iload_n 2, 1, 0, 0, 0), (5, .invokevirtual 48, 3, 103, 2, 0), (8, .i2l, 1, 0, 0, 0), (9, .lastore, 1, 0, 0, 0), (10, .goto 7, 3, 0, 0, 0), (13, .astore 4, 2, 0, 0, 0), (15, .iconst 1, 1, 0, 0, 0), (16, .ireturn, 1, 0, 0, 0), (17, .iconst 0, 1, 0, 0, 0), (18, .ireturn, 1, 0, 0, 0)]
def aD_L_octet : ax_D := (yL_octet, cL_octet, 5, (some .int), [(0, 10, 13, 31)], ["java/lang/IndexOutOfBoundsException"], at_L_octet, [])
def at_L_load : List (Nat × ax_I) := [(0, .aload_n 2, 1, 0, 0, 0), (1, .iconst 0, 1, 0, 0, 0), (2, .aload_n 0, 1, 0, 0, 0), (3, .iload_n 1, 1, 0, 0, 0), (4, .invokevirtual 51, 3, 104, 1, 0), (7, .i2l, 1, 0, 0, 0), (8, .lastore, 1, 0, 0, 0), (9, .goto 9, 3, 0, 0, 0), (12, .astore_n 3, 1, 0, 0, 0), (13, .iconst 1, 1, 0, 0, 0), (14, .ireturn, 1, 0, 0, 0), (15, .astore_n 3, 1, 0, 0, 0), (16, .iconst 2, 1, 0, 0, 0), (17, .ireturn, 1, 0, 0, 0), (18, .iconst 0, 1, 0, 0, 0), (19, .ireturn, 1, 0, 0, 0)]
def aD_L_load : ax_D := (yL_load, cL_load, 4, (some .int), [(0, 9, 12, 31), (0, 9, 15, 25)], ["java/lang/IndexOutOfBoundsException", "java/lang/UnsupportedOperationException"], at_L_load, [])
def at_L_alter : List (Nat × ax_I) := [(0, .aload 4, 2, 0, 0, 0), (2, .iconst 0, 1, 0, 0, 0), (3, .aload_n 0, 1, 0, 0, 0), (4, .iload_n 1, 1, 0, 0, 0), (5, .iload_n 2, 1, 0, 0, 0), (6, .iload_n 3, 1, 0, 0, 0), (7, .invokevirtual 54, 3, 105, 3, 0), (10, .i2l, 1, 0, 0, 0), (11, .lastore, 1, 0, 0, 0), (12, .goto 7, 3, 0, 0, 0), (15, .astore 5, 2, 0, 0, 0), (17, .iconst 1, 1, 0, 0, 0), (18, .ireturn, 1, 0, 0, 0), (19, .iconst 0, 1, 0, 0, 0), (20, .ireturn, 1, 0, 0, 0)]
def aD_L_alter : ax_D := (yL_alter, cL_alter, 6, (some .int), [(0, 12, 15, 31)], ["java/lang/IndexOutOfBoundsException"], at_L_alter, [])
def at_L_fault : List (Nat × ax_I) := [(0, .aload_n 2, 1, 0, 0, 0), (1, .iconst 0, 1, 0, 0, 0), (2, .aload_n 0, 1, 0, 0, 0), (3, .iload_n 1, 1, 0, 0, 0), (4, .invokevirtual 57, 3, 107, 1, 0), (7, .i2l, 1, 0, 0, 0), (8, .lastore, 1, 0, 0, 0), (9, .goto 6, 3, 0, 0, 0), (12, .astore_n 3, 1, 0, 0, 0), (13, .iconst 1, 1, 0, 0, 0), (14, .ireturn, 1, 0, 0, 0), (15, .iconst 0, 1, 0, 0, 0), (16, .ireturn, 1, 0, 0, 0)]
def aD_L_fault : ax_D := (yL_fault, cL_fault, 4, (some .int), [(0, 9, 12, 31)], ["java/lang/IndexOutOfBoundsException"], at_L_fault, [])
def at_L_count : List (Nat × ax_I) := [(0, .aload_n 2, 1, 0, 0, 0), (1, .iconst 0, 1, 0, 0, 0), (2, .aload_n 0, 1, 0, 0, 0), (3, .iload_n 1, 1, 0, 0, 0), (4, .invokevirtual 60, 3, 108, 1, 0), (7, .i2l, 1, 0, 0, 0), (8, .lastore, 1, 0, 0, 0), (9, .goto 6, 3, 0, 0, 0), (12, .astore_n 3, 1, 0, 0, 0), (13, .iconst 1, 1, 0, 0, 0), (14, .ireturn, 1, 0, 0, 0), (15, .iconst 0, 1, 0, 0, 0), (16, .ireturn, 1, 0, 0, 0)]
def aD_L_count : ax_D := (yL_count, cL_count, 4, (some .int), [(0, 9, 12, 31)], ["java/lang/IndexOutOfBoundsException"], at_L_count, [])
def at_L_about : List (Nat × ax_I) := [(0, .aload_n 3, 1, 0, 0, 0), (1, .iconst 0, 1, 0, 0, 0), (2, .aload_n 0, 1, 0, 0, 0), (3, .iload_n 1, 1, 0, 0, 0), (4, .iload_n 2, 1, 0, 0, 0), (5, .invokevirtual 63, 3, 109, 2, 0), (8, .i2l, 1, 0, 0, 0), (9, .lastore, 1, 0, 0, 0), (10, .goto 7, 3, 0, 0, 0), (13, .astore 4, 2, 0, 0, 0), (15, .iconst 1, 1, 0, 0, 0), (16, .ireturn, 1, 0, 0, 0), (17, .iconst 0, 1, 0, 0, 0), (18, .ireturn, 1, 0, 0, 0)]
def aD_L_about : ax_D := (yL_about, cL_about, 5, (some .int), [(0, 10, 13, 31)], ["java/lang/IndexOutOfBoundsException"], at_L_about, [])
def at_L_child : List (Nat × ax_I) := [(0, .aload_n 3, 1, 0, 0, 0), (1, .iconst 0, 1, 0, 0, 0), (2, .aload_n 0, 1, 0, 0, 0), (3, .iload_n 1, 1, 0, 0, 0), (4, .iload_n 2, 1, 0, 0, 0), (5, .invokevirtual 66, 3, 110, 2, 0), (8, .i2l, 1, 0, 0, 0), (9, .lastore, 1, 0, 0, 0), (10, .goto 7, 3, 0, 0, 0), (13, .astore 4, 2, 0, 0, 0), (15, .iconst 1, 1, 0, 0, 0), (16, .ireturn, 1, 0, 0, 0), (17, .iconst 0, 1, 0, 0, 0), (18, .ireturn, 1, 0, 0, 0)]
def aD_L_child : ax_D := (yL_child, cL_child, 5, (some .int), [(0, 10, 13, 31)], ["java/lang/IndexOutOfBoundsException"], at_L_child, [])
def at_L_root : List (Nat × ax_I) := [(0, .aload_n 2, 1, 0, 0, 0), (1, .iconst 0, 1, 0, 0, 0), (2, .aload_n 0, 1, 0, 0, 0), (3, .iload_n 1, 1, 0, 0, 0), (4, .invokevirtual 69, 3, 111, 1, 0), (7, .i2l, 1, 0, 0, 0), (8, .lastore, 1, 0, 0, 0), (9, .goto 6, 3, 0, 0, 0), (12, .astore_n 3, 1, 0, 0, 0), (13, .iconst 1, 1, 0, 0, 0), (14, .ireturn, 1, 0, 0, 0), (15, .iconst 0, 1, 0, 0, 0), (16, .ireturn, 1, 0, 0, 0)]
def aD_L_root : ax_D := (yL_root, cL_root, 4, (some .int), [(0, 9, 12, 31)], ["java/lang/IndexOutOfBoundsException"], at_L_root, [])
def at_L_attribute : List (Nat × ax_I) := [(0, .aload 4, 2, 0, 0, 0), (2, .iconst 0, 1, 0, 0, 0), (3, .aload_n 0, 1, 0, 0, 0), (4, .iload_n 1, 1, 0, 0, 0), (5, .iload_n 2, 1, 0, 0, 0), (6, .iload_n 3, 1, 0, 0, 0), (7, .invokevirtual 72, 3, 112, 3, 0), (10, .i2l, 1, 0, 0, 0), (11, .lastore, 1, 0, 0, 0), (12, .goto 7, 3, 0, 0, 0), (15, .astore 5, 2, 0, 0, 0), (17, .iconst 1, 1, 0, 0, 0), (18, .ireturn, 1, 0, 0, 0), (19, .iconst 0, 1, 0, 0, 0), (20, .ireturn, 1, 0, 0, 0)]
def aD_L_attribute : ax_D := (yL_attribute, cL_attribute, 6, (some .int), [(0, 12, 15, 31)], ["java/lang/IndexOutOfBoundsException"], at_L_attribute, [])
def at_L_value : List (Nat × ax_I) := [(0, .aload_n 3, 1, 0, 0, 0), (1, .iconst 0, 1, 0, 0, 0), (2, .aload_n 0, 1, 0, 0, 0), (3, .iload_n 1, 1, 0, 0, 0), (4, .iload_n 2, 1, 0, 0, 0), (5, .invokevirtual 75, 3, 113, 2, 0), (8, .lastore, 1, 0, 0, 0), (9, .goto 7, 3, 0, 0, 0), (12, .astore 4, 2, 0, 0, 0), (14, .iconst 1, 1, 0, 0, 0), (15, .ireturn, 1, 0, 0, 0), (16, .iconst 0, 1, 0, 0, 0), (17, .ireturn, 1, 0, 0, 0)]
def aD_L_value : ax_D := (yL_value, cL_value, 5, (some .int), [(0, 9, 12, 31)], ["java/lang/IndexOutOfBoundsException"], at_L_value, [])
def at_L_letter : List (Nat × ax_I) := [(0, .aload 4, 2, 0, 0, 0), (2, .iconst 0, 1, 0, 0, 0), (3, .aload_n 0, 1, 0, 0, 0), (4, .iload_n 1, 1, 0, 0, 0), (5, .iload_n 2, 1, 0, 0, 0), (6, .iload_n 3, 1, 0, 0, 0), (7, .invokevirtual 79, 3, 114, 3, 0), (10, .i2l, 1, 0, 0, 0), (11, .lastore, 1, 0, 0, 0), (12, .goto 7, 3, 0, 0, 0), (15, .astore 5, 2, 0, 0, 0), (17, .iconst 1, 1, 0, 0, 0), (18, .ireturn, 1, 0, 0, 0), (19, .iconst 0, 1, 0, 0, 0), (20, .ireturn, 1, 0, 0, 0)]
def aD_L_letter : ax_D := (yL_letter, cL_letter, 6, (some .int), [(0, 12, 15, 31)], ["java/lang/IndexOutOfBoundsException"], at_L_letter, [])
def at_L_find : List (Nat × ax_I) := [(0, .aload_n 2, 1, 0, 0, 0), (1, .iconst 0, 1, 0, 0, 0), (2, .aload_n 0, 1, 0, 0, 0), (3, .iload_n 1, 1, 0, 0, 0), (4, .invokevirtual 82, 3, 115, 1, 0), (7, .i2l, 1, 0, 0, 0), (8, .lastore, 1, 0, 0, 0), (9, .goto 6, 3, 0, 0, 0), (12, .astore_n 3, 1, 0, 0, 0), (13, .iconst 1, 1, 0, 0, 0), (14, .ireturn, 1, 0, 0, 0), (15, .iconst 0, 1, 0, 0, 0), (16, .ireturn, 1, 0, 0, 0)]
def aD_L_find : ax_D := (yL_find, cL_find, 4, (some .int), [(0, 9, 12, 31)], ["java/lang/IndexOutOfBoundsException"], at_L_find, [])
def at_L_law : List (Nat × ax_I) := [(0, .new 8, 3, 8, 0, 0), (3, .dup, 1, 0, 0, 0), (4, .invokespecial 85, 3, 92, 0, 0), (7, .astore_n 1, 1, 0, 0, 0), (8, .new 86, 3, 9, 0, 0), (11, .dup, 1, 0, 0, 0), (12, .invokespecial 88, 3, 132, 0, 0), (15, .astore_n 2, 1, 0, 0, 0), (16, .iconst 1, 1, 0, 0, 0), (17, .newarray .long, 2, 0, 0, 0), (19, .astore_n 3, 1, 0, 0, 0), (20, .iconst 0, 1, 0, 0, 0), (21, .istore 4, 2, 0, 0, 0), (23, .iload 4, 2, 0, 0, 0), (25, .aload_n 0, 1, 0, 0, 0), (26, .arraylength, 1, 0, 0, 0), (27, .bipush 6, 2, 0, 0, 0), (29, .isub, 1, 0, 0, 0), (30, .if_icmp .gt 1631, 3, 0, 0, 0), (33, .aload_n 0, 1, 0, 0, 0), (34, .iload 4, 2, 0, 0, 0), (36, .iaload, 1, 0, 0, 0), (37, .bipush 31, 2, 0, 0, 0), (39, .iand, 1, 0, 0, 0), (40, .tableswitch 1615 0 23 #[112, 216, 252, 308, 376, 500, 580, 672, 685, 698, 754, 822, 878, 958, 971, 1027, 1083, 1151, 1219, 1275, 1355, 1422, 1502, 1558], 112, 0, 0, 0), (152, .aload_n 1, 1, 0, 0, 0), (153, .aload_n 0, 1, 0, 0, 0), (154, .iload 4, 2, 0, 0, 0), (156, .iconst 1, 1, 0, 0, 0), (157, .iadd, 1, 0, 0, 0), (158, .iaload, 1, 0, 0, 0), (159, .aload_n 0, 1, 0, 0, 0), (160, .iload 4, 2, 0, 0, 0), (162, .iconst 2, 1, 0, 0, 0), (163, .iadd, 1, 0, 0, 0), (164, .iaload, 1, 0, 0, 0), (165, .aload_n 0, 1, 0, 0, 0), (166, .iload 4, 2, 0, 0, 0), (168, .iconst 3, 1, 0, 0, 0), (169, .iadd, 1, 0, 0, 0), (170, .iaload, 1, 0, 0, 0), (171, .aload_n 0, 1, 0, 0, 0), (172, .iload 4, 2, 0, 0, 0), (174, .iconst 4, 1, 0, 0, 0), (175, .iadd, 1, 0, 0, 0), (176, .iaload, 1, 0, 0, 0), (177, .aload_n 0, 1, 0, 0, 0), (178, .iload 4, 2, 0, 0, 0), (180, .iconst 5, 1, 0, 0, 0), (181, .iadd, 1, 0, 0, 0), (182, .iaload, 1, 0, 0, 0), (183, .aload_n 3, 1, 0, 0, 0), (184, .invokestatic 89, 3, 221, 7, 0), (187, .istore 5, 2, 0, 0, 0), (189, .aload_n 2, 1, 0, 0, 0), (190, .aload_n 0, 1, 0, 0, 0), (191, .iload 4, 2, 0, 0, 0), (193, .iconst 1, 1, 0, 0, 0), (194, .iadd, 1, 0, 0, 0), (195, .iaload, 1, 0, 0, 0), (196, .aload_n 0, 1, 0, 0, 0), (197, .iload 4, 2, 0, 0, 0), (199, .iconst 2, 1, 0, 0, 0), (200, .iadd, 1, 0, 0, 0), (201, .iaload, 1, 0, 0, 0), (202, .aload_n 0, 1, 0, 0, 0), (203, .iload 4, 2, 0, 0, 0), (205, .iconst 3, 1, 0, 0, 0), (206, .iadd, 1, 0, 0, 0), (207, .iaload, 1, 0, 0, 0), (208, .aload_n 0, 1, 0, 0, 0), (209, .iload 4, 2, 0, 0, 0), (211, .iconst 4, 1, 0, 0, 0), (212, .iadd, 1, 0, 0, 0), (213, .iaload, 1, 0, 0, 0), (214, .aload_n 0, 1, 0, 0, 0), (215, .iload 4, 2, 0, 0, 0), (217, .iconst 5, 1, 0, 0, 0), (218, .iadd, 1, 0, 0, 0), (219, .iaload, 1, 0, 0, 0), (220, .invokevirtual 94, 3, 138, 5, 0), (223, .istore 6, 2, 0, 0, 0), (225, .aload_n 2, 1, 0, 0, 0), (226, .invokevirtual 95, 3, 133, 0, 0), (229, .iload 5, 2, 0, 0, 0), (231, .if_icmp .eq 5, 3, 0, 0, 0), (234, .iconst 0, 1, 0, 0, 0), (235, .ireturn, 1, 0, 0, 0), (236, .iload 5, 2, 0, 0, 0), (238, .ifCond .ne 15, 3, 0, 0, 0), (241, .aload_n 3, 1, 0, 0, 0), (242, .iconst 0, 1, 0, 0, 0), (243, .laload, 1, 0, 0, 0), (244, .iload 6, 2, 0, 0, 0), (246, .i2l, 1, 0, 0, 0), (247, .lcmp, 1, 0, 0, 0), (248, .ifCond .eq 5, 3, 0, 0, 0), (251, .iconst 0, 1, 0, 0, 0), (252, .ireturn, 1, 0, 0, 0), (253, .goto 1402, 3, 0, 0, 0), (256, .aload_n 1, 1, 0, 0, 0), (257, .aload_n 0, 1, 0, 0, 0), (258, .iload 4, 2, 0, 0, 0), (260, .iconst 1, 1, 0, 0, 0), (261, .iadd, 1, 0, 0, 0), (262, .iaload, 1, 0, 0, 0), (263, .invokestatic 99, 3, 222, 2, 0), (266, .istore 5, 2, 0, 0, 0), (268, .aload_n 2, 1, 0, 0, 0), (269, .aload_n 0, 1, 0, 0, 0), (270, .iload 4, 2, 0, 0, 0), (272, .iconst 1, 1, 0, 0, 0), (273, .iadd, 1, 0, 0, 0), (274, .iaload, 1, 0, 0, 0), (275, .invokevirtual 102, 3, 139, 1, 0), (278, .aload_n 2, 1, 0, 0, 0), (279, .invokevirtual 95, 3, 133, 0, 0), (282, .iload 5, 2, 0, 0, 0), (284, .if_icmp .eq 5, 3, 0, 0, 0), (287, .iconst 0, 1, 0, 0, 0), (288, .ireturn, 1, 0, 0, 0), (289, .goto 1366, 3, 0, 0, 0), (292, .aload_n 1, 1, 0, 0, 0), (293, .aload_n 0, 1, 0, 0, 0), (294, .iload 4, 2, 0, 0, 0), (296, .iconst 1, 1, 0, 0, 0), (297, .iadd, 1, 0, 0, 0), (298, .iaload, 1, 0, 0, 0), (299, .aload_n 3, 1, 0, 0, 0), (300, .invokestatic 103, 3, 223, 3, 0), (303, .istore 5, 2, 0, 0, 0), (305, .aload_n 2, 1, 0, 0, 0), (306, .aload_n 0, 1, 0, 0, 0), (307, .iload 4, 2, 0, 0, 0), (309, .iconst 1, 1, 0, 0, 0), (310, .iadd, 1, 0, 0, 0), (311, .iaload, 1, 0, 0, 0), (312, .invokevirtual 106, 3, 144, 1, 0), (315, .istore 6, 2, 0, 0, 0), (317, .aload_n 2, 1, 0, 0, 0), (318, .invokevirtual 95, 3, 133, 0, 0), (321, .iload 5, 2, 0, 0, 0), (323, .if_icmp .eq 5, 3, 0, 0, 0), (326, .iconst 0, 1, 0, 0, 0), (327, .ireturn, 1, 0, 0, 0), (328, .iload 5, 2, 0, 0, 0), (330, .ifCond .ne 15, 3, 0, 0, 0), (333, .aload_n 3, 1, 0, 0, 0), (334, .iconst 0, 1, 0, 0, 0), (335, .laload, 1, 0, 0, 0), (336, .iload 6, 2, 0, 0, 0), (338, .i2l, 1, 0, 0, 0), (339, .lcmp, 1, 0, 0, 0), (340, .ifCond .eq 5, 3, 0, 0, 0), (343, .iconst 0, 1, 0, 0, 0), (344, .ireturn, 1, 0, 0, 0), (345, .goto 1310, 3, 0, 0, 0), (348, .aload_n 1, 1, 0, 0, 0), (349, .aload_n 0, 1, 0, 0, 0), (350, .iload 4, 2, 0, 0, 0), (352, .iconst 1, 1, 0, 0, 0), (353, .iadd, 1, 0, 0, 0), (354, .iaload, 1, 0, 0, 0), (355, .aload_n 0, 1, 0, 0, 0), (356, .iload 4, 2, 0, 0, 0), (358, .iconst 2, 1, 0, 0, 0), (359, .iadd, 1, 0, 0, 0), (360, .iaload, 1, 0, 0, 0), (361, .aload_n 3, 1, 0, 0, 0), (362, .invokestatic 107, 3, 224, 4, 0), (365, .istore 5, 2, 0, 0, 0), (367, .aload_n 2, 1, 0, 0, 0), (368, .aload_n 0, 1, 0, 0, 0), (369, .iload 4, 2, 0, 0, 0), (371, .iconst 1, 1, 0, 0, 0), (372, .iadd, 1, 0, 0, 0), (373, .iaload, 1, 0, 0, 0), (374, .aload_n 0, 1, 0, 0, 0), (375, .iload 4, 2, 0, 0, 0), (377, .iconst 2, 1, 0, 0, 0), (378, .iadd, 1, 0, 0, 0), (379, .iaload, 1, 0, 0, 0), (380, .invokevirtual 110, 3, 146, 2, 0), (383, .istore 6, 2, 0, 0, 0), (385, .aload_n 2, 1, 0, 0, 0), (386, .invokevirtual 95, 3, 133, 0, 0), (389, .iload 5, 2, 0, 0, 0), (391, .if_icmp .eq 5, 3, 0, 0, 0), (394, .iconst 0, 1, 0, 0, 0), (395, .ireturn, 1, 0, 0, 0), (396, .iload 5, 2, 0, 0, 0), (398, .ifCond .ne 15, 3, 0, 0, 0), (401, .aload_n 3, 1, 0, 0, 0), (402, .iconst 0, 1, 0, 0, 0), (403, .laload, 1, 0, 0, 0), (404, .iload 6, 2, 0, 0, 0), (406, .i2l, 1, 0, 0, 0), (407, .lcmp, 1, 0, 0, 0), (408, .ifCond .eq 5, 3, 0, 0, 0), (411, .iconst 0, 1, 0, 0, 0), (412, .ireturn, 1, 0, 0, 0), (413, .goto 1242, 3, 0, 0, 0), (416, .aload_n 1, 1, 0, 0, 0), (417, .aload_n 0, 1, 0, 0, 0), (418, .iload 4, 2, 0, 0, 0), (420, .iconst 1, 1, 0, 0, 0), (421, .iadd, 1, 0, 0, 0), (422, .iaload, 1, 0, 0, 0), (423, .aload_n 0, 1, 0, 0, 0), (424, .iload 4, 2, 0, 0, 0), (426, .iconst 2, 1, 0, 0, 0), (427, .iadd, 1, 0, 0, 0), (428, .iaload, 1, 0, 0, 0), (429, .aload_n 0, 1, 0, 0, 0), (430, .iload 4, 2, 0, 0, 0), (432, .iconst 3, 1, 0, 0, 0), (433, .iadd, 1, 0, 0, 0), (434, .iaload, 1, 0, 0, 0), (435, .aload_n 0, 1, 0, 0, 0), (436, .iload 4, 2, 0, 0, 0), (438, .iconst 4, 1, 0, 0, 0), (439, .iadd, 1, 0, 0, 0), (440, .iaload, 1, 0, 0, 0), (441, .i2l, 1, 0, 0, 0), (442, .bipush 32, 2, 0, 0, 0), (444, .lshl, 1, 0, 0, 0), (445, .aload_n 0, 1, 0, 0, 0), (446, .iload 4, 2, 0, 0, 0), (448, .iconst 5, 1, 0, 0, 0), (449, .iadd, 1, 0, 0, 0), (450, .iaload, 1, 0, 0, 0), (451, .i2l, 1, 0, 0, 0), (452, .ldc2_w 111, 3, 0, 0, 4294967295), (455, .land, 1, 0, 0, 0), (456, .lor, 1, 0, 0, 0), (457, .aload_n 3, 1, 0, 0, 0), (458, .invokestatic 113, 3, 225, 6, 0), (461, .istore 5, 2, 0, 0, 0), (463, .aload_n 2, 1, 0, 0, 0), (464, .aload_n 0, 1, 0, 0, 0), (465, .iload 4, 2, 0, 0, 0), (467, .iconst 1, 1, 0, 0, 0), (468, .iadd, 1, 0, 0, 0), (469, .iaload, 1, 0, 0, 0), (470, .aload_n 0, 1, 0, 0, 0), (471, .iload 4, 2, 0, 0, 0), (473, .iconst 2, 1, 0, 0, 0), (474, .iadd, 1, 0, 0, 0), (475, .iaload, 1, 0, 0, 0), (476, .aload_n 0, 1, 0, 0, 0), (477, .iload 4, 2, 0, 0, 0), (479, .iconst 3, 1, 0, 0, 0), (480, .iadd, 1, 0, 0, 0), (481, .iaload, 1, 0, 0, 0), (482, .aload_n 0, 1, 0, 0, 0), (483, .iload 4, 2, 0, 0, 0), (485, .iconst 4, 1, 0, 0, 0), (486, .iadd, 1, 0, 0, 0), (487, .iaload, 1, 0, 0, 0), (488, .i2l, 1, 0, 0, 0), (489, .bipush 32, 2, 0, 0, 0), (491, .lshl, 1, 0, 0, 0), (492, .aload_n 0, 1, 0, 0, 0), (493, .iload 4, 2, 0, 0, 0), (495, .iconst 5, 1, 0, 0, 0), (496, .iadd, 1, 0, 0, 0), (497, .iaload, 1, 0, 0, 0), (498, .i2l, 1, 0, 0, 0), (499, .ldc2_w 111, 3, 0, 0, 4294967295), (502, .land, 1, 0, 0, 0), (503, .lor, 1, 0, 0, 0), (504, .invokevirtual 116, 3, 155, 4, 0), (507, .istore 6, 2, 0, 0, 0), (509, .aload_n 2, 1, 0, 0, 0), (510, .invokevirtual 95, 3, 133, 0, 0), (513, .iload 5, 2, 0, 0, 0), (515, .if_icmp .eq 5, 3, 0, 0, 0), (518, .iconst 0, 1, 0, 0, 0), (519, .ireturn, 1, 0, 0, 0), (520, .iload 5, 2, 0, 0, 0), (522, .ifCond .ne 15, 3, 0, 0, 0), (525, .aload_n 3, 1, 0, 0, 0), (526, .iconst 0, 1, 0, 0, 0), (527, .laload, 1, 0, 0, 0), (528, .iload 6, 2, 0, 0, 0), (530, .i2l, 1, 0, 0, 0), (531, .lcmp, 1, 0, 0, 0), (532, .ifCond .eq 5, 3, 0, 0, 0), (535, .iconst 0, 1, 0, 0, 0), (536, .ireturn, 1, 0, 0, 0), (537, .goto 1118, 3, 0, 0, 0), (540, .aload_n 1, 1, 0, 0, 0), (541, .aload_n 0, 1, 0, 0, 0), (542, .iload 4, 2, 0, 0, 0), (544, .iconst 1, 1, 0, 0, 0), (545, .iadd, 1, 0, 0, 0), (546, .iaload, 1, 0, 0, 0), (547, .aload_n 0, 1, 0, 0, 0), (548, .iload 4, 2, 0, 0, 0), (550, .iconst 2, 1, 0, 0, 0), (551, .iadd, 1, 0, 0, 0), (552, .iaload, 1, 0, 0, 0), (553, .aload_n 0, 1, 0, 0, 0), (554, .iload 4, 2, 0, 0, 0), (556, .iconst 3, 1, 0, 0, 0), (557, .iadd, 1, 0, 0, 0), (558, .iaload, 1, 0, 0, 0), (559, .aload_n 3, 1, 0, 0, 0), (560, .invokestatic 117, 3, 226, 5, 0), (563, .istore 5, 2, 0, 0, 0), (565, .aload_n 2, 1, 0, 0, 0), (566, .aload_n 0, 1, 0, 0, 0), (567, .iload 4, 2, 0, 0, 0), (569, .iconst 1, 1, 0, 0, 0), (570, .iadd, 1, 0, 0, 0), (571, .iaload, 1, 0, 0, 0), (572, .aload_n 0, 1, 0, 0, 0), (573, .iload 4, 2, 0, 0, 0), (575, .iconst 2, 1, 0, 0, 0), (576, .iadd, 1, 0, 0, 0), (577, .iaload, 1, 0, 0, 0), (578, .aload_n 0, 1, 0, 0, 0), (579, .iload 4, 2, 0, 0, 0), (581, .iconst 3, 1, 0, 0, 0), (582, .iadd, 1, 0, 0, 0), (583, .iaload, 1, 0, 0, 0), (584, .invokevirtual 120, 3, 157, 3, 0), (587, .istore 6, 2, 0, 0, 0), (589, .aload_n 2, 1, 0, 0, 0), (590, .invokevirtual 95, 3, 133, 0, 0), (593, .iload 5, 2, 0, 0, 0), (595, .if_icmp .eq 5, 3, 0, 0, 0), (598, .iconst 0, 1, 0, 0, 0), (599, .ireturn, 1, 0, 0, 0), (600, .iload 5, 2, 0, 0, 0), (602, .ifCond .ne 15, 3, 0, 0, 0), (605, .aload_n 3, 1, 0, 0, 0), (606, .iconst 0, 1, 0, 0, 0), (607, .laload, 1, 0, 0, 0), (608, .iload 6, 2, 0, 0, 0), (610, .i2l, 1, 0, 0, 0), (611, .lcmp, 1, 0, 0, 0), (612, .ifCond .eq 5, 3, 0, 0, 0), (615, .iconst 0, 1, 0, 0, 0), (616, .ireturn, 1, 0, 0, 0), (617, .goto 1038, 3, 0, 0, 0), (620, .aload_n 1, 1, 0, 0, 0), (621, .aload_n 0, 1, 0, 0, 0), (622, .iload 4, 2, 0, 0, 0), (624, .iconst 1, 1, 0, 0, 0), (625, .iadd, 1, 0, 0, 0), (626, .iaload, 1, 0, 0, 0), (627, .aload_n 0, 1, 0, 0, 0), (628, .iload 4, 2, 0, 0, 0), (630, .iconst 2, 1, 0, 0, 0), (631, .iadd, 1, 0, 0, 0), (632, .iaload, 1, 0, 0, 0), (633, .aload_n 0, 1, 0, 0, 0), (634, .iload 4, 2, 0, 0, 0), (636, .iconst 3, 1, 0, 0, 0), (637, .iadd, 1, 0, 0, 0), (638, .iaload, 1, 0, 0, 0), (639, .aload_n 0, 1, 0, 0, 0), (640, .iload 4, 2, 0, 0, 0), (642, .iconst 4, 1, 0, 0, 0), (643, .iadd, 1, 0, 0, 0), (644, .iaload, 1, 0, 0, 0), (645, .aload_n 3, 1, 0, 0, 0), (646, .invokestatic 121, 3, 227, 6, 0), (649, .istore 5, 2, 0, 0, 0), (651, .aload_n 2, 1, 0, 0, 0), (652, .aload_n 0, 1, 0, 0, 0), (653, .iload 4, 2, 0, 0, 0), (655, .iconst 1, 1, 0, 0, 0), (656, .iadd, 1, 0, 0, 0), (657, .iaload, 1, 0, 0, 0), (658, .aload_n 0, 1, 0, 0, 0), (659, .iload 4, 2, 0, 0, 0), (661, .iconst 2, 1, 0, 0, 0), (662, .iadd, 1, 0, 0, 0), (663, .iaload, 1, 0, 0, 0), (664, .aload_n 0, 1, 0, 0, 0), (665, .iload 4, 2, 0, 0, 0), (667, .iconst 3, 1, 0, 0, 0), (668, .iadd, 1, 0, 0, 0), (669, .iaload, 1, 0, 0, 0), (670, .aload_n 0, 1, 0, 0, 0), (671, .iload 4, 2, 0, 0, 0), (673, .iconst 4, 1, 0, 0, 0), (674, .iadd, 1, 0, 0, 0), (675, .iaload, 1, 0, 0, 0), (676, .invokevirtual 124, 3, 158, 4, 0), (679, .istore 6, 2, 0, 0, 0), (681, .aload_n 2, 1, 0, 0, 0), (682, .invokevirtual 95, 3, 133, 0, 0), (685, .iload 5, 2, 0, 0, 0), (687, .if_icmp .eq 5, 3, 0, 0, 0), (690, .iconst 0, 1, 0, 0, 0), (691, .ireturn, 1, 0, 0, 0), (692, .iload 5, 2, 0, 0, 0), (694, .ifCond .ne 15, 3, 0, 0, 0), (697, .aload_n 3, 1, 0, 0, 0), (698, .iconst 0, 1, 0, 0, 0), (699, .laload, 1, 0, 0, 0), (700, .iload 6, 2, 0, 0, 0), (702, .i2l, 1, 0, 0, 0), (703, .lcmp, 1, 0, 0, 0), (704, .ifCond .eq 5, 3, 0, 0, 0), (707, .iconst 0, 1, 0, 0, 0), (708, .ireturn, 1, 0, 0, 0), (709, .goto 946, 3, 0, 0, 0), (712, .aload_n 1, 1, 0, 0, 0), (713, .invokevirtual 125, 3, 100, 0, 0), (716, .aload_n 2, 1, 0, 0, 0), (717, .invokevirtual 128, 3, 159, 0, 0), (720, .if_icmp .eq 935, 3, 0, 0, 0), (723, .iconst 0, 1, 0, 0, 0), (724, .ireturn, 1, 0, 0, 0), (725, .aload_n 1, 1, 0, 0, 0), (726, .invokevirtual 129, 3, 101, 0, 0), (729, .aload_n 2, 1, 0, 0, 0), (730, .invokevirtual 132, 3, 180, 0, 0), (733, .if_icmp .eq 922, 3, 0, 0, 0), (736, .iconst 0, 1, 0, 0, 0), (737, .ireturn, 1, 0, 0, 0), (738, .aload_n 1, 1, 0, 0, 0), (739, .aload_n 0, 1, 0, 0, 0), (740, .iload 4, 2, 0, 0, 0), (742, .iconst 1, 1, 0, 0, 0), (743, .iadd, 1, 0, 0, 0), (744, .iaload, 1, 0, 0, 0), (745, .aload_n 3, 1, 0, 0, 0), (746, .invokestatic 133, 3, 228, 3, 0), (749, .istore 5, 2, 0, 0, 0), (751, .aload_n 2, 1, 0, 0, 0), (752, .aload_n 0, 1, 0, 0, 0), (753, .iload 4, 2, 0, 0, 0), (755, .iconst 1, 1, 0, 0, 0), (756, .iadd, 1, 0, 0, 0), (757, .iaload, 1, 0, 0, 0), (758, .invokevirtual 135, 3, 182, 1, 0), (761, .istore 6, 2, 0, 0, 0), (763, .aload_n 2, 1, 0, 0, 0), (764, .invokevirtual 95, 3, 133, 0, 0), (767, .iload 5, 2, 0, 0, 0), (769, .if_icmp .eq 5, 3, 0, 0, 0), (772, .iconst 0, 1, 0, 0, 0), (773, .ireturn, 1, 0, 0, 0), (774, .iload 5, 2, 0, 0, 0), (776, .ifCond .ne 15, 3, 0, 0, 0), (779, .aload_n 3, 1, 0, 0, 0), (780, .iconst 0, 1, 0, 0, 0), (781, .laload, 1, 0, 0, 0), (782, .iload 6, 2, 0, 0, 0), (784, .i2l, 1, 0, 0, 0), (785, .lcmp, 1, 0, 0, 0), (786, .ifCond .eq 5, 3, 0, 0, 0), (789, .iconst 0, 1, 0, 0, 0), (790, .ireturn, 1, 0, 0, 0), (791, .goto 864, 3, 0, 0, 0), (794, .aload_n 1, 1, 0, 0, 0), (795, .aload_n 0, 1, 0, 0, 0), (796, .iload 4, 2, 0, 0, 0), (798, .iconst 1, 1, 0, 0, 0), (799, .iadd, 1, 0, 0, 0), (800, .iaload, 1, 0, 0, 0), (801, .aload_n 0, 1, 0, 0, 0), (802, .iload 4, 2, 0, 0, 0), (804, .iconst 2, 1, 0, 0, 0), (805, .iadd, 1, 0, 0, 0), (806, .iaload, 1, 0, 0, 0), (807, .aload_n 3, 1, 0, 0, 0), (808, .invokestatic 136, 3, 229, 4, 0), (811, .istore 5, 2, 0, 0, 0), (813, .aload_n 2, 1, 0, 0, 0), (814, .aload_n 0, 1, 0, 0, 0), (815, .iload 4, 2, 0, 0, 0), (817, .iconst 1, 1, 0, 0, 0), (818, .iadd, 1, 0, 0, 0), (819, .iaload, 1, 0, 0, 0), (820, .aload_n 0, 1, 0, 0, 0), (821, .iload 4, 2, 0, 0, 0), (823, .iconst 2, 1, 0, 0, 0), (824, .iadd, 1, 0, 0, 0), (825, .iaload, 1, 0, 0, 0), (826, .invokevirtual 138, 3, 184, 2, 0), (829, .istore 6, 2, 0, 0, 0), (831, .aload_n 2, 1, 0, 0, 0), (832, .invokevirtual 95, 3, 133, 0, 0), (835, .iload 5, 2, 0, 0, 0), (837, .if_icmp .eq 5, 3, 0, 0, 0), (840, .iconst 0, 1, 0, 0, 0), (841, .ireturn, 1, 0, 0, 0), (842, .iload 5, 2, 0, 0, 0), (844, .ifCond .ne 15, 3, 0, 0, 0), (847, .aload_n 3, 1, 0, 0, 0), (848, .iconst 0, 1, 0, 0, 0), (849, .laload, 1, 0, 0, 0), (850, .iload 6, 2, 0, 0, 0), (852, .i2l, 1, 0, 0, 0), (853, .lcmp, 1, 0, 0, 0), (854, .ifCond .eq 5, 3, 0, 0, 0), (857, .iconst 0, 1, 0, 0, 0), (858, .ireturn, 1, 0, 0, 0), (859, .goto 796, 3, 0, 0, 0), (862, .aload_n 1, 1, 0, 0, 0), (863, .aload_n 0, 1, 0, 0, 0), (864, .iload 4, 2, 0, 0, 0), (866, .iconst 1, 1, 0, 0, 0), (867, .iadd, 1, 0, 0, 0), (868, .iaload, 1, 0, 0, 0), (869, .aload_n 3, 1, 0, 0, 0), (870, .invokestatic 139, 3, 230, 3, 0), (873, .istore 5, 2, 0, 0, 0), (875, .aload_n 2, 1, 0, 0, 0), (876, .aload_n 0, 1, 0, 0, 0), (877, .iload 4, 2, 0, 0, 0), (879, .iconst 1, 1, 0, 0, 0), (880, .iadd, 1, 0, 0, 0), (881, .iaload, 1, 0, 0, 0), (882, .invokevirtual 141, 3, 185, 1, 0), (885, .istore 6, 2, 0, 0, 0), (887, .aload_n 2, 1, 0, 0, 0), (888, .invokevirtual 95, 3, 133, 0, 0), (891, .iload 5, 2, 0, 0, 0), (893, .if_icmp .eq 5, 3, 0, 0, 0), (896, .iconst 0, 1, 0, 0, 0), (897, .ireturn, 1, 0, 0, 0), (898, .iload 5, 2, 0, 0, 0), (900, .ifCond .ne 15, 3, 0, 0, 0), (903, .aload_n 3, 1, 0, 0, 0), (904, .iconst 0, 1, 0, 0, 0), (905, .laload, 1, 0, 0, 0), (906, .iload 6, 2, 0, 0, 0), (908, .i2l, 1, 0, 0, 0), (909, .lcmp, 1, 0, 0, 0), (910, .ifCond .eq 5, 3, 0, 0, 0), (913, .iconst 0, 1, 0, 0, 0), (914, .ireturn, 1, 0, 0, 0), (915, .goto 740, 3, 0, 0, 0), (918, .aload_n 1, 1, 0, 0, 0), (919, .aload_n 0, 1, 0, 0, 0), (920, .iload 4, 2, 0, 0, 0), (922, .iconst 1, 1, 0, 0, 0), (923, .iadd, 1, 0, 0, 0), (924, .iaload, 1, 0, 0, 0), (925, .aload_n 0, 1, 0, 0, 0), (926, .iload 4, 2, 0, 0, 0), (928, .iconst 2, 1, 0, 0, 0), (929, .iadd, 1, 0, 0, 0), (930, .iaload, 1, 0, 0, 0), (931, .aload_n 0, 1, 0, 0, 0), (932, .iload 4, 2, 0, 0, 0), (934, .iconst 3, 1, 0, 0, 0), (935, .iadd, 1, 0, 0, 0), (936, .iaload, 1, 0, 0, 0), (937, .aload_n 3, 1, 0, 0, 0), (938, .invokestatic 142, 3, 231, 5, 0), (941, .istore 5, 2, 0, 0, 0), (943, .aload_n 2, 1, 0, 0, 0), (944, .aload_n 0, 1, 0, 0, 0), (945, .iload 4, 2, 0, 0, 0), (947, .iconst 1, 1, 0, 0, 0), (948, .iadd, 1, 0, 0, 0), (949, .iaload, 1, 0, 0, 0), (950, .aload_n 0, 1, 0, 0, 0), (951, .iload 4, 2, 0, 0, 0), (953, .iconst 2, 1, 0, 0, 0), (954, .iadd, 1, 0, 0, 0), (955, .iaload, 1, 0, 0, 0), (956, .aload_n 0, 1, 0, 0, 0), (957, .iload 4, 2, 0, 0, 0), (959, .iconst 3, 1, 0, 0, 0), (960, .iadd, 1, 0, 0, 0), (961, .iaload, 1, 0, 0, 0), (962, .invokevirtual 144, 3, 186, 3, 0), (965, .istore 6, 2, 0, 0, 0), (967, .aload_n 2, 1, 0, 0, 0), (968, .invokevirtual 95, 3, 133, 0, 0), (971, .iload 5, 2, 0, 0, 0), (973, .if_icmp .eq 5, 3, 0, 0, 0), (976, .iconst 0, 1, 0, 0, 0), (977, .ireturn, 1, 0, 0, 0), (978, .iload 5, 2, 0, 0, 0), (980, .ifCond .ne 15, 3, 0, 0, 0), (983, .aload_n 3, 1, 0, 0, 0), (984, .iconst 0, 1, 0, 0, 0), (985, .laload, 1, 0, 0, 0), (986, .iload 6, 2, 0, 0, 0), (988, .i2l, 1, 0, 0, 0), (989, .lcmp, 1, 0, 0, 0), (990, .ifCond .eq 5, 3, 0, 0, 0), (993, .iconst 0, 1, 0, 0, 0), (994, .ireturn, 1, 0, 0, 0), (995, .goto 660, 3, 0, 0, 0), (998, .aload_n 1, 1, 0, 0, 0), (999, .invokevirtual 145, 3, 106, 0, 0), (1002, .aload_n 2, 1, 0, 0, 0), (1003, .invokevirtual 148, 3, 205, 0, 0), (1006, .if_icmp .eq 649, 3, 0, 0, 0), (1009, .iconst 0, 1, 0, 0, 0), (1010, .ireturn, 1, 0, 0, 0), (1011, .aload_n 1, 1, 0, 0, 0), (1012, .aload_n 0, 1, 0, 0, 0), (1013, .iload 4, 2, 0, 0, 0), (1015, .iconst 1, 1, 0, 0, 0), (1016, .iadd, 1, 0, 0, 0), (1017, .iaload, 1, 0, 0, 0), (1018, .aload_n 3, 1, 0, 0, 0), (1019, .invokestatic 149, 3, 232, 3, 0), (1022, .istore 5, 2, 0, 0, 0), (1024, .aload_n 2, 1, 0, 0, 0), (1025, .aload_n 0, 1, 0, 0, 0), (1026, .iload 4, 2, 0, 0, 0), (1028, .iconst 1, 1, 0, 0, 0), (1029, .iadd, 1, 0, 0, 0), (1030, .iaload, 1, 0, 0, 0), (1031, .invokevirtual 151, 3, 206, 1, 0), (1034, .istore 6, 2, 0, 0, 0), (1036, .aload_n 2, 1, 0, 0, 0), (1037, .invokevirtual 95, 3, 133, 0, 0), (1040, .iload 5, 2, 0, 0, 0), (1042, .if_icmp .eq 5, 3, 0, 0, 0), (1045, .iconst 0, 1, 0, 0, 0), (1046, .ireturn, 1, 0, 0, 0), (1047, .iload 5, 2, 0, 0, 0), (1049, .ifCond .ne 15, 3, 0, 0, 0), (1052, .aload_n 3, 1, 0, 0, 0), (1053, .iconst 0, 1, 0, 0, 0), (1054, .laload, 1, 0, 0, 0), (1055, .iload 6, 2, 0, 0, 0), (1057, .i2l, 1, 0, 0, 0), (1058, .lcmp, 1, 0, 0, 0), (1059, .ifCond .eq 5, 3, 0, 0, 0), (1062, .iconst 0, 1, 0, 0, 0), (1063, .ireturn, 1, 0, 0, 0), (1064, .goto 591, 3, 0, 0, 0), (1067, .aload_n 1, 1, 0, 0, 0), (1068, .aload_n 0, 1, 0, 0, 0), (1069, .iload 4, 2, 0, 0, 0), (1071, .iconst 1, 1, 0, 0, 0), (1072, .iadd, 1, 0, 0, 0), (1073, .iaload, 1, 0, 0, 0), (1074, .aload_n 3, 1, 0, 0, 0), (1075, .invokestatic 152, 3, 233, 3, 0), (1078, .istore 5, 2, 0, 0, 0), (1080, .aload_n 2, 1, 0, 0, 0), (1081, .aload_n 0, 1, 0, 0, 0), (1082, .iload 4, 2, 0, 0, 0), (1084, .iconst 1, 1, 0, 0, 0), (1085, .iadd, 1, 0, 0, 0), (1086, .iaload, 1, 0, 0, 0), (1087, .invokevirtual 154, 3, 207, 1, 0), (1090, .istore 6, 2, 0, 0, 0), (1092, .aload_n 2, 1, 0, 0, 0), (1093, .invokevirtual 95, 3, 133, 0, 0), (1096, .iload 5, 2, 0, 0, 0), (1098, .if_icmp .eq 5, 3, 0, 0, 0), (1101, .iconst 0, 1, 0, 0, 0), (1102, .ireturn, 1, 0, 0, 0), (1103, .iload 5, 2, 0, 0, 0), (1105, .ifCond .ne 15, 3, 0, 0, 0), (1108, .aload_n 3, 1, 0, 0, 0), (1109, .iconst 0, 1, 0, 0, 0), (1110, .laload, 1, 0, 0, 0), (1111, .iload 6, 2, 0, 0, 0), (1113, .i2l, 1, 0, 0, 0), (1114, .lcmp, 1, 0, 0, 0), (1115, .ifCond .eq 5, 3, 0, 0, 0), (1118, .iconst 0, 1, 0, 0, 0), (1119, .ireturn, 1, 0, 0, 0), (1120, .goto 535, 3, 0, 0, 0), (1123, .aload_n 1, 1, 0, 0, 0), (1124, .aload_n 0, 1, 0, 0, 0), (1125, .iload 4, 2, 0, 0, 0), (1127, .iconst 1, 1, 0, 0, 0), (1128, .iadd, 1, 0, 0, 0), (1129, .iaload, 1, 0, 0, 0), (1130, .aload_n 0, 1, 0, 0, 0), (1131, .iload 4, 2, 0, 0, 0), (1133, .iconst 2, 1, 0, 0, 0), (1134, .iadd, 1, 0, 0, 0), (1135, .iaload, 1, 0, 0, 0), (1136, .aload_n 3, 1, 0, 0, 0), (1137, .invokestatic 155, 3, 234, 4, 0), (1140, .istore 5, 2, 0, 0, 0), (1142, .aload_n 2, 1, 0, 0, 0), (1143, .aload_n 0, 1, 0, 0, 0), (1144, .iload 4, 2, 0, 0, 0), (1146, .iconst 1, 1, 0, 0, 0), (1147, .iadd, 1, 0, 0, 0), (1148, .iaload, 1, 0, 0, 0), (1149, .aload_n 0, 1, 0, 0, 0), (1150, .iload 4, 2, 0, 0, 0), (1152, .iconst 2, 1, 0, 0, 0), (1153, .iadd, 1, 0, 0, 0), (1154, .iaload, 1, 0, 0, 0), (1155, .invokevirtual 157, 3, 208, 2, 0), (1158, .istore 6, 2, 0, 0, 0), (1160, .aload_n 2, 1, 0, 0, 0), (1161, .invokevirtual 95, 3, 133, 0, 0), (1164, .iload 5, 2, 0, 0, 0), (1166, .if_icmp .eq 5, 3, 0, 0, 0), (1169, .iconst 0, 1, 0, 0, 0), (1170, .ireturn, 1, 0, 0, 0), (1171, .iload 5, 2, 0, 0, 0), (1173, .ifCond .ne 15, 3, 0, 0, 0), (1176, .aload_n 3, 1, 0, 0, 0), (1177, .iconst 0, 1, 0, 0, 0), (1178, .laload, 1, 0, 0, 0), (1179, .iload 6, 2, 0, 0, 0), (1181, .i2l, 1, 0, 0, 0), (1182, .lcmp, 1, 0, 0, 0), (1183, .ifCond .eq 5, 3, 0, 0, 0), (1186, .iconst 0, 1, 0, 0, 0), (1187, .ireturn, 1, 0, 0, 0), (1188, .goto 467, 3, 0, 0, 0), (1191, .aload_n 1, 1, 0, 0, 0), (1192, .aload_n 0, 1, 0, 0, 0), (1193, .iload 4, 2, 0, 0, 0), (1195, .iconst 1, 1, 0, 0, 0), (1196, .iadd, 1, 0, 0, 0), (1197, .iaload, 1, 0, 0, 0), (1198, .aload_n 0, 1, 0, 0, 0), (1199, .iload 4, 2, 0, 0, 0), (1201, .iconst 2, 1, 0, 0, 0), (1202, .iadd, 1, 0, 0, 0), (1203, .iaload, 1, 0, 0, 0), (1204, .aload_n 3, 1, 0, 0, 0), (1205, .invokestatic 158, 3, 235, 4, 0), (1208, .istore 5, 2, 0, 0, 0), (1210, .aload_n 2, 1, 0, 0, 0), (1211, .aload_n 0, 1, 0, 0, 0), (1212, .iload 4, 2, 0, 0, 0), (1214, .iconst 1, 1, 0, 0, 0), (1215, .iadd, 1, 0, 0, 0), (1216, .iaload, 1, 0, 0, 0), (1217, .aload_n 0, 1, 0, 0, 0), (1218, .iload 4, 2, 0, 0, 0), (1220, .iconst 2, 1, 0, 0, 0), (1221, .iadd, 1, 0, 0, 0), (1222, .iaload, 1, 0, 0, 0), (1223, .invokevirtual 160, 3, 209, 2, 0), (1226, .istore 6, 2, 0, 0, 0), (1228, .aload_n 2, 1, 0, 0, 0), (1229, .invokevirtual 95, 3, 133, 0, 0), (1232, .iload 5, 2, 0, 0, 0), (1234, .if_icmp .eq 5, 3, 0, 0, 0), (1237, .iconst 0, 1, 0, 0, 0), (1238, .ireturn, 1, 0, 0, 0), (1239, .iload 5, 2, 0, 0, 0), (1241, .ifCond .ne 15, 3, 0, 0, 0), (1244, .aload_n 3, 1, 0, 0, 0), (1245, .iconst 0, 1, 0, 0, 0), (1246, .laload, 1, 0, 0, 0), (1247, .iload 6, 2, 0, 0, 0), (1249, .i2l, 1, 0, 0, 0), (1250, .lcmp, 1, 0, 0, 0), (1251, .ifCond .eq 5, 3, 0, 0, 0), (1254, .iconst 0, 1, 0, 0, 0), (1255, .ireturn, 1, 0, 0, 0), (1256, .goto 399, 3, 0, 0, 0), (1259, .aload_n 1, 1, 0, 0, 0), (1260, .aload_n 0, 1, 0, 0, 0), (1261, .iload 4, 2, 0, 0, 0), (1263, .iconst 1, 1, 0, 0, 0), (1264, .iadd, 1, 0, 0, 0), (1265, .iaload, 1, 0, 0, 0), (1266, .aload_n 3, 1, 0, 0, 0), (1267, .invokestatic 161, 3, 236, 3, 0), (1270, .istore 5, 2, 0, 0, 0), (1272, .aload_n 2, 1, 0, 0, 0), (1273, .aload_n 0, 1, 0, 0, 0), (1274, .iload 4, 2, 0, 0, 0), (1276, .iconst 1, 1, 0, 0, 0), (1277, .iadd, 1, 0, 0, 0), (1278, .iaload, 1, 0, 0, 0), (1279, .invokevirtual 163, 3, 210, 1, 0), (1282, .istore 6, 2, 0, 0, 0), (1284, .aload_n 2, 1, 0, 0, 0), (1285, .invokevirtual 95, 3, 133, 0, 0), (1288, .iload 5, 2, 0, 0, 0), (1290, .if_icmp .eq 5, 3, 0, 0, 0), (1293, .iconst 0, 1, 0, 0, 0), (1294, .ireturn, 1, 0, 0, 0), (1295, .iload 5, 2, 0, 0, 0), (1297, .ifCond .ne 15, 3, 0, 0, 0), (1300, .aload_n 3, 1, 0, 0, 0), (1301, .iconst 0, 1, 0, 0, 0), (1302, .laload, 1, 0, 0, 0), (1303, .iload 6, 2, 0, 0, 0), (1305, .i2l, 1, 0, 0, 0), (1306, .lcmp, 1, 0, 0, 0), (1307, .ifCond .eq 5, 3, 0, 0, 0), (1310, .iconst 0, 1, 0, 0, 0), (1311, .ireturn, 1, 0, 0, 0), (1312, .goto 343, 3, 0, 0, 0), (1315, .aload_n 1, 1, 0, 0, 0), (1316, .aload_n 0, 1, 0, 0, 0), (1317, .iload 4, 2, 0, 0, 0), (1319, .iconst 1, 1, 0, 0, 0), (1320, .iadd, 1, 0, 0, 0), (1321, .iaload, 1, 0, 0, 0), (1322, .aload_n 0, 1, 0, 0, 0), (1323, .iload 4, 2, 0, 0, 0), (1325, .iconst 2, 1, 0, 0, 0), (1326, .iadd, 1, 0, 0, 0), (1327, .iaload, 1, 0, 0, 0), (1328, .aload_n 0, 1, 0, 0, 0), (1329, .iload 4, 2, 0, 0, 0), (1331, .iconst 3, 1, 0, 0, 0), (1332, .iadd, 1, 0, 0, 0), (1333, .iaload, 1, 0, 0, 0), (1334, .aload_n 3, 1, 0, 0, 0), (1335, .invokestatic 164, 3, 237, 5, 0), (1338, .istore 5, 2, 0, 0, 0), (1340, .aload_n 2, 1, 0, 0, 0), (1341, .aload_n 0, 1, 0, 0, 0), (1342, .iload 4, 2, 0, 0, 0), (1344, .iconst 1, 1, 0, 0, 0), (1345, .iadd, 1, 0, 0, 0), (1346, .iaload, 1, 0, 0, 0), (1347, .aload_n 0, 1, 0, 0, 0), (1348, .iload 4, 2, 0, 0, 0), (1350, .iconst 2, 1, 0, 0, 0), (1351, .iadd, 1, 0, 0, 0), (1352, .iaload, 1, 0, 0, 0), (1353, .aload_n 0, 1, 0, 0, 0), (1354, .iload 4, 2, 0, 0, 0), (1356, .iconst 3, 1, 0, 0, 0), (1357, .iadd, 1, 0, 0, 0), (1358, .iaload, 1, 0, 0, 0), (1359, .invokevirtual 166, 3, 212, 3, 0), (1362, .istore 6, 2, 0, 0, 0), (1364, .aload_n 2, 1, 0, 0, 0), (1365, .invokevirtual 95, 3, 133, 0, 0), (1368, .iload 5, 2, 0, 0, 0), (1370, .if_icmp .eq 5, 3, 0, 0, 0), (1373, .iconst 0, 1, 0, 0, 0), (1374, .ireturn, 1, 0, 0, 0), (1375, .iload 5, 2, 0, 0, 0), (1377, .ifCond .ne 15, 3, 0, 0, 0), (1380, .aload_n 3, 1, 0, 0, 0), (1381, .iconst 0, 1, 0, 0, 0), (1382, .laload, 1, 0, 0, 0), (1383, .iload 6, 2, 0, 0, 0), (1385, .i2l, 1, 0, 0, 0), (1386, .lcmp, 1, 0, 0, 0), (1387, .ifCond .eq 5, 3, 0, 0, 0), (1390, .iconst 0, 1, 0, 0, 0), (1391, .ireturn, 1, 0, 0, 0), (1392, .goto 263, 3, 0, 0, 0), (1395, .aload_n 1, 1, 0, 0, 0), (1396, .aload_n 0, 1, 0, 0, 0), (1397, .iload 4, 2, 0, 0, 0), (1399, .iconst 1, 1, 0, 0, 0), (1400, .iadd, 1, 0, 0, 0), (1401, .iaload, 1, 0, 0, 0), (1402, .aload_n 0, 1, 0, 0, 0), (1403, .iload 4, 2, 0, 0, 0), (1405, .iconst 2, 1, 0, 0, 0), (1406, .iadd, 1, 0, 0, 0), (1407, .iaload, 1, 0, 0, 0), (1408, .aload_n 3, 1, 0, 0, 0), (1409, .invokestatic 167, 3, 238, 4, 0), (1412, .istore 5, 2, 0, 0, 0), (1414, .aload_n 2, 1, 0, 0, 0), (1415, .aload_n 0, 1, 0, 0, 0), (1416, .iload 4, 2, 0, 0, 0), (1418, .iconst 1, 1, 0, 0, 0), (1419, .iadd, 1, 0, 0, 0), (1420, .iaload, 1, 0, 0, 0), (1421, .aload_n 0, 1, 0, 0, 0), (1422, .iload 4, 2, 0, 0, 0), (1424, .iconst 2, 1, 0, 0, 0), (1425, .iadd, 1, 0, 0, 0), (1426, .iaload, 1, 0, 0, 0), (1427, .invokevirtual 169, 3, 213, 2, 0), (1430, .lstore 6, 2, 0, 0, 0), (1432, .aload_n 2, 1, 0, 0, 0), (1433, .invokevirtual 95, 3, 133, 0, 0), (1436, .iload 5, 2, 0, 0, 0), (1438, .if_icmp .eq 5, 3, 0, 0, 0), (1441, .iconst 0, 1, 0, 0, 0), (1442, .ireturn, 1, 0, 0, 0), (1443, .iload 5, 2, 0, 0, 0), (1445, .ifCond .ne 14, 3, 0, 0, 0), (1448, .aload_n 3, 1, 0, 0, 0), (1449, .iconst 0, 1, 0, 0, 0), (1450, .laload, 1, 0, 0, 0), (1451, .lload 6, 2, 0, 0, 0), (1453, .lcmp, 1, 0, 0, 0), (1454, .ifCond .eq 5, 3, 0, 0, 0), (1457, .iconst 0, 1, 0, 0, 0), (1458, .ireturn, 1, 0, 0, 0), (1459, .goto 196, 3, 0, 0, 0), (1462, .aload_n 1, 1, 0, 0, 0), (1463, .aload_n 0, 1, 0, 0, 0), (1464, .iload 4, 2, 0, 0, 0), (1466, .iconst 1, 1, 0, 0, 0), (1467, .iadd, 1, 0, 0, 0), (1468, .iaload, 1, 0, 0, 0), (1469, .aload_n 0, 1, 0, 0, 0), (1470, .iload 4, 2, 0, 0, 0), (1472, .iconst 2, 1, 0, 0, 0), (1473, .iadd, 1, 0, 0, 0), (1474, .iaload, 1, 0, 0, 0), (1475, .aload_n 0, 1, 0, 0, 0), (1476, .iload 4, 2, 0, 0, 0), (1478, .iconst 3, 1, 0, 0, 0), (1479, .iadd, 1, 0, 0, 0), (1480, .iaload, 1, 0, 0, 0), (1481, .aload_n 3, 1, 0, 0, 0), (1482, .invokestatic 170, 3, 239, 5, 0), (1485, .istore 5, 2, 0, 0, 0), (1487, .aload_n 2, 1, 0, 0, 0), (1488, .aload_n 0, 1, 0, 0, 0), (1489, .iload 4, 2, 0, 0, 0), (1491, .iconst 1, 1, 0, 0, 0), (1492, .iadd, 1, 0, 0, 0), (1493, .iaload, 1, 0, 0, 0), (1494, .aload_n 0, 1, 0, 0, 0), (1495, .iload 4, 2, 0, 0, 0), (1497, .iconst 2, 1, 0, 0, 0), (1498, .iadd, 1, 0, 0, 0), (1499, .iaload, 1, 0, 0, 0), (1500, .aload_n 0, 1, 0, 0, 0), (1501, .iload 4, 2, 0, 0, 0), (1503, .iconst 3, 1, 0, 0, 0), (1504, .iadd, 1, 0, 0, 0), (1505, .iaload, 1, 0, 0, 0), (1506, .invokevirtual 172, 3, 214, 3, 0), (1509, .istore 6, 2, 0, 0, 0), (1511, .aload_n 2, 1, 0, 0, 0), (1512, .invokevirtual 95, 3, 133, 0, 0), (1515, .iload 5, 2, 0, 0, 0), (1517, .if_icmp .eq 5, 3, 0, 0, 0), (1520, .iconst 0, 1, 0, 0, 0), (1521, .ireturn, 1, 0, 0, 0), (1522, .iload 5, 2, 0, 0, 0), (1524, .ifCond .ne 15, 3, 0, 0, 0), (1527, .aload_n 3, 1, 0, 0, 0), (1528, .iconst 0, 1, 0, 0, 0), (1529, .laload, 1, 0, 0, 0), (1530, .iload 6, 2, 0, 0, 0), (1532, .i2l, 1, 0, 0, 0), (1533, .lcmp, 1, 0, 0, 0), (1534, .ifCond .eq 5, 3, 0, 0, 0), (1537, .iconst 0, 1, 0, 0, 0), (1538, .ireturn, 1, 0, 0, 0), (1539, .goto 116, 3, 0, 0, 0), (1542, .aload_n 1, 1, 0, 0, 0), (1543, .aload_n 0, 1, 0, 0, 0), (1544, .iload 4, 2, 0, 0, 0), (1546, .iconst 1, 1, 0, 0, 0), (1547, .iadd, 1, 0, 0, 0), (1548, .iaload, 1, 0, 0, 0), (1549, .aload_n 3, 1, 0, 0, 0), (1550, .invokestatic 173, 3, 240, 3, 0), (1553, .istore 5, 2, 0, 0, 0), (1555, .aload_n 2, 1, 0, 0, 0), (1556, .aload_n 0, 1, 0, 0, 0), (1557, .iload 4, 2, 0, 0, 0), (1559, .iconst 1, 1, 0, 0, 0), (1560, .iadd, 1, 0, 0, 0), (1561, .iaload, 1, 0, 0, 0), (1562, .invokevirtual 175, 3, 216, 1, 0), (1565, .istore 6, 2, 0, 0, 0), (1567, .aload_n 2, 1, 0, 0, 0), (1568, .invokevirtual 95, 3, 133, 0, 0), (1571, .iload 5, 2, 0, 0, 0), (1573, .if_icmp .eq 5, 3, 0, 0, 0), (1576, .iconst 0, 1, 0, 0, 0), (1577, .ireturn, 1, 0, 0, 0), (1578, .iload 5, 2, 0, 0, 0), (1580, .ifCond .ne 15, 3, 0, 0, 0), (1583, .aload_n 3, 1, 0, 0, 0), (1584, .iconst 0, 1, 0, 0, 0), (1585, .laload, 1, 0, 0, 0), (1586, .iload 6, 2, 0, 0, 0), (1588, .i2l, 1, 0, 0, 0), (1589, .lcmp, 1, 0, 0, 0), (1590, .ifCond .eq 5, 3, 0, 0, 0), (1593, .iconst 0, 1, 0, 0, 0), (1594, .ireturn, 1, 0, 0, 0), (1595, .goto 60, 3, 0, 0, 0), (1598, .aload_n 1, 1, 0, 0, 0), (1599, .aload_n 0, 1, 0, 0, 0), (1600, .iload 4, 2, 0, 0, 0), (1602, .iconst 1, 1, 0, 0, 0), (1603, .iadd, 1, 0, 0, 0), (1604, .iaload, 1, 0, 0, 0), (1605, .i2l, 1, 0, 0, 0), (1606, .bipush 32, 2, 0, 0, 0), (1608, .lshl, 1, 0, 0, 0), (1609, .aload_n 0, 1, 0, 0, 0), (1610, .iload 4, 2, 0, 0, 0), (1612, .iconst 2, 1, 0, 0, 0), (1613, .iadd, 1, 0, 0, 0), (1614, .iaload, 1, 0, 0, 0), (1615, .i2l, 1, 0, 0, 0), (1616, .ldc2_w 111, 3, 0, 0, 4294967295), (1619, .land, 1, 0, 0, 0), (1620, .lor, 1, 0, 0, 0), (1621, .invokevirtual 176, 3, 116, 1, 0), (1624, .aload_n 2, 1, 0, 0, 0), (1625, .aload_n 0, 1, 0, 0, 0), (1626, .iload 4, 2, 0, 0, 0), (1628, .iconst 1, 1, 0, 0, 0), (1629, .iadd, 1, 0, 0, 0), (1630, .iaload, 1, 0, 0, 0), (1631, .i2l, 1, 0, 0, 0), (1632, .bipush 32, 2, 0, 0, 0), (1634, .lshl, 1, 0, 0, 0), (1635, .aload_n 0, 1, 0, 0, 0), (1636, .iload 4, 2, 0, 0, 0), (1638, .iconst 2, 1, 0, 0, 0), (1639, .iadd, 1, 0, 0, 0), (1640, .iaload, 1, 0, 0, 0), (1641, .i2l, 1, 0, 0, 0), (1642, .ldc2_w 111, 3, 0, 0, 4294967295), (1645, .land, 1, 0, 0, 0), (1646, .lor, 1, 0, 0, 0), (1647, .invokevirtual 180, 3, 219, 1, 0), (1650, .if_icmp .eq 5, 3, 0, 0, 0), (1653, .iconst 0, 1, 0, 0, 0), (1654, .ireturn, 1, 0, 0, 0), (1655, .iinc 4 6, 3, 0, 0, 0), (1658, .goto (-1635), 3, 0, 0, 0), (1661, .iconst 1, 1, 0, 0, 0), (1662, .ireturn, 1, 0, 0, 0)]
def aD_L_law : ax_D := (yL_law, cL_law, 8, (some .boolean), [], [], at_L_law, [])
def ax_Ts : List ax_D := [aD_X0_init, aD_X0_forget, aD_X0_first, aD_X0_after, aD_X0_add, aD_X0_bucket, aD_X1_init, aD_X1_over, aD_X1_forgetFault, aD_X1_refuse, aD_X1_lowFirst, aD_X1_row, aD_X1_smallRow, aD_X1_textLength, aD_X1_skip, aD_X2_isText, aD_X2_isLetters, aD_X2_isReference, aD_X2_isNumber, aD_X2_isForm, aD_X2_holds, aD_X2_width, aD_X3_init, aD_X3_forget, aD_X3_reckon, aD_X3_orderEntries, aD_X3_climb, aD_X3_numberShapes, aD_X3_knownShape, aD_X3_shapeHash, aD_X3_sameShape, aD_X3_shapeSize, aD_X3_placeTexts, aD_X3_placeText, aD_X3_knownText, aD_X3_placeEntries, aD_X3_moveEntries, aD_X3_referenceRowBytes, aD_X3_steadyValueBytes, aD_X4_init, aD_X4_readUnits, aD_X4_readHeader, aD_X4_readTable, aD_X4_readEntries, aD_X4_readEntry, aD_X4_readNumber, aD_X4_readLetters, aD_X4_keptLength, aD_X4_resolveReferences, aD_X4_entryAt, aD_X5_init, aD_X5_of, aD_X6_init, aD_X6_used, aD_X6_most, aD_X6_room, aD_X6_at, aD_X6_change, aD_X6_cut, aD_X6_add, aD_X6_addHighFirst, aD_X6_addLowFirst, aD_X6_addRow, aD_X6_addSignedRow, aD_X6_addSevens, aD_X6_addFrom, aD_X6_same, aD_X6_hash, aD_X6_zeroFrom, aD_X6_rowSize, aD_X6_signedRowSize, aD_X7_init, aD_X7_indexOf, aD_X7_readFrom, aD_X7_readShape, aD_X7_readAttribute, aD_X7_mayFollow, aD_X8_init, aD_X8_slotAt, aD_X8_forget, aD_X8_addRoot, aD_X8_addChild, aD_X8_addEntry, aD_X8_addAttribute, aD_X8_slotOf, aD_X8_start, aD_X8_childAt, aD_X9_writeUnits, aD_X9_writeEntry, aD_X9_writeValue, aD_X9_writeShapes, aD_X9_writeTexts, aD_X10_init, aD_X10_feed, aD_X10_end, aD_X10_unit, aD_X10_entry, aD_X10_number, aD_X10_bytes, aD_X10_reference, aD_X10_clear, aD_X10_write, aD_X10_size, aD_X10_octet, aD_X10_load, aD_X10_alter, aD_X10_read, aD_X10_fault, aD_X10_count, aD_X10_about, aD_X10_child, aD_X10_root, aD_X10_attribute, aD_X10_value, aD_X10_letter, aD_X10_find, aD_X10_covers, aD_X10_needEntry, aD_X10_needCode, aD_X10_needNewName, aD_X10_needLetters, aD_X10_needRoom, aD_X10_needSection, aD_X10_needByte, aD_X10_neededSlot, aD_X10_keepLetters, aD_X10_rootNamedByTape, aD_X10_childNamedByTape, aD_X10_isNamedByTape, aD_X10_coversAddress, aD_X10_isBelow, aD_X10_isCode, aD_X11_init, aD_X11_thrown, aD_X11_in, aD_X11_goes, aD_X11_from, aD_X11_most, aD_X11_feed, aD_X11_end, aD_X11_isName, aD_X11_at, aD_X11_isEntry, aD_X11_make, aD_X11_unit, aD_X11_depth, aD_X11_entry, aD_X11_isNumber, aD_X11_isText, aD_X11_isReference, aD_X11_isForm, aD_X11_fits, aD_X11_isTold, aD_X11_add, aD_X11_isFull, aD_X11_number, aD_X11_areBytes, aD_X11_bytes, aD_X11_reference, aD_X11_clear, aD_X11_firstChild, aD_X11_nextChild, aD_X11_goThrough, aD_X11_sameShape, aD_X11_findShapes, aD_X11_sameText, aD_X11_textOf, aD_X11_findTexts, aD_X11_rowBytes, aD_X11_signedBytes, aD_X11_sizeOf, aD_X11_reckon, aD_X11_layOut, aD_X11_put, aD_X11_putRow, aD_X11_putSigned, aD_X11_putNumber, aD_X11_putText, aD_X11_putValue, aD_X11_shapeBytes, aD_X11_write, aD_X11_isSection, aD_X11_size, aD_X11_isOctet, aD_X11_octet, aD_X11_load, aD_X11_alter, aD_X11_bad, aD_X11_byteAt, aD_X11_has, aD_X11_fixed, aD_X11_row, aD_X11_readTable, aD_X11_readShape, aD_X11_readPair, aD_X11_shapeNumbered, aD_X11_textIs, aD_X11_keep, aD_X11_readText8, aD_X11_readText14, aD_X11_readValue, aD_X11_readEntry, aD_X11_readEntries, aD_X11_resolve, aD_X11_readUnit, aD_X11_read, aD_X11_fault, aD_X11_count, aD_X11_about, aD_X11_child, aD_X11_root, aD_X11_isAttribute, aD_X11_attribute, aD_X11_value, aD_X11_letter, aD_X11_isNamed, aD_X11_find, aD_X11_numberNamed, aD_X11_isBelow, aD_X11_covers, aD_J7_fill_53178, aD_L_feed, aD_L_end, aD_L_unit, aD_L_entry, aD_L_number, aD_L_bytes, aD_L_reference, aD_L_size, aD_L_octet, aD_L_load, aD_L_alter, aD_L_fault, aD_L_count, aD_L_about, aD_L_child, aD_L_root, aD_L_attribute, aD_L_value, aD_L_letter, aD_L_find, aD_L_law]
def ax_T (j : Nat) : ax_D := ax_Ts.getD j aD_X0_init
abbrev ax_n9 : String := "EntryTree$Table"
abbrev ax_j9 : Nat := 77
abbrev ax_m9 : MethodName := yX10_isCode
abbrev ax_o9 : String := "EntryTree"
def ax_Ss : List (String × Nat × String) := [("EntryTree$Cursor", 47, "the sections are wrong"), ("EntryTree", 55, "the tape is full"), ("EntryTree", 68, "the tape has no such end"), ("EntryTree", 304, "no tag or name"), ("EntryTree", 86, "no room for a unit"), ("EntryTree", 299, "no such entry"), ("EntryTree", 103, "no room for an entry"), ("EntryTree", 309, "the name is told"), ("EntryTree", 123, "no such number"), ("EntryTree", 319, "no room for an attribute"), ("EntryTree", 317, "no such text or block"), ("EntryTree", 142, "an entry of another unit"), ("EntryTree", 147, "no form of a reference"), ("EntryTree", 321, "no such section"), ("EntryTree", 323, "no such byte of a section"), ("EntryTree", 200, "too many bytes for the section"), ("EntryTree", 224, "no such part of a fault"), ("EntryTree", 237, "no such count"), ("EntryTree", 254, "nothing such about an entry"), ("EntryTree", 259, "no such unit"), ("EntryTree", 325, "no such attribute"), ("EntryTree", 276, "nothing such of an attribute"), ("EntryTree", 285, "no such byte of a text or block")]
end AXTB
end
section
section AXV
def ax_needc (T : Nat → ax_D) (a9 : String) (i9 : Nat) (x9 : MethodName) (own : String) (x : ax_I) : List Cond := match x.1 with
  | .invokevirtual i => if x.2.2.1 < 900 then [.methodLink own i (ax_dy (T x.2.2.1)), .instanceMethod (ax_dy (T x.2.2.1)), .selects (ax_dy (T x.2.2.1)).cls (ax_dy (T x.2.2.1)) (ax_dy (T x.2.2.1)), .initialized (ax_dy (T x.2.2.1)).cls] else []
  | .invokespecial i => if x.2.2.1 < 900 then [.methodLink own i (ax_dy (T x.2.2.1)), .instanceMethod (ax_dy (T x.2.2.1)), .initialized (ax_dy (T x.2.2.1)).cls] else []
  | .invokestatic i => if x.2.2.1 < 900 then [.static (ax_dy (T x.2.2.1)), .initialized (ax_dy (T x.2.2.1)).cls] ++ (if own = a9 ∧ i = i9 ∧ ax_dy (T x.2.2.1) = x9 ∧ ax_dh (T x.2.2.1) = [] then [] else [.methodLink own i (ax_dy (T x.2.2.1))]) else []
  | _ => []
def ax_chkc (T : Nat → ax_D) (x : ax_I) : Bool := match x.1 with
  | .invokevirtual _ | .invokestatic _ => if x.2.2.1 < 900 then decide ((parseMethodDescriptor (ax_dy (T x.2.2.1)).desc).map (fun d => d.parameters.length) = some x.2.2.2.1) else true
  | .invokespecial _ => if x.2.2.1 < 900 then decide ((parseMethodDescriptor (ax_dy (T x.2.2.1)).desc).map (fun d => d.parameters.length) = some x.2.2.2.1) && (decide ((ax_dy (T x.2.2.1)).name = "<init>") && (decide (ax_dh (T x.2.2.1) = []) && decide (ax_dr (T x.2.2.1) = none))) else true
  | _ => true
theorem ax_okc_of {T : Nat → ax_D} {a9 : String} {i9 : Nat} {x9 : MethodName} {own : String} {x : ax_I} (h1 : ∀ w ∈ ax_needc T a9 i9 x9 own x, w ∈ ax_W) (h2 : ax_chkc T x = true) : ax_okc T a9 i9 x9 own x := by
  obtain ⟨ins, len, r1, r2, kc⟩ := x
  cases ins <;> try exact trivial
  case invokevirtual i =>
    intro hlt
    simp only at hlt
    simp only [ax_needc, hlt, if_true] at h1
    simp only [ax_chkc, hlt, if_true, decide_eq_true_eq] at h2
    exact ⟨h1, h2⟩
  case invokespecial i =>
    intro hlt
    simp only at hlt
    simp only [ax_needc, hlt, if_true] at h1
    simp only [ax_chkc, hlt, if_true, Bool.and_eq_true, decide_eq_true_eq] at h2
    exact ⟨h1, h2.1, h2.2.1, h2.2.2.1, h2.2.2.2⟩
  case invokestatic i =>
    intro hlt
    simp only at hlt
    simp only [ax_needc, hlt, if_true] at h1
    simp only [ax_chkc, hlt, if_true, decide_eq_true_eq] at h2
    refine ⟨fun w h => h1 w (List.mem_append_left _ h), h2, ?_⟩
    by_cases hc : own = a9 ∧ i = i9 ∧ ax_dy (T r1) = x9 ∧ ax_dh (T r1) = []
    · exact Or.inr hc
    · rw [if_neg hc] at h1
      exact Or.inl (h1 _ (List.mem_append_right _ List.mem_cons_self))
def ax_needs (T : Nat → ax_D) (a9 : String) (i9 : Nat) (x9 : MethodName) (D : ax_D) : List Cond :=
  (ax_dt D).flatMap (fun q => ax_need (ax_dy D).cls q.2 ++ ax_needc T a9 i9 x9 (ax_dy D).cls q.2) ++ ((ax_dh D).zip (ax_dn D)).map (fun q => Cond.classLink (ax_dy D).cls q.1.2.2.2 q.2) ++ [ax_cw D]
def ax_chks (T : Nat → ax_D) (D : ax_D) : Bool := (ax_dt D).all (fun q => ax_chk (ax_dy D).cls (decide ((ax_dy D).name = "<init>")) q.2 && ax_chkc T q.2)
def ax_chkm (D : ax_D) : Bool := plainName (ax_dy D).cls && (decide ((ax_dy D).cls ≠ "java/lang/invoke/MethodHandle") && (decide ((ax_dy D).cls ≠ "java/lang/invoke/VarHandle") && (decide (ax_dl D ≤ 20) && (decide ((ax_dh D).length = (ax_dn D).length) && ((ax_dn D).all (fun n => decide (n ∈ ax_Ex)) && (ax_dh D).all (fun q => decide (q.2.2.2 ≠ 0)))))))
theorem ax_lookup_mem {α : Type} {l : List (Nat × α)} {k : Nat} {v : α} (h : l.lookup k = some v) : (k, v) ∈ l := by
  induction l with
  | nil => cases h
  | cons q t ih =>
    obtain ⟨a, w⟩ := q
    simp only [List.lookup] at h
    by_cases e : k = a
    · subst e
      simp at h
      subst h
      exact List.mem_cons_self
    · have : (k == a) = false := by simpa using e
      rw [this] at h
      exact List.mem_cons_of_mem _ (ih h)
theorem ax_W_of {N : List Cond} (ix : List Nat) (hp : N = ix.filterMap (fun i => ax_big[i]?)) (hg : N.all goodWord = true) : ∀ w ∈ N, w ∈ ax_W := by
  intro w hw
  refine List.mem_filter.mpr ⟨?_, List.all_eq_true.mp hg w hw⟩
  rw [hp] at hw
  obtain ⟨i, -, hi⟩ := List.mem_filterMap.mp hw
  exact List.mem_of_getElem? hi
theorem ax_okM_of {Ss : List (String × Nat × String)} {T : Nat → ax_D} {a9 : String} {i9 : Nat} {x9 : MethodName} {D : ax_D} (h1 : ∀ q ∈ ax_dt D, decode (ax_db D) q.1 = .ok (q.2.1, q.2.2.1)) (h2 : ax_chks T D = true) (h3 : ∀ w ∈ ax_needs T a9 i9 x9 D, w ∈ ax_W) (h4 : ax_chkm D = true) (h5 : ∀ pc q, (ax_dx D).lookup pc = some q → ax_okx Ss D pc q) : ax_okM Ss T a9 i9 x9 D := by
  simp only [ax_chkm, Bool.and_eq_true, decide_eq_true_eq] at h4
  obtain ⟨m1, m2, m3, m4, m5, m6, m7⟩ := h4
  have w1 : ∀ (pc : Nat) (x : ax_I), (pc, x) ∈ ax_dt D → ∀ w ∈ ax_need (ax_dy D).cls x, w ∈ ax_W := by
    intro pc x hm w hw
    refine h3 w ?_
    unfold ax_needs
    exact List.mem_append_left _ (List.mem_append_left _ (List.mem_flatMap.mpr ⟨(pc, x), hm, List.mem_append_left _ hw⟩))
  have w2 : ∀ (pc : Nat) (x : ax_I), (pc, x) ∈ ax_dt D → ∀ w ∈ ax_needc T a9 i9 x9 (ax_dy D).cls x, w ∈ ax_W := by
    intro pc x hm w hw
    refine h3 w ?_
    unfold ax_needs
    exact List.mem_append_left _ (List.mem_append_left _ (List.mem_flatMap.mpr ⟨(pc, x), hm, List.mem_append_right _ hw⟩))
  have w3 : ax_cw D ∈ ax_W := by
    refine h3 _ ?_
    unfold ax_needs
    exact List.mem_append_right _ List.mem_cons_self
  have w4 : ∀ q ∈ (ax_dh D).zip (ax_dn D), Cond.classLink (ax_dy D).cls q.1.2.2.2 q.2 ∈ ax_W := by
    intro q hq
    refine h3 _ ?_
    unfold ax_needs
    exact List.mem_append_left _ (List.mem_append_right _ (List.mem_map.mpr ⟨q, hq, rfl⟩))
  have e1 : ∀ pc x, (ax_dt D).lookup pc = some x → ax_ok (ax_dy D).cls (ax_db D) (decide ((ax_dy D).name = "<init>")) pc x ∧ ax_okc T a9 i9 x9 (ax_dy D).cls x := by
    intro pc x hx
    have hm := ax_lookup_mem hx
    have hc := List.all_eq_true.mp h2 _ hm
    rw [Bool.and_eq_true] at hc
    have a1 := h1 (pc, x) hm
    dsimp only at a1 hc
    refine ⟨?_, ax_okc_of (w2 pc x hm) hc.2⟩
    unfold ax_ok
    refine ⟨?_, ?_, ?_⟩
    · exact a1
    · exact w1 pc x hm
    · exact hc.1
  have e2 : ∀ (k : Nat) (q : Nat × Nat × Nat × Nat), (ax_dh D)[k]? = some q → ∃ nm, (ax_dn D)[k]? = some nm ∧ nm ∈ ax_Ex ∧ q.2.2.2 ≠ 0 ∧ Cond.classLink (ax_dy D).cls q.2.2.2 nm ∈ ax_W := by
    intro k q hq
    have hk : k < (ax_dh D).length := (List.getElem?_eq_some_iff.mp hq).1
    obtain ⟨nm, hnm⟩ : ∃ nm, (ax_dn D)[k]? = some nm := ⟨_, List.getElem?_eq_getElem (by omega)⟩
    have hz : ((ax_dh D).zip (ax_dn D))[k]? = some (q, nm) := by
      rw [List.getElem?_zip_eq_some]
      exact ⟨hq, hnm⟩
    exact ⟨nm, hnm, of_decide_eq_true (List.all_eq_true.mp m6 nm (List.mem_of_getElem? hnm)), of_decide_eq_true (List.all_eq_true.mp m7 q (List.mem_of_getElem? hq)), w4 (q, nm) (List.mem_of_getElem? hz)⟩
  unfold ax_okM
  exact ⟨m1, ⟨m2, m3⟩, w3, m4, e1, h5, e2⟩
end AXV
end
section
section
theorem kt_0 : ∀ w ∈ Cond.classLink "EntryTree" 53 "java/lang/IllegalStateException" :: Cond.initialized "java/lang/IllegalStateException" :: (vx_atS "EntryTree" 57 "java/lang/IllegalStateException" ax_Up).filter goodWord, w ∈ ax_W := by decide +kernel
theorem kn_0 : (vx_atS "EntryTree" 57 "java/lang/IllegalStateException" ax_Up).filter (fun w => !goodWord w) = ax_De.map Cond.declares ++ [.castable "java/lang/IllegalStateException" "java/lang/IllegalStateException"] := by decide +kernel
theorem kt_1 : ∀ w ∈ Cond.classLink "EntryTree" 66 "java/lang/IllegalArgumentException" :: Cond.initialized "java/lang/IllegalArgumentException" :: (vx_atS "EntryTree" 70 "java/lang/IllegalArgumentException" ax_Up).filter goodWord, w ∈ ax_W := by decide +kernel
theorem kn_1 : (vx_atS "EntryTree" 70 "java/lang/IllegalArgumentException" ax_Up).filter (fun w => !goodWord w) = ax_De.map Cond.declares ++ [.castable "java/lang/IllegalArgumentException" "java/lang/IllegalArgumentException"] := by decide +kernel
theorem kt_2 : ∀ w ∈ Cond.classLink "EntryTree" 84 "java/lang/UnsupportedOperationException" :: Cond.initialized "java/lang/UnsupportedOperationException" :: (vx_atS "EntryTree" 88 "java/lang/UnsupportedOperationException" ax_Up).filter goodWord, w ∈ ax_W := by decide +kernel
theorem kn_2 : (vx_atS "EntryTree" 88 "java/lang/UnsupportedOperationException" ax_Up).filter (fun w => !goodWord w) = ax_De.map Cond.declares ++ [.castable "java/lang/UnsupportedOperationException" "java/lang/UnsupportedOperationException"] := by decide +kernel
theorem kt_3 : ∀ w ∈ Cond.classLink "EntryTree" 222 "java/lang/IndexOutOfBoundsException" :: Cond.initialized "java/lang/IndexOutOfBoundsException" :: (vx_atS "EntryTree" 226 "java/lang/IndexOutOfBoundsException" ax_Up).filter goodWord, w ∈ ax_W := by decide +kernel
theorem kn_3 : (vx_atS "EntryTree" 226 "java/lang/IndexOutOfBoundsException" ax_Up).filter (fun w => !goodWord w) = ax_De.map Cond.declares ++ [.castable "java/lang/IndexOutOfBoundsException" "java/lang/IndexOutOfBoundsException"] := by decide +kernel
theorem kt_4 : ∀ w ∈ Cond.classLink "EntryTree$Cursor" 45 "java/lang/IllegalStateException" :: Cond.initialized "java/lang/IllegalStateException" :: (vx_atS "EntryTree$Cursor" 49 "java/lang/IllegalStateException" ax_Up).filter goodWord, w ∈ ax_W := by decide +kernel
theorem kn_4 : (vx_atS "EntryTree$Cursor" 49 "java/lang/IllegalStateException" ax_Up).filter (fun w => !goodWord w) = ax_De.map Cond.declares ++ [.castable "java/lang/IllegalStateException" "java/lang/IllegalStateException"] := by decide +kernel
end
end
section
section
theorem k1_X0_init : (at_X0_init).all (fun q => decide (decode cX0_init q.1 = .ok (q.2.1, q.2.2.1))) = true := by decide +kernel
theorem k2_X0_init : ax_chks ax_T aD_X0_init = true := by decide +kernel
theorem k3_X0_init : ax_needs ax_T ax_n9 ax_j9 ax_m9 aD_X0_init = [169, 115, 116, 178, 171, 170, 124, 90, 125, 178, 172, 168].filterMap (fun i => ax_big[i]?) := by decide +kernel
theorem k4_X0_init : (ax_needs ax_T ax_n9 ax_j9 ax_m9 aD_X0_init).all goodWord = true := by decide +kernel
theorem ok_X0_init : ax_okM ax_Ss ax_T ax_n9 ax_j9 ax_m9 aD_X0_init := ax_okM_of (fun q h => of_decide_eq_true (List.all_eq_true.mp k1_X0_init q h)) k2_X0_init (ax_W_of _ k3_X0_init k4_X0_init) (by decide +kernel) (fun pc q h => by cases h)
theorem k1_X0_forget : (at_X0_forget).all (fun q => decide (decode cX0_forget q.1 = .ok (q.2.1, q.2.2.1))) = true := by decide +kernel
theorem k2_X0_forget : ax_chks ax_T aD_X0_forget = true := by decide +kernel
theorem k3_X0_forget : ax_needs ax_T ax_n9 ax_j9 ax_m9 aD_X0_forget = [171, 521, 107, 520, 519].filterMap (fun i => ax_big[i]?) := by decide +kernel
theorem k4_X0_forget : (ax_needs ax_T ax_n9 ax_j9 ax_m9 aD_X0_forget).all goodWord = true := by decide +kernel
theorem ok_X0_forget : ax_okM ax_Ss ax_T ax_n9 ax_j9 ax_m9 aD_X0_forget := ax_okM_of (fun q h => of_decide_eq_true (List.all_eq_true.mp k1_X0_forget q h)) k2_X0_forget (ax_W_of _ k3_X0_forget k4_X0_forget) (by decide +kernel) (fun pc q h => by cases h)
theorem k1_X0_first : (at_X0_first).all (fun q => decide (decode cX0_first q.1 = .ok (q.2.1, q.2.2.1))) = true := by decide +kernel
theorem k2_X0_first : ax_chks ax_T aD_X0_first = true := by decide +kernel
theorem k3_X0_first : ax_needs ax_T ax_n9 ax_j9 ax_m9 aD_X0_first = [171, 538, 93, 537, 536].filterMap (fun i => ax_big[i]?) := by decide +kernel
theorem k4_X0_first : (ax_needs ax_T ax_n9 ax_j9 ax_m9 aD_X0_first).all goodWord = true := by decide +kernel
theorem ok_X0_first : ax_okM ax_Ss ax_T ax_n9 ax_j9 ax_m9 aD_X0_first := ax_okM_of (fun q h => of_decide_eq_true (List.all_eq_true.mp k1_X0_first q h)) k2_X0_first (ax_W_of _ k3_X0_first k4_X0_first) (by decide +kernel) (fun pc q h => by cases h)
theorem k1_X0_after : (at_X0_after).all (fun q => decide (decode cX0_after q.1 = .ok (q.2.1, q.2.2.1))) = true := by decide +kernel
theorem k2_X0_after : ax_chks ax_T aD_X0_after = true := by decide +kernel
theorem k3_X0_after : ax_needs ax_T ax_n9 ax_j9 ax_m9 aD_X0_after = [172, 172, 546].filterMap (fun i => ax_big[i]?) := by decide +kernel
theorem k4_X0_after : (ax_needs ax_T ax_n9 ax_j9 ax_m9 aD_X0_after).all goodWord = true := by decide +kernel
theorem ok_X0_after : ax_okM ax_Ss ax_T ax_n9 ax_j9 ax_m9 aD_X0_after := ax_okM_of (fun q h => of_decide_eq_true (List.all_eq_true.mp k1_X0_after q h)) k2_X0_after (ax_W_of _ k3_X0_after k4_X0_after) (by decide +kernel) (fun pc q h => by cases h)
theorem k1_X0_add : (at_X0_add).all (fun q => decide (decode cX0_add q.1 = .ok (q.2.1, q.2.2.1))) = true := by decide +kernel
theorem k2_X0_add : ax_chks ax_T aD_X0_add = true := by decide +kernel
theorem k3_X0_add : ax_needs ax_T ax_n9 ax_j9 ax_m9 aD_X0_add = [172, 538, 93, 537, 172, 171, 171, 550].filterMap (fun i => ax_big[i]?) := by decide +kernel
theorem k4_X0_add : (ax_needs ax_T ax_n9 ax_j9 ax_m9 aD_X0_add).all goodWord = true := by decide +kernel
theorem ok_X0_add : ax_okM ax_Ss ax_T ax_n9 ax_j9 ax_m9 aD_X0_add := ax_okM_of (fun q h => of_decide_eq_true (List.all_eq_true.mp k1_X0_add q h)) k2_X0_add (ax_W_of _ k3_X0_add k4_X0_add) (by decide +kernel) (fun pc q h => by cases h)
theorem k1_X0_bucket : (at_X0_bucket).all (fun q => decide (decode cX0_bucket q.1 = .ok (q.2.1, q.2.2.1))) = true := by decide +kernel
theorem k2_X0_bucket : ax_chks ax_T aD_X0_bucket = true := by decide +kernel
theorem k3_X0_bucket : ax_needs ax_T ax_n9 ax_j9 ax_m9 aD_X0_bucket = [539].filterMap (fun i => ax_big[i]?) := by decide +kernel
theorem k4_X0_bucket : (ax_needs ax_T ax_n9 ax_j9 ax_m9 aD_X0_bucket).all goodWord = true := by decide +kernel
theorem ok_X0_bucket : ax_okM ax_Ss ax_T ax_n9 ax_j9 ax_m9 aD_X0_bucket := ax_okM_of (fun q h => of_decide_eq_true (List.all_eq_true.mp k1_X0_bucket q h)) k2_X0_bucket (ax_W_of _ k3_X0_bucket k4_X0_bucket) (by decide +kernel) (fun pc q h => by cases h)
theorem k1_X1_init : (at_X1_init).all (fun q => decide (decode cX1_init q.1 = .ok (q.2.1, q.2.2.1))) = true := by decide +kernel
theorem k2_X1_init : ax_chks ax_T aD_X1_init = true := by decide +kernel
theorem k3_X1_init : ax_needs ax_T ax_n9 ax_j9 ax_m9 aD_X1_init = [365, 115, 116, 366, 118, 89, 367, 120, 89, 380, 364].filterMap (fun i => ax_big[i]?) := by decide +kernel
theorem k4_X1_init : (ax_needs ax_T ax_n9 ax_j9 ax_m9 aD_X1_init).all goodWord = true := by decide +kernel
theorem ok_X1_init : ax_okM ax_Ss ax_T ax_n9 ax_j9 ax_m9 aD_X1_init := ax_okM_of (fun q h => of_decide_eq_true (List.all_eq_true.mp k1_X1_init q h)) k2_X1_init (ax_W_of _ k3_X1_init k4_X1_init) (by decide +kernel) (fun pc q h => by cases h)
theorem k1_X1_over : (at_X1_over).all (fun q => decide (decode cX1_over q.1 = .ok (q.2.1, q.2.2.1))) = true := by decide +kernel
theorem k2_X1_over : ax_chks ax_T aD_X1_over = true := by decide +kernel
theorem k3_X1_over : ax_needs ax_T ax_n9 ax_j9 ax_m9 aD_X1_over = [679, 680, 681, 91, 380, 379, 368, 371, 678].filterMap (fun i => ax_big[i]?) := by decide +kernel
theorem k4_X1_over : (ax_needs ax_T ax_n9 ax_j9 ax_m9 aD_X1_over).all goodWord = true := by decide +kernel
theorem ok_X1_over : ax_okM ax_Ss ax_T ax_n9 ax_j9 ax_m9 aD_X1_over := ax_okM_of (fun q h => of_decide_eq_true (List.all_eq_true.mp k1_X1_over q h)) k2_X1_over (ax_W_of _ k3_X1_over k4_X1_over) (by decide +kernel) (fun pc q h => by cases h)
theorem k1_X1_forgetFault : (at_X1_forgetFault).all (fun q => decide (decode cX1_forgetFault q.1 = .ok (q.2.1, q.2.2.1))) = true := by decide +kernel
theorem k2_X1_forgetFault : ax_chks ax_T aD_X1_forgetFault = true := by decide +kernel
theorem k3_X1_forgetFault : ax_needs ax_T ax_n9 ax_j9 ax_m9 aD_X1_forgetFault = [373, 375, 377, 672].filterMap (fun i => ax_big[i]?) := by decide +kernel
theorem k4_X1_forgetFault : (ax_needs ax_T ax_n9 ax_j9 ax_m9 aD_X1_forgetFault).all goodWord = true := by decide +kernel
theorem ok_X1_forgetFault : ax_okM ax_Ss ax_T ax_n9 ax_j9 ax_m9 aD_X1_forgetFault := ax_okM_of (fun q h => of_decide_eq_true (List.all_eq_true.mp k1_X1_forgetFault q h)) k2_X1_forgetFault (ax_W_of _ k3_X1_forgetFault k4_X1_forgetFault) (by decide +kernel) (fun pc q h => by cases h)
theorem k1_X1_refuse : (at_X1_refuse).all (fun q => decide (decode cX1_refuse q.1 = .ok (q.2.1, q.2.2.1))) = true := by decide +kernel
theorem k2_X1_refuse : ax_chks ax_T aD_X1_refuse = true := by decide +kernel
theorem k3_X1_refuse : ax_needs ax_T ax_n9 ax_j9 ax_m9 aD_X1_refuse = [373, 379, 375, 377, 686].filterMap (fun i => ax_big[i]?) := by decide +kernel
theorem k4_X1_refuse : (ax_needs ax_T ax_n9 ax_j9 ax_m9 aD_X1_refuse).all goodWord = true := by decide +kernel
theorem kx_X1_refuse_18 : ax_okx ax_Ss aD_X1_refuse 18 ("java/lang/IllegalStateException", "the sections are wrong", 45, 47, 49, false) := ⟨by decide, by decide +kernel, rfl, by decide +kernel, by decide +kernel, ⟨by decide +kernel, by decide +kernel, by decide +kernel⟩, kt_4, kn_4⟩
theorem kx_X1_refuse : ∀ pc q, (ax_dx aD_X1_refuse).lookup pc = some q → ax_okx ax_Ss aD_X1_refuse pc q := by
  intro pc q h
  have hm := ax_lookup_mem h
  simp only [ax_dx, aD_X1_refuse, List.mem_cons, List.not_mem_nil, or_false, Prod.mk.injEq] at hm
  obtain ⟨rfl, rfl⟩ := hm
  exact kx_X1_refuse_18
theorem ok_X1_refuse : ax_okM ax_Ss ax_T ax_n9 ax_j9 ax_m9 aD_X1_refuse := ax_okM_of (fun q h => of_decide_eq_true (List.all_eq_true.mp k1_X1_refuse q h)) k2_X1_refuse (ax_W_of _ k3_X1_refuse k4_X1_refuse) (by decide +kernel) kx_X1_refuse
theorem k1_X1_lowFirst : (at_X1_lowFirst).all (fun q => decide (decode cX1_lowFirst q.1 = .ok (q.2.1, q.2.2.1))) = true := by decide +kernel
theorem k2_X1_lowFirst : ax_chks ax_T aD_X1_lowFirst = true := by decide +kernel
theorem k3_X1_lowFirst : ax_needs ax_T ax_n9 ax_j9 ax_m9 aD_X1_lowFirst = [371, 368, 371, 763, 684, 685, 96, 380, 368, 764, 574, 575, 89, 368, 368, 762].filterMap (fun i => ax_big[i]?) := by decide +kernel
theorem k4_X1_lowFirst : (ax_needs ax_T ax_n9 ax_j9 ax_m9 aD_X1_lowFirst).all goodWord = true := by decide +kernel
theorem ok_X1_lowFirst : ax_okM ax_Ss ax_T ax_n9 ax_j9 ax_m9 aD_X1_lowFirst := ax_okM_of (fun q h => of_decide_eq_true (List.all_eq_true.mp k1_X1_lowFirst q h)) k2_X1_lowFirst (ax_W_of _ k3_X1_lowFirst k4_X1_lowFirst) (by decide +kernel) (fun pc q h => by cases h)
theorem k1_X1_row : (at_X1_row).all (fun q => decide (decode cX1_row q.1 = .ok (q.2.1, q.2.2.1))) = true := by decide +kernel
theorem k2_X1_row : ax_chks ax_T aD_X1_row = true := by decide +kernel
theorem k3_X1_row : ax_needs ax_T ax_n9 ax_j9 ax_m9 aD_X1_row = [368, 368, 371, 371, 763, 684, 685, 96, 380, 368, 764, 574, 575, 89, 368, 368, 763, 684, 685, 96, 784, 783].filterMap (fun i => ax_big[i]?) := by decide +kernel
theorem k4_X1_row : (ax_needs ax_T ax_n9 ax_j9 ax_m9 aD_X1_row).all goodWord = true := by decide +kernel
theorem ok_X1_row : ax_okM ax_Ss ax_T ax_n9 ax_j9 ax_m9 aD_X1_row := ax_okM_of (fun q h => of_decide_eq_true (List.all_eq_true.mp k1_X1_row q h)) k2_X1_row (ax_W_of _ k3_X1_row k4_X1_row) (by decide +kernel) (fun pc q h => by cases h)
theorem k1_X1_smallRow : (at_X1_smallRow).all (fun q => decide (decode cX1_smallRow q.1 = .ok (q.2.1, q.2.2.1))) = true := by decide +kernel
theorem k2_X1_smallRow : ax_chks ax_T aD_X1_smallRow = true := by decide +kernel
theorem k3_X1_smallRow : ax_needs ax_T ax_n9 ax_j9 ax_m9 aD_X1_smallRow = [368, 780, 781, 782, 96, 785, 763, 684, 685, 96, 779].filterMap (fun i => ax_big[i]?) := by decide +kernel
theorem k4_X1_smallRow : (ax_needs ax_T ax_n9 ax_j9 ax_m9 aD_X1_smallRow).all goodWord = true := by decide +kernel
theorem ok_X1_smallRow : ax_okM ax_Ss ax_T ax_n9 ax_j9 ax_m9 aD_X1_smallRow := ax_okM_of (fun q h => of_decide_eq_true (List.all_eq_true.mp k1_X1_smallRow q h)) k2_X1_smallRow (ax_W_of _ k3_X1_smallRow k4_X1_smallRow) (by decide +kernel) (fun pc q h => by cases h)
theorem k1_X1_textLength : (at_X1_textLength).all (fun q => decide (decode cX1_textLength q.1 = .ok (q.2.1, q.2.2.1))) = true := by decide +kernel
theorem k2_X1_textLength : ax_chks ax_T aD_X1_textLength = true := by decide +kernel
theorem k3_X1_textLength : ax_needs ax_T ax_n9 ax_j9 ax_m9 aD_X1_textLength = [368, 380, 371, 858, 859, 860, 89, 371, 763, 684, 685, 96, 368, 857].filterMap (fun i => ax_big[i]?) := by decide +kernel
theorem k4_X1_textLength : (ax_needs ax_T ax_n9 ax_j9 ax_m9 aD_X1_textLength).all goodWord = true := by decide +kernel
theorem ok_X1_textLength : ax_okM ax_Ss ax_T ax_n9 ax_j9 ax_m9 aD_X1_textLength := ax_okM_of (fun q h => of_decide_eq_true (List.all_eq_true.mp k1_X1_textLength q h)) k2_X1_textLength (ax_W_of _ k3_X1_textLength k4_X1_textLength) (by decide +kernel) (fun pc q h => by cases h)
theorem k1_X1_skip : (at_X1_skip).all (fun q => decide (decode cX1_skip q.1 = .ok (q.2.1, q.2.2.1))) = true := by decide +kernel
theorem k2_X1_skip : ax_chks ax_T aD_X1_skip = true := by decide +kernel
theorem k3_X1_skip : ax_needs ax_T ax_n9 ax_j9 ax_m9 aD_X1_skip = [371, 368, 371, 763, 684, 685, 96, 368, 368, 865].filterMap (fun i => ax_big[i]?) := by decide +kernel
theorem k4_X1_skip : (ax_needs ax_T ax_n9 ax_j9 ax_m9 aD_X1_skip).all goodWord = true := by decide +kernel
theorem ok_X1_skip : ax_okM ax_Ss ax_T ax_n9 ax_j9 ax_m9 aD_X1_skip := ax_okM_of (fun q h => of_decide_eq_true (List.all_eq_true.mp k1_X1_skip q h)) k2_X1_skip (ax_W_of _ k3_X1_skip k4_X1_skip) (by decide +kernel) (fun pc q h => by cases h)
theorem k1_X2_isText : (at_X2_isText).all (fun q => decide (decode cX2_isText q.1 = .ok (q.2.1, q.2.2.1))) = true := by decide +kernel
theorem k2_X2_isText : ax_chks ax_T aD_X2_isText = true := by decide +kernel
theorem k3_X2_isText : ax_needs ax_T ax_n9 ax_j9 ax_m9 aD_X2_isText = [821].filterMap (fun i => ax_big[i]?) := by decide +kernel
theorem k4_X2_isText : (ax_needs ax_T ax_n9 ax_j9 ax_m9 aD_X2_isText).all goodWord = true := by decide +kernel
theorem ok_X2_isText : ax_okM ax_Ss ax_T ax_n9 ax_j9 ax_m9 aD_X2_isText := ax_okM_of (fun q h => of_decide_eq_true (List.all_eq_true.mp k1_X2_isText q h)) k2_X2_isText (ax_W_of _ k3_X2_isText k4_X2_isText) (by decide +kernel) (fun pc q h => by cases h)
theorem k1_X2_isLetters : (at_X2_isLetters).all (fun q => decide (decode cX2_isLetters q.1 = .ok (q.2.1, q.2.2.1))) = true := by decide +kernel
theorem k2_X2_isLetters : ax_chks ax_T aD_X2_isLetters = true := by decide +kernel
theorem k3_X2_isLetters : ax_needs ax_T ax_n9 ax_j9 ax_m9 aD_X2_isLetters = [820, 106, 819, 818].filterMap (fun i => ax_big[i]?) := by decide +kernel
theorem k4_X2_isLetters : (ax_needs ax_T ax_n9 ax_j9 ax_m9 aD_X2_isLetters).all goodWord = true := by decide +kernel
theorem ok_X2_isLetters : ax_okM ax_Ss ax_T ax_n9 ax_j9 ax_m9 aD_X2_isLetters := ax_okM_of (fun q h => of_decide_eq_true (List.all_eq_true.mp k1_X2_isLetters q h)) k2_X2_isLetters (ax_W_of _ k3_X2_isLetters k4_X2_isLetters) (by decide +kernel) (fun pc q h => by cases h)
theorem k1_X2_isReference : (at_X2_isReference).all (fun q => decide (decode cX2_isReference q.1 = .ok (q.2.1, q.2.2.1))) = true := by decide +kernel
theorem k2_X2_isReference : ax_chks ax_T aD_X2_isReference = true := by decide +kernel
theorem k3_X2_isReference : ax_needs ax_T ax_n9 ax_j9 ax_m9 aD_X2_isReference = [824].filterMap (fun i => ax_big[i]?) := by decide +kernel
theorem k4_X2_isReference : (ax_needs ax_T ax_n9 ax_j9 ax_m9 aD_X2_isReference).all goodWord = true := by decide +kernel
theorem ok_X2_isReference : ax_okM ax_Ss ax_T ax_n9 ax_j9 ax_m9 aD_X2_isReference := ax_okM_of (fun q h => of_decide_eq_true (List.all_eq_true.mp k1_X2_isReference q h)) k2_X2_isReference (ax_W_of _ k3_X2_isReference k4_X2_isReference) (by decide +kernel) (fun pc q h => by cases h)
theorem k1_X2_isNumber : (at_X2_isNumber).all (fun q => decide (decode cX2_isNumber q.1 = .ok (q.2.1, q.2.2.1))) = true := by decide +kernel
theorem k2_X2_isNumber : ax_chks ax_T aD_X2_isNumber = true := by decide +kernel
theorem k3_X2_isNumber : ax_needs ax_T ax_n9 ax_j9 ax_m9 aD_X2_isNumber = [815].filterMap (fun i => ax_big[i]?) := by decide +kernel
theorem k4_X2_isNumber : (ax_needs ax_T ax_n9 ax_j9 ax_m9 aD_X2_isNumber).all goodWord = true := by decide +kernel
theorem ok_X2_isNumber : ax_okM ax_Ss ax_T ax_n9 ax_j9 ax_m9 aD_X2_isNumber := ax_okM_of (fun q h => of_decide_eq_true (List.all_eq_true.mp k1_X2_isNumber q h)) k2_X2_isNumber (ax_W_of _ k3_X2_isNumber k4_X2_isNumber) (by decide +kernel) (fun pc q h => by cases h)
theorem k1_X2_isForm : (at_X2_isForm).all (fun q => decide (decode cX2_isForm q.1 = .ok (q.2.1, q.2.2.1))) = true := by decide +kernel
theorem k2_X2_isForm : ax_chks ax_T aD_X2_isForm = true := by decide +kernel
theorem k3_X2_isForm : ax_needs ax_T ax_n9 ax_j9 ax_m9 aD_X2_isForm = [814, 106, 813, 817, 106, 816, 823, 106, 822, 812].filterMap (fun i => ax_big[i]?) := by decide +kernel
theorem k4_X2_isForm : (ax_needs ax_T ax_n9 ax_j9 ax_m9 aD_X2_isForm).all goodWord = true := by decide +kernel
theorem ok_X2_isForm : ax_okM ax_Ss ax_T ax_n9 ax_j9 ax_m9 aD_X2_isForm := ax_okM_of (fun q h => of_decide_eq_true (List.all_eq_true.mp k1_X2_isForm q h)) k2_X2_isForm (ax_W_of _ k3_X2_isForm k4_X2_isForm) (by decide +kernel) (fun pc q h => by cases h)
theorem k1_X2_holds : (at_X2_holds).all (fun q => decide (decode cX2_holds q.1 = .ok (q.2.1, q.2.2.1))) = true := by decide +kernel
theorem k2_X2_holds : ax_chks ax_T aD_X2_holds = true := by decide +kernel
theorem k3_X2_holds : ax_needs ax_T ax_n9 ax_j9 ax_m9 aD_X2_holds = [1033, 1034, 1035, 1032].filterMap (fun i => ax_big[i]?) := by decide +kernel
theorem k4_X2_holds : (ax_needs ax_T ax_n9 ax_j9 ax_m9 aD_X2_holds).all goodWord = true := by decide +kernel
theorem ok_X2_holds : ax_okM ax_Ss ax_T ax_n9 ax_j9 ax_m9 aD_X2_holds := ax_okM_of (fun q h => of_decide_eq_true (List.all_eq_true.mp k1_X2_holds q h)) k2_X2_holds (ax_W_of _ k3_X2_holds k4_X2_holds) (by decide +kernel) (fun pc q h => by cases h)
theorem k1_X2_width : (at_X2_width).all (fun q => decide (decode cX2_width q.1 = .ok (q.2.1, q.2.2.1))) = true := by decide +kernel
theorem k2_X2_width : ax_chks ax_T aD_X2_width = true := by decide +kernel
theorem k3_X2_width : ax_needs ax_T ax_n9 ax_j9 ax_m9 aD_X2_width = [599].filterMap (fun i => ax_big[i]?) := by decide +kernel
theorem k4_X2_width : (ax_needs ax_T ax_n9 ax_j9 ax_m9 aD_X2_width).all goodWord = true := by decide +kernel
theorem ok_X2_width : ax_okM ax_Ss ax_T ax_n9 ax_j9 ax_m9 aD_X2_width := ax_okM_of (fun q h => of_decide_eq_true (List.all_eq_true.mp k1_X2_width q h)) k2_X2_width (ax_W_of _ k3_X2_width k4_X2_width) (by decide +kernel) (fun pc q h => by cases h)
end
end
section
section
theorem k1_X3_init : (at_X3_init).all (fun q => decide (decode cX3_init q.1 = .ok (q.2.1, q.2.2.1))) = true := by decide +kernel
theorem k2_X3_init : ax_chks ax_T aD_X3_init = true := by decide +kernel
theorem k3_X3_init : ax_needs ax_T ax_n9 ax_j9 ax_m9 aD_X3_init = [163, 115, 116, 178, 193, 178, 195, 178, 197, 178, 199, 178, 201, 178, 202, 178, 205, 178, 207, 178, 209, 178, 211, 164, 165, 93, 166, 167, 93, 213, 164, 165, 93, 166, 167, 93, 214, 162].filterMap (fun i => ax_big[i]?) := by decide +kernel
theorem k4_X3_init : (ax_needs ax_T ax_n9 ax_j9 ax_m9 aD_X3_init).all goodWord = true := by decide +kernel
theorem ok_X3_init : ax_okM ax_Ss ax_T ax_n9 ax_j9 ax_m9 aD_X3_init := ax_okM_of (fun q h => of_decide_eq_true (List.all_eq_true.mp k1_X3_init q h)) k2_X3_init (ax_W_of _ k3_X3_init k4_X3_init) (by decide +kernel) (fun pc q h => by cases h)
theorem k1_X3_forget : (at_X3_forget).all (fun q => decide (decode cX3_forget q.1 = .ok (q.2.1, q.2.2.1))) = true := by decide +kernel
theorem k2_X3_forget : ax_chks ax_T aD_X3_forget = true := by decide +kernel
theorem k3_X3_forget : ax_needs ax_T ax_n9 ax_j9 ax_m9 aD_X3_forget = [192, 495].filterMap (fun i => ax_big[i]?) := by decide +kernel
theorem k4_X3_forget : (ax_needs ax_T ax_n9 ax_j9 ax_m9 aD_X3_forget).all goodWord = true := by decide +kernel
theorem ok_X3_forget : ax_okM ax_Ss ax_T ax_n9 ax_j9 ax_m9 aD_X3_forget := ax_okM_of (fun q h => of_decide_eq_true (List.all_eq_true.mp k1_X3_forget q h)) k2_X3_forget (ax_W_of _ k3_X3_forget k4_X3_forget) (by decide +kernel) (fun pc q h => by cases h)
theorem k1_X3_reckon : (at_X3_reckon).all (fun q => decide (decode cX3_reckon q.1 = .ok (q.2.1, q.2.2.1))) = true := by decide +kernel
theorem k2_X3_reckon : ax_chks ax_T aD_X3_reckon = true := by decide +kernel
theorem k3_X3_reckon : ax_needs ax_T ax_n9 ax_j9 ax_m9 aD_X3_reckon = [192, 504, 506, 1, 92, 512, 514, 3, 92, 557, 559, 5, 92, 585, 587, 8, 92, 192, 503].filterMap (fun i => ax_big[i]?) := by decide +kernel
theorem k4_X3_reckon : (ax_needs ax_T ax_n9 ax_j9 ax_m9 aD_X3_reckon).all goodWord = true := by decide +kernel
theorem ok_X3_reckon : ax_okM ax_Ss ax_T ax_n9 ax_j9 ax_m9 aD_X3_reckon := ax_okM_of (fun q h => of_decide_eq_true (List.all_eq_true.mp k1_X3_reckon q h)) k2_X3_reckon (ax_W_of _ k3_X3_reckon k4_X3_reckon) (by decide +kernel) (fun pc q h => by cases h)
theorem k1_X3_orderEntries : (at_X3_orderEntries).all (fun q => decide (decode cX3_orderEntries q.1 = .ok (q.2.1, q.2.2.1))) = true := by decide +kernel
theorem k2_X3_orderEntries : ax_chks ax_T aD_X3_orderEntries = true := by decide +kernel
theorem k3_X3_orderEntries : ax_needs ax_T ax_n9 ax_j9 ax_m9 aD_X3_orderEntries = [191, 269, 195, 191, 276, 272, 193, 191, 191, 191, 199, 293, 297, 508, 510, 2, 92, 195, 269, 191, 507].filterMap (fun i => ax_big[i]?) := by decide +kernel
theorem k4_X3_orderEntries : (ax_needs ax_T ax_n9 ax_j9 ax_m9 aD_X3_orderEntries).all goodWord = true := by decide +kernel
theorem ok_X3_orderEntries : ax_okM ax_Ss ax_T ax_n9 ax_j9 ax_m9 aD_X3_orderEntries := ax_okM_of (fun q h => of_decide_eq_true (List.all_eq_true.mp k1_X3_orderEntries q h)) k2_X3_orderEntries (ax_W_of _ k3_X3_orderEntries k4_X3_orderEntries) (by decide +kernel) (fun pc q h => by cases h)
theorem k1_X3_climb : (at_X3_climb).all (fun q => decide (decode cX3_climb q.1 = .ok (q.2.1, q.2.2.1))) = true := by decide +kernel
theorem k2_X3_climb : ax_chks ax_T aD_X3_climb = true := by decide +kernel
theorem k3_X3_climb : ax_needs ax_T ax_n9 ax_j9 ax_m9 aD_X3_climb = [289, 301, 301, 283, 199, 511].filterMap (fun i => ax_big[i]?) := by decide +kernel
theorem k4_X3_climb : (ax_needs ax_T ax_n9 ax_j9 ax_m9 aD_X3_climb).all goodWord = true := by decide +kernel
theorem ok_X3_climb : ax_okM ax_Ss ax_T ax_n9 ax_j9 ax_m9 aD_X3_climb := ax_okM_of (fun q h => of_decide_eq_true (List.all_eq_true.mp k1_X3_climb q h)) k2_X3_climb (ax_W_of _ k3_X3_climb k4_X3_climb) (by decide +kernel) (fun pc q h => by cases h)
theorem k1_X3_numberShapes : (at_X3_numberShapes).all (fun q => decide (decode cX3_numberShapes q.1 = .ok (q.2.1, q.2.2.1))) = true := by decide +kernel
theorem k2_X3_numberShapes : ax_chks ax_T aD_X3_numberShapes = true := by decide +kernel
theorem k3_X3_numberShapes : ax_needs ax_T ax_n9 ax_j9 ax_m9 aD_X3_numberShapes = [180, 187, 213, 516, 517, 518, 93, 191, 193, 524, 92, 523, 529, 531, 4, 92, 180, 207, 213, 547, 548, 549, 93, 180, 180, 187, 180, 552, 92, 551, 187, 205, 515].filterMap (fun i => ax_big[i]?) := by decide +kernel
theorem k4_X3_numberShapes : (ax_needs ax_T ax_n9 ax_j9 ax_m9 aD_X3_numberShapes).all goodWord = true := by decide +kernel
theorem ok_X3_numberShapes : ax_okM ax_Ss ax_T ax_n9 ax_j9 ax_m9 aD_X3_numberShapes := ax_okM_of (fun q h => of_decide_eq_true (List.all_eq_true.mp k1_X3_numberShapes q h)) k2_X3_numberShapes (ax_W_of _ k3_X3_numberShapes k4_X3_numberShapes) (by decide +kernel) (fun pc q h => by cases h)
theorem k1_X3_knownShape : (at_X3_knownShape).all (fun q => decide (decode cX3_knownShape q.1 = .ok (q.2.1, q.2.2.1))) = true := by decide +kernel
theorem k2_X3_knownShape : ax_chks ax_T aD_X3_knownShape = true := by decide +kernel
theorem k3_X3_knownShape : ax_needs ax_T ax_n9 ax_j9 ax_m9 aD_X3_knownShape = [213, 533, 534, 535, 93, 180, 207, 541, 92, 540, 213, 543, 544, 545, 93, 532].filterMap (fun i => ax_big[i]?) := by decide +kernel
theorem k4_X3_knownShape : (ax_needs ax_T ax_n9 ax_j9 ax_m9 aD_X3_knownShape).all goodWord = true := by decide +kernel
theorem ok_X3_knownShape : ax_okM ax_Ss ax_T ax_n9 ax_j9 ax_m9 aD_X3_knownShape := ax_okM_of (fun q h => of_decide_eq_true (List.all_eq_true.mp k1_X3_knownShape q h)) k2_X3_knownShape (ax_W_of _ k3_X3_knownShape k4_X3_knownShape) (by decide +kernel) (fun pc q h => by cases h)
theorem k1_X3_shapeHash : (at_X3_shapeHash).all (fun q => decide (decode cX3_shapeHash q.1 = .ok (q.2.1, q.2.2.1))) = true := by decide +kernel
theorem k2_X3_shapeHash : ax_chks ax_T aD_X3_shapeHash = true := by decide +kernel
theorem k3_X3_shapeHash : ax_needs ax_T ax_n9 ax_j9 ax_m9 aD_X3_shapeHash = [280, 293, 306, 527, 95, 526, 310, 314, 525].filterMap (fun i => ax_big[i]?) := by decide +kernel
theorem k4_X3_shapeHash : (ax_needs ax_T ax_n9 ax_j9 ax_m9 aD_X3_shapeHash).all goodWord = true := by decide +kernel
theorem ok_X3_shapeHash : ax_okM ax_Ss ax_T ax_n9 ax_j9 ax_m9 aD_X3_shapeHash := ax_okM_of (fun q h => of_decide_eq_true (List.all_eq_true.mp k1_X3_shapeHash q h)) k2_X3_shapeHash (ax_W_of _ k3_X3_shapeHash k4_X3_shapeHash) (by decide +kernel) (fun pc q h => by cases h)
theorem k1_X3_sameShape : (at_X3_sameShape).all (fun q => decide (decode cX3_sameShape q.1 = .ok (q.2.1, q.2.2.1))) = true := by decide +kernel
theorem k2_X3_sameShape : ax_chks ax_T aD_X3_sameShape = true := by decide +kernel
theorem k3_X3_sameShape : ax_needs ax_T ax_n9 ax_j9 ax_m9 aD_X3_sameShape = [280, 280, 306, 306, 293, 293, 306, 527, 95, 526, 527, 95, 526, 310, 310, 314, 314, 542].filterMap (fun i => ax_big[i]?) := by decide +kernel
theorem k4_X3_sameShape : (ax_needs ax_T ax_n9 ax_j9 ax_m9 aD_X3_sameShape).all goodWord = true := by decide +kernel
theorem ok_X3_sameShape : ax_okM ax_Ss ax_T ax_n9 ax_j9 ax_m9 aD_X3_sameShape := ax_okM_of (fun q h => of_decide_eq_true (List.all_eq_true.mp k1_X3_sameShape q h)) k2_X3_sameShape (ax_W_of _ k3_X3_sameShape k4_X3_sameShape) (by decide +kernel) (fun pc q h => by cases h)
theorem k1_X3_shapeSize : (at_X3_shapeSize).all (fun q => decide (decode cX3_shapeSize q.1 = .ok (q.2.1, q.2.2.1))) = true := by decide +kernel
theorem k2_X3_shapeSize : ax_chks ax_T aD_X3_shapeSize = true := by decide +kernel
theorem k3_X3_shapeSize : ax_needs ax_T ax_n9 ax_j9 ax_m9 aD_X3_shapeSize = [555, 89, 554, 280, 555, 89, 554, 306, 527, 95, 526, 310, 555, 89, 554, 314, 555, 89, 554, 553].filterMap (fun i => ax_big[i]?) := by decide +kernel
theorem k4_X3_shapeSize : (ax_needs ax_T ax_n9 ax_j9 ax_m9 aD_X3_shapeSize).all goodWord = true := by decide +kernel
theorem ok_X3_shapeSize : ax_okM ax_Ss ax_T ax_n9 ax_j9 ax_m9 aD_X3_shapeSize := ax_okM_of (fun q h => of_decide_eq_true (List.all_eq_true.mp k1_X3_shapeSize q h)) k2_X3_shapeSize (ax_W_of _ k3_X3_shapeSize k4_X3_shapeSize) (by decide +kernel) (fun pc q h => by cases h)
theorem k1_X3_placeTexts : (at_X3_placeTexts).all (fun q => decide (decode cX3_placeTexts q.1 = .ok (q.2.1, q.2.2.1))) = true := by decide +kernel
theorem k2_X3_placeTexts : ax_chks ax_T aD_X3_placeTexts = true := by decide +kernel
theorem k3_X3_placeTexts : ax_needs ax_T ax_n9 ax_j9 ax_m9 aD_X3_placeTexts = [183, 190, 214, 516, 517, 518, 93, 191, 193, 306, 527, 95, 526, 314, 561, 563, 6, 92, 560].filterMap (fun i => ax_big[i]?) := by decide +kernel
theorem k4_X3_placeTexts : (ax_needs ax_T ax_n9 ax_j9 ax_m9 aD_X3_placeTexts).all goodWord = true := by decide +kernel
theorem ok_X3_placeTexts : ax_okM ax_Ss ax_T ax_n9 ax_j9 ax_m9 aD_X3_placeTexts := ax_okM_of (fun q h => of_decide_eq_true (List.all_eq_true.mp k1_X3_placeTexts q h)) k2_X3_placeTexts (ax_W_of _ k3_X3_placeTexts k4_X3_placeTexts) (by decide +kernel) (fun pc q h => by cases h)
theorem k1_X3_placeText : (at_X3_placeText).all (fun q => decide (decode cX3_placeText q.1 = .ok (q.2.1, q.2.2.1))) = true := by decide +kernel
theorem k2_X3_placeText : ax_chks ax_T aD_X3_placeText = true := by decide +kernel
theorem k3_X3_placeText : ax_needs ax_T ax_n9 ax_j9 ax_m9 aD_X3_placeText = [565, 566, 567, 95, 324, 569, 570, 571, 89, 577, 579, 7, 92, 211, 183, 214, 183, 547, 548, 549, 93, 183, 183, 209, 190, 190, 324, 190, 209, 209, 211, 564].filterMap (fun i => ax_big[i]?) := by decide +kernel
theorem k4_X3_placeText : (ax_needs ax_T ax_n9 ax_j9 ax_m9 aD_X3_placeText).all goodWord = true := by decide +kernel
theorem ok_X3_placeText : ax_okM ax_Ss ax_T ax_n9 ax_j9 ax_m9 aD_X3_placeText := ax_okM_of (fun q h => of_decide_eq_true (List.all_eq_true.mp k1_X3_placeText q h)) k2_X3_placeText (ax_W_of _ k3_X3_placeText k4_X3_placeText) (by decide +kernel) (fun pc q h => by cases h)
theorem k1_X3_knownText : (at_X3_knownText).all (fun q => decide (decode cX3_knownText q.1 = .ok (q.2.1, q.2.2.1))) = true := by decide +kernel
theorem k2_X3_knownText : ax_chks ax_T aD_X3_knownText = true := by decide +kernel
theorem k3_X3_knownText : ax_needs ax_T ax_n9 ax_j9 ax_m9 aD_X3_knownText = [214, 533, 534, 535, 93, 183, 211, 324, 324, 565, 566, 567, 95, 565, 566, 567, 95, 324, 581, 582, 583, 89, 214, 543, 544, 545, 93, 580].filterMap (fun i => ax_big[i]?) := by decide +kernel
theorem k4_X3_knownText : (ax_needs ax_T ax_n9 ax_j9 ax_m9 aD_X3_knownText).all goodWord = true := by decide +kernel
theorem ok_X3_knownText : ax_okM ax_Ss ax_T ax_n9 ax_j9 ax_m9 aD_X3_knownText := ax_okM_of (fun q h => of_decide_eq_true (List.all_eq_true.mp k1_X3_knownText q h)) k2_X3_knownText (ax_W_of _ k3_X3_knownText k4_X3_knownText) (by decide +kernel) (fun pc q h => by cases h)
theorem k1_X3_placeEntries : (at_X3_placeEntries).all (fun q => decide (decode cX3_placeEntries q.1 = .ok (q.2.1, q.2.2.1))) = true := by decide +kernel
theorem k2_X3_placeEntries : ax_chks ax_T aD_X3_placeEntries = true := by decide +kernel
theorem k3_X3_placeEntries : ax_needs ax_T ax_n9 ax_j9 ax_m9 aD_X3_placeEntries = [191, 193, 201, 205, 555, 89, 554, 590, 92, 589, 199, 202, 186, 269, 600, 602, 9, 92, 186, 197, 186, 588].filterMap (fun i => ax_big[i]?) := by decide +kernel
theorem k4_X3_placeEntries : (ax_needs ax_T ax_n9 ax_j9 ax_m9 aD_X3_placeEntries).all goodWord = true := by decide +kernel
theorem ok_X3_placeEntries : ax_okM ax_Ss ax_T ax_n9 ax_j9 ax_m9 aD_X3_placeEntries := ax_okM_of (fun q h => of_decide_eq_true (List.all_eq_true.mp k1_X3_placeEntries q h)) k2_X3_placeEntries (ax_W_of _ k3_X3_placeEntries k4_X3_placeEntries) (by decide +kernel) (fun pc q h => by cases h)
theorem k1_X3_moveEntries : (at_X3_moveEntries).all (fun q => decide (decode cX3_moveEntries q.1 = .ok (q.2.1, q.2.2.1))) = true := by decide +kernel
theorem k2_X3_moveEntries : ax_chks ax_T aD_X3_moveEntries = true := by decide +kernel
theorem k3_X3_moveEntries : ax_needs ax_T ax_n9 ax_j9 ax_m9 aD_X3_moveEntries = [195, 195, 193, 202, 202, 201, 604, 606, 10, 92, 197, 603].filterMap (fun i => ax_big[i]?) := by decide +kernel
theorem k4_X3_moveEntries : (ax_needs ax_T ax_n9 ax_j9 ax_m9 aD_X3_moveEntries).all goodWord = true := by decide +kernel
theorem ok_X3_moveEntries : ax_okM ax_Ss ax_T ax_n9 ax_j9 ax_m9 aD_X3_moveEntries := ax_okM_of (fun q h => of_decide_eq_true (List.all_eq_true.mp k1_X3_moveEntries q h)) k2_X3_moveEntries (ax_W_of _ k3_X3_moveEntries k4_X3_moveEntries) (by decide +kernel) (fun pc q h => by cases h)
theorem k1_X3_referenceRowBytes : (at_X3_referenceRowBytes).all (fun q => decide (decode cX3_referenceRowBytes q.1 = .ok (q.2.1, q.2.2.1))) = true := by decide +kernel
theorem k2_X3_referenceRowBytes : ax_chks ax_T aD_X3_referenceRowBytes = true := by decide +kernel
theorem k3_X3_referenceRowBytes : ax_needs ax_T ax_n9 ax_j9 ax_m9 aD_X3_referenceRowBytes = [306, 527, 95, 526, 314, 202, 320, 555, 89, 554, 607].filterMap (fun i => ax_big[i]?) := by decide +kernel
theorem k4_X3_referenceRowBytes : (ax_needs ax_T ax_n9 ax_j9 ax_m9 aD_X3_referenceRowBytes).all goodWord = true := by decide +kernel
theorem ok_X3_referenceRowBytes : ax_okM ax_Ss ax_T ax_n9 ax_j9 ax_m9 aD_X3_referenceRowBytes := ax_okM_of (fun q h => of_decide_eq_true (List.all_eq_true.mp k1_X3_referenceRowBytes q h)) k2_X3_referenceRowBytes (ax_W_of _ k3_X3_referenceRowBytes k4_X3_referenceRowBytes) (by decide +kernel) (fun pc q h => by cases h)
theorem k1_X3_steadyValueBytes : (at_X3_steadyValueBytes).all (fun q => decide (decode cX3_steadyValueBytes q.1 = .ok (q.2.1, q.2.2.1))) = true := by decide +kernel
theorem k2_X3_steadyValueBytes : ax_chks ax_T aD_X3_steadyValueBytes = true := by decide +kernel
theorem k3_X3_steadyValueBytes : ax_needs ax_T ax_n9 ax_j9 ax_m9 aD_X3_steadyValueBytes = [306, 527, 95, 526, 314, 320, 593, 89, 592, 320, 555, 89, 554, 324, 314, 598, 106, 597, 591].filterMap (fun i => ax_big[i]?) := by decide +kernel
theorem k4_X3_steadyValueBytes : (ax_needs ax_T ax_n9 ax_j9 ax_m9 aD_X3_steadyValueBytes).all goodWord = true := by decide +kernel
theorem ok_X3_steadyValueBytes : ax_okM ax_Ss ax_T ax_n9 ax_j9 ax_m9 aD_X3_steadyValueBytes := ax_okM_of (fun q h => of_decide_eq_true (List.all_eq_true.mp k1_X3_steadyValueBytes q h)) k2_X3_steadyValueBytes (ax_W_of _ k3_X3_steadyValueBytes k4_X3_steadyValueBytes) (by decide +kernel) (fun pc q h => by cases h)
end
end
section
section
theorem k1_X4_init : (at_X4_init).all (fun q => decide (decode cX4_init q.1 = .ok (q.2.1, q.2.2.1))) = true := by decide +kernel
theorem k2_X4_init : ax_chks ax_T aD_X4_init = true := by decide +kernel
theorem k3_X4_init : ax_needs ax_T ax_n9 ax_j9 ax_m9 aD_X4_init = [259, 115, 116, 260, 261, 95, 262, 263, 95, 435, 360, 361, 96, 362, 363, 96, 437, 396, 397, 97, 398, 399, 97, 439, 178, 442, 178, 443, 258].filterMap (fun i => ax_big[i]?) := by decide +kernel
theorem k4_X4_init : (ax_needs ax_T ax_n9 ax_j9 ax_m9 aD_X4_init).all goodWord = true := by decide +kernel
theorem ok_X4_init : ax_okM ax_Ss ax_T ax_n9 ax_j9 ax_m9 aD_X4_init := ax_okM_of (fun q h => of_decide_eq_true (List.all_eq_true.mp k1_X4_init q h)) k2_X4_init (ax_W_of _ k3_X4_init k4_X4_init) (by decide +kernel) (fun pc q h => by cases h)
theorem k1_X4_readUnits : (at_X4_readUnits).all (fun q => decide (decode cX4_readUnits q.1 = .ok (q.2.1, q.2.2.1))) = true := by decide +kernel
theorem k2_X4_readUnits : ax_chks ax_T aD_X4_readUnits = true := by decide +kernel
theorem k3_X4_readUnits : ax_needs ax_T ax_n9 ax_j9 ax_m9 aD_X4_readUnits = [437, 669, 670, 671, 96, 435, 673, 485, 486, 95, 440, 441, 143, 674, 657, 658, 89, 437, 675, 676, 677, 96, 437, 683, 684, 685, 96, 755, 757, 13, 94, 437, 372, 767, 769, 14, 94, 437, 675, 676, 677, 96, 826, 828, 18, 94, 437, 369, 437, 437, 369, 683, 684, 685, 96, 435, 275, 881, 883, 23, 94, 668].filterMap (fun i => ax_big[i]?) := by decide +kernel
theorem k4_X4_readUnits : (ax_needs ax_T ax_n9 ax_j9 ax_m9 aD_X4_readUnits).all goodWord = true := by decide +kernel
theorem ok_X4_readUnits : ax_okM ax_Ss ax_T ax_n9 ax_j9 ax_m9 aD_X4_readUnits := ax_okM_of (fun q h => of_decide_eq_true (List.all_eq_true.mp k1_X4_readUnits q h)) k2_X4_readUnits (ax_W_of _ k3_X4_readUnits k4_X4_readUnits) (by decide +kernel) (fun pc q h => by cases h)
theorem k1_X4_readHeader : (at_X4_readHeader).all (fun q => decide (decode cX4_readHeader q.1 = .ok (q.2.1, q.2.2.1))) = true := by decide +kernel
theorem k2_X4_readHeader : ax_chks ax_T aD_X4_readHeader = true := by decide +kernel
theorem k3_X4_readHeader : ax_needs ax_T ax_n9 ax_j9 ax_m9 aD_X4_readHeader = [437, 759, 760, 761, 96, 437, 372, 437, 369, 437, 683, 684, 685, 96, 437, 437, 369, 372, 437, 369, 437, 759, 760, 761, 96, 765, 437, 683, 684, 685, 96, 437, 369, 437, 759, 760, 761, 96, 146, 674, 657, 658, 89, 437, 683, 684, 685, 96, 437, 369, 437, 759, 760, 761, 96, 766, 437, 683, 684, 685, 96, 758].filterMap (fun i => ax_big[i]?) := by decide +kernel
theorem k4_X4_readHeader : (ax_needs ax_T ax_n9 ax_j9 ax_m9 aD_X4_readHeader).all goodWord = true := by decide +kernel
theorem ok_X4_readHeader : ax_okM ax_Ss ax_T ax_n9 ax_j9 ax_m9 aD_X4_readHeader := ax_okM_of (fun q h => of_decide_eq_true (List.all_eq_true.mp k1_X4_readHeader q h)) k2_X4_readHeader (ax_W_of _ k3_X4_readHeader k4_X4_readHeader) (by decide +kernel) (fun pc q h => by cases h)
theorem k1_X4_readTable : (at_X4_readTable).all (fun q => decide (decode cX4_readTable q.1 = .ok (q.2.1, q.2.2.1))) = true := by decide +kernel
theorem k2_X4_readTable : ax_chks ax_T aD_X4_readTable = true := by decide +kernel
theorem k3_X4_readTable : ax_needs ax_T ax_n9 ax_j9 ax_m9 aD_X4_readTable = [440, 437, 146, 674, 657, 658, 89, 675, 676, 677, 96, 439, 437, 771, 772, 773, 97, 440, 770].filterMap (fun i => ax_big[i]?) := by decide +kernel
theorem k4_X4_readTable : (ax_needs ax_T ax_n9 ax_j9 ax_m9 aD_X4_readTable).all goodWord = true := by decide +kernel
theorem ok_X4_readTable : ax_okM ax_Ss ax_T ax_n9 ax_j9 ax_m9 aD_X4_readTable := ax_okM_of (fun q h => of_decide_eq_true (List.all_eq_true.mp k1_X4_readTable q h)) k2_X4_readTable (ax_W_of _ k3_X4_readTable k4_X4_readTable) (by decide +kernel) (fun pc q h => by cases h)
theorem k1_X4_readEntries : (at_X4_readEntries).all (fun q => decide (decode cX4_readEntries q.1 = .ok (q.2.1, q.2.2.1))) = true := by decide +kernel
theorem k2_X4_readEntries : ax_chks ax_T aD_X4_readEntries = true := by decide +kernel
theorem k3_X4_readEntries : ax_needs ax_T ax_n9 ax_j9 ax_m9 aD_X4_readEntries = [437, 369, 437, 830, 777, 778, 96, 435, 284, 439, 831, 787, 788, 97, 437, 683, 684, 685, 96, 832, 834, 19, 94, 442, 439, 407, 829].filterMap (fun i => ax_big[i]?) := by decide +kernel
theorem k4_X4_readEntries : (ax_needs ax_T ax_n9 ax_j9 ax_m9 aD_X4_readEntries).all goodWord = true := by decide +kernel
theorem ok_X4_readEntries : ax_okM ax_Ss ax_T ax_n9 ax_j9 ax_m9 aD_X4_readEntries := ax_okM_of (fun q h => of_decide_eq_true (List.all_eq_true.mp k1_X4_readEntries q h)) k2_X4_readEntries (ax_W_of _ k3_X4_readEntries k4_X4_readEntries) (by decide +kernel) (fun pc q h => by cases h)
theorem k1_X4_readEntry : (at_X4_readEntry).all (fun q => decide (decode cX4_readEntry q.1 = .ok (q.2.1, q.2.2.1))) = true := by decide +kernel
theorem k2_X4_readEntry : ax_chks ax_T aD_X4_readEntry = true := by decide +kernel
theorem k3_X4_readEntry : ax_needs ax_T ax_n9 ax_j9 ax_m9 aD_X4_readEntry = [435, 273, 435, 291, 437, 683, 684, 685, 96, 435, 439, 405, 836, 837, 838, 95, 435, 439, 405, 844, 845, 846, 95, 439, 409, 527, 95, 848, 439, 413, 817, 106, 849, 439, 411, 439, 413, 850, 852, 21, 94, 439, 411, 439, 413, 875, 877, 22, 94, 835].filterMap (fun i => ax_big[i]?) := by decide +kernel
theorem k4_X4_readEntry : (ax_needs ax_T ax_n9 ax_j9 ax_m9 aD_X4_readEntry).all goodWord = true := by decide +kernel
theorem ok_X4_readEntry : ax_okM ax_Ss ax_T ax_n9 ax_j9 ax_m9 aD_X4_readEntry := ax_okM_of (fun q h => of_decide_eq_true (List.all_eq_true.mp k1_X4_readEntry q h)) k2_X4_readEntry (ax_W_of _ k3_X4_readEntry k4_X4_readEntry) (by decide +kernel) (fun pc q h => by cases h)
theorem k1_X4_readNumber : (at_X4_readNumber).all (fun q => decide (decode cX4_readNumber q.1 = .ok (q.2.1, q.2.2.1))) = true := by decide +kernel
theorem k2_X4_readNumber : ax_chks ax_T aD_X4_readNumber = true := by decide +kernel
theorem k3_X4_readNumber : ax_needs ax_T ax_n9 ax_j9 ax_m9 aD_X4_readNumber = [437, 369, 443, 435, 305, 527, 95, 848, 437, 879, 781, 782, 96, 437, 879, 781, 782, 96, 437, 830, 777, 778, 96, 437, 598, 106, 880, 759, 760, 761, 96, 437, 683, 684, 685, 96, 435, 870, 871, 872, 95, 878].filterMap (fun i => ax_big[i]?) := by decide +kernel
theorem k4_X4_readNumber : (ax_needs ax_T ax_n9 ax_j9 ax_m9 aD_X4_readNumber).all goodWord = true := by decide +kernel
theorem ok_X4_readNumber : ax_okM ax_Ss ax_T ax_n9 ax_j9 ax_m9 aD_X4_readNumber := ax_okM_of (fun q h => of_decide_eq_true (List.all_eq_true.mp k1_X4_readNumber q h)) k2_X4_readNumber (ax_W_of _ k3_X4_readNumber k4_X4_readNumber) (by decide +kernel) (fun pc q h => by cases h)
theorem k1_X4_readLetters : (at_X4_readLetters).all (fun q => decide (decode cX4_readLetters q.1 = .ok (q.2.1, q.2.2.1))) = true := by decide +kernel
theorem k2_X4_readLetters : ax_chks ax_T aD_X4_readLetters = true := by decide +kernel
theorem k3_X4_readLetters : ax_needs ax_T ax_n9 ax_j9 ax_m9 aD_X4_readLetters = [437, 369, 437, 854, 855, 856, 96, 437, 759, 760, 761, 96, 437, 369, 437, 862, 863, 864, 96, 437, 759, 760, 761, 96, 149, 867, 94, 866, 437, 683, 684, 685, 96, 441, 441, 441, 437, 683, 684, 685, 96, 435, 870, 871, 872, 95, 853].filterMap (fun i => ax_big[i]?) := by decide +kernel
theorem k4_X4_readLetters : (ax_needs ax_T ax_n9 ax_j9 ax_m9 aD_X4_readLetters).all goodWord = true := by decide +kernel
theorem ok_X4_readLetters : ax_okM ax_Ss ax_T ax_n9 ax_j9 ax_m9 aD_X4_readLetters := ax_okM_of (fun q h => of_decide_eq_true (List.all_eq_true.mp k1_X4_readLetters q h)) k2_X4_readLetters (ax_W_of _ k3_X4_readLetters k4_X4_readLetters) (by decide +kernel) (fun pc q h => by cases h)
theorem k1_X4_keptLength : (at_X4_keptLength).all (fun q => decide (decode cX4_keptLength q.1 = .ok (q.2.1, q.2.2.1))) = true := by decide +kernel
theorem k2_X4_keptLength : ax_chks ax_T aD_X4_keptLength = true := by decide +kernel
theorem k3_X4_keptLength : ax_needs ax_T ax_n9 ax_j9 ax_m9 aD_X4_keptLength = [674, 657, 658, 89, 674, 657, 658, 89, 869, 859, 860, 89, 868].filterMap (fun i => ax_big[i]?) := by decide +kernel
theorem k4_X4_keptLength : (ax_needs ax_T ax_n9 ax_j9 ax_m9 aD_X4_keptLength).all goodWord = true := by decide +kernel
theorem ok_X4_keptLength : ax_okM ax_Ss ax_T ax_n9 ax_j9 ax_m9 aD_X4_keptLength := ax_okM_of (fun q h => of_decide_eq_true (List.all_eq_true.mp k1_X4_keptLength q h)) k2_X4_keptLength (ax_W_of _ k3_X4_keptLength k4_X4_keptLength) (by decide +kernel) (fun pc q h => by cases h)
theorem k1_X4_resolveReferences : (at_X4_resolveReferences).all (fun q => decide (decode cX4_resolveReferences q.1 = .ok (q.2.1, q.2.2.1))) = true := by decide +kernel
theorem k2_X4_resolveReferences : ax_chks ax_T aD_X4_resolveReferences = true := by decide +kernel
theorem k3_X4_resolveReferences : ax_needs ax_T ax_n9 ax_j9 ax_m9 aD_X4_resolveReferences = [435, 273, 435, 305, 527, 95, 848, 435, 315, 823, 106, 885, 435, 319, 886, 888, 24, 94, 437, 443, 683, 684, 685, 96, 435, 319, 884].filterMap (fun i => ax_big[i]?) := by decide +kernel
theorem k4_X4_resolveReferences : (ax_needs ax_T ax_n9 ax_j9 ax_m9 aD_X4_resolveReferences).all goodWord = true := by decide +kernel
theorem ok_X4_resolveReferences : ax_okM ax_Ss ax_T ax_n9 ax_j9 ax_m9 aD_X4_resolveReferences := ax_okM_of (fun q h => of_decide_eq_true (List.all_eq_true.mp k1_X4_resolveReferences q h)) k2_X4_resolveReferences (ax_W_of _ k3_X4_resolveReferences k4_X4_resolveReferences) (by decide +kernel) (fun pc q h => by cases h)
theorem k1_X4_entryAt : (at_X4_entryAt).all (fun q => decide (decode cX4_entryAt q.1 = .ok (q.2.1, q.2.2.1))) = true := by decide +kernel
theorem k2_X4_entryAt : ax_chks ax_T aD_X4_entryAt = true := by decide +kernel
theorem k3_X4_entryAt : ax_needs ax_T ax_n9 ax_j9 ax_m9 aD_X4_entryAt = [435, 273, 442, 442, 889].filterMap (fun i => ax_big[i]?) := by decide +kernel
theorem k4_X4_entryAt : (ax_needs ax_T ax_n9 ax_j9 ax_m9 aD_X4_entryAt).all goodWord = true := by decide +kernel
theorem ok_X4_entryAt : ax_okM ax_Ss ax_T ax_n9 ax_j9 ax_m9 aD_X4_entryAt := ax_okM_of (fun q h => of_decide_eq_true (List.all_eq_true.mp k1_X4_entryAt q h)) k2_X4_entryAt (ax_W_of _ k3_X4_entryAt k4_X4_entryAt) (by decide +kernel) (fun pc q h => by cases h)
end
end
section
section
theorem k1_X5_init : (at_X5_init).all (fun q => decide (decode cX5_init q.1 = .ok (q.2.1, q.2.2.1))) = true := by decide +kernel
theorem k2_X5_init : ax_chks ax_T aD_X5_init = true := by decide +kernel
theorem k3_X5_init : ax_needs ax_T ax_n9 ax_j9 ax_m9 aD_X5_init = [139, 115, 116, 140, 118, 89, 141, 120, 89, 142, 140, 118, 89, 141, 120, 89, 145, 140, 118, 89, 141, 120, 89, 148, 138].filterMap (fun i => ax_big[i]?) := by decide +kernel
theorem k4_X5_init : (ax_needs ax_T ax_n9 ax_j9 ax_m9 aD_X5_init).all goodWord = true := by decide +kernel
theorem ok_X5_init : ax_okM ax_Ss ax_T ax_n9 ax_j9 ax_m9 aD_X5_init := ax_okM_of (fun q h => of_decide_eq_true (List.all_eq_true.mp k1_X5_init q h)) k2_X5_init (ax_W_of _ k3_X5_init k4_X5_init) (by decide +kernel) (fun pc q h => by cases h)
theorem k1_X5_of : (at_X5_of).all (fun q => decide (decode cX5_of q.1 = .ok (q.2.1, q.2.2.1))) = true := by decide +kernel
theorem k2_X5_of : ax_chks ax_T aD_X5_of = true := by decide +kernel
theorem k3_X5_of : ax_needs ax_T ax_n9 ax_j9 ax_m9 aD_X5_of = [142, 145, 148, 682].filterMap (fun i => ax_big[i]?) := by decide +kernel
theorem k4_X5_of : (ax_needs ax_T ax_n9 ax_j9 ax_m9 aD_X5_of).all goodWord = true := by decide +kernel
theorem ok_X5_of : ax_okM ax_Ss ax_T ax_n9 ax_j9 ax_m9 aD_X5_of := ax_okM_of (fun q h => of_decide_eq_true (List.all_eq_true.mp k1_X5_of q h)) k2_X5_of (ax_W_of _ k3_X5_of k4_X5_of) (by decide +kernel) (fun pc q h => by cases h)
theorem k1_X6_init : (at_X6_init).all (fun q => decide (decode cX6_init q.1 = .ok (q.2.1, q.2.2.1))) = true := by decide +kernel
theorem k2_X6_init : ax_chks ax_T aD_X6_init = true := by decide +kernel
theorem k3_X6_init : ax_needs ax_T ax_n9 ax_j9 ax_m9 aD_X6_init = [122, 115, 116, 123, 124, 90, 125, 133, 126, 121].filterMap (fun i => ax_big[i]?) := by decide +kernel
theorem k4_X6_init : (ax_needs ax_T ax_n9 ax_j9 ax_m9 aD_X6_init).all goodWord = true := by decide +kernel
theorem ok_X6_init : ax_okM ax_Ss ax_T ax_n9 ax_j9 ax_m9 aD_X6_init := ax_okM_of (fun q h => of_decide_eq_true (List.all_eq_true.mp k1_X6_init q h)) k2_X6_init (ax_W_of _ k3_X6_init k4_X6_init) (by decide +kernel) (fun pc q h => by cases h)
theorem k1_X6_used : (at_X6_used).all (fun q => decide (decode cX6_used q.1 = .ok (q.2.1, q.2.2.1))) = true := by decide +kernel
theorem k2_X6_used : ax_chks ax_T aD_X6_used = true := by decide +kernel
theorem k3_X6_used : ax_needs ax_T ax_n9 ax_j9 ax_m9 aD_X6_used = [127, 659].filterMap (fun i => ax_big[i]?) := by decide +kernel
theorem k4_X6_used : (ax_needs ax_T ax_n9 ax_j9 ax_m9 aD_X6_used).all goodWord = true := by decide +kernel
theorem ok_X6_used : ax_okM ax_Ss ax_T ax_n9 ax_j9 ax_m9 aD_X6_used := ax_okM_of (fun q h => of_decide_eq_true (List.all_eq_true.mp k1_X6_used q h)) k2_X6_used (ax_W_of _ k3_X6_used k4_X6_used) (by decide +kernel) (fun pc q h => by cases h)
theorem k1_X6_most : (at_X6_most).all (fun q => decide (decode cX6_most q.1 = .ok (q.2.1, q.2.2.1))) = true := by decide +kernel
theorem k2_X6_most : ax_chks ax_T aD_X6_most = true := by decide +kernel
theorem k3_X6_most : ax_needs ax_T ax_n9 ax_j9 ax_m9 aD_X6_most = [126, 1103].filterMap (fun i => ax_big[i]?) := by decide +kernel
theorem k4_X6_most : (ax_needs ax_T ax_n9 ax_j9 ax_m9 aD_X6_most).all goodWord = true := by decide +kernel
theorem ok_X6_most : ax_okM ax_Ss ax_T ax_n9 ax_j9 ax_m9 aD_X6_most := ax_okM_of (fun q h => of_decide_eq_true (List.all_eq_true.mp k1_X6_most q h)) k2_X6_most (ax_W_of _ k3_X6_most k4_X6_most) (by decide +kernel) (fun pc q h => by cases h)
theorem k1_X6_room : (at_X6_room).all (fun q => decide (decode cX6_room q.1 = .ok (q.2.1, q.2.2.1))) = true := by decide +kernel
theorem k2_X6_room : ax_chks ax_T aD_X6_room = true := by decide +kernel
theorem k3_X6_room : ax_needs ax_T ax_n9 ax_j9 ax_m9 aD_X6_room = [126, 127, 926].filterMap (fun i => ax_big[i]?) := by decide +kernel
theorem k4_X6_room : (ax_needs ax_T ax_n9 ax_j9 ax_m9 aD_X6_room).all goodWord = true := by decide +kernel
theorem ok_X6_room : ax_okM ax_Ss ax_T ax_n9 ax_j9 ax_m9 aD_X6_room := ax_okM_of (fun q h => of_decide_eq_true (List.all_eq_true.mp k1_X6_room q h)) k2_X6_room (ax_W_of _ k3_X6_room k4_X6_room) (by decide +kernel) (fun pc q h => by cases h)
theorem k1_X6_at : (at_X6_at).all (fun q => decide (decode cX6_at q.1 = .ok (q.2.1, q.2.2.1))) = true := by decide +kernel
theorem k2_X6_at : ax_chks ax_T aD_X6_at = true := by decide +kernel
theorem k3_X6_at : ax_needs ax_T ax_n9 ax_j9 ax_m9 aD_X6_at = [127, 126, 576].filterMap (fun i => ax_big[i]?) := by decide +kernel
theorem k4_X6_at : (ax_needs ax_T ax_n9 ax_j9 ax_m9 aD_X6_at).all goodWord = true := by decide +kernel
theorem ok_X6_at : ax_okM ax_Ss ax_T ax_n9 ax_j9 ax_m9 aD_X6_at := ax_okM_of (fun q h => of_decide_eq_true (List.all_eq_true.mp k1_X6_at q h)) k2_X6_at (ax_W_of _ k3_X6_at k4_X6_at) (by decide +kernel) (fun pc q h => by cases h)
theorem k1_X6_change : (at_X6_change).all (fun q => decide (decode cX6_change q.1 = .ok (q.2.1, q.2.2.1))) = true := by decide +kernel
theorem k2_X6_change : ax_chks ax_T aD_X6_change = true := by decide +kernel
theorem k3_X6_change : ax_needs ax_T ax_n9 ax_j9 ax_m9 aD_X6_change = [127, 126, 126, 1115].filterMap (fun i => ax_big[i]?) := by decide +kernel
theorem k4_X6_change : (ax_needs ax_T ax_n9 ax_j9 ax_m9 aD_X6_change).all goodWord = true := by decide +kernel
theorem ok_X6_change : ax_okM ax_Ss ax_T ax_n9 ax_j9 ax_m9 aD_X6_change := ax_okM_of (fun q h => of_decide_eq_true (List.all_eq_true.mp k1_X6_change q h)) k2_X6_change (ax_W_of _ k3_X6_change k4_X6_change) (by decide +kernel) (fun pc q h => by cases h)
theorem k1_X6_cut : (at_X6_cut).all (fun q => decide (decode cX6_cut q.1 = .ok (q.2.1, q.2.2.1))) = true := by decide +kernel
theorem k2_X6_cut : ax_chks ax_T aD_X6_cut = true := by decide +kernel
theorem k3_X6_cut : ax_needs ax_T ax_n9 ax_j9 ax_m9 aD_X6_cut = [127, 127, 491].filterMap (fun i => ax_big[i]?) := by decide +kernel
theorem k4_X6_cut : (ax_needs ax_T ax_n9 ax_j9 ax_m9 aD_X6_cut).all goodWord = true := by decide +kernel
theorem ok_X6_cut : ax_okM ax_Ss ax_T ax_n9 ax_j9 ax_m9 aD_X6_cut := ax_okM_of (fun q h => of_decide_eq_true (List.all_eq_true.mp k1_X6_cut q h)) k2_X6_cut (ax_W_of _ k3_X6_cut k4_X6_cut) (by decide +kernel) (fun pc q h => by cases h)
theorem k1_X6_add : (at_X6_add).all (fun q => decide (decode cX6_add q.1 = .ok (q.2.1, q.2.2.1))) = true := by decide +kernel
theorem k2_X6_add : ax_chks ax_T aD_X6_add = true := by decide +kernel
theorem k3_X6_add : ax_needs ax_T ax_n9 ax_j9 ax_m9 aD_X6_add = [127, 126, 126, 127, 127, 127, 619].filterMap (fun i => ax_big[i]?) := by decide +kernel
theorem k4_X6_add : (ax_needs ax_T ax_n9 ax_j9 ax_m9 aD_X6_add).all goodWord = true := by decide +kernel
theorem ok_X6_add : ax_okM ax_Ss ax_T ax_n9 ax_j9 ax_m9 aD_X6_add := ax_okM_of (fun q h => of_decide_eq_true (List.all_eq_true.mp k1_X6_add q h)) k2_X6_add (ax_W_of _ k3_X6_add k4_X6_add) (by decide +kernel) (fun pc q h => by cases h)
theorem k1_X6_addHighFirst : (at_X6_addHighFirst).all (fun q => decide (decode cX6_addHighFirst q.1 = .ok (q.2.1, q.2.2.1))) = true := by decide +kernel
theorem k2_X6_addHighFirst : ax_chks ax_T aD_X6_addHighFirst = true := by decide +kernel
theorem k3_X6_addHighFirst : ax_needs ax_T ax_n9 ax_j9 ax_m9 aD_X6_addHighFirst = [616, 617, 618, 89, 932].filterMap (fun i => ax_big[i]?) := by decide +kernel
theorem k4_X6_addHighFirst : (ax_needs ax_T ax_n9 ax_j9 ax_m9 aD_X6_addHighFirst).all goodWord = true := by decide +kernel
theorem ok_X6_addHighFirst : ax_okM ax_Ss ax_T ax_n9 ax_j9 ax_m9 aD_X6_addHighFirst := ax_okM_of (fun q h => of_decide_eq_true (List.all_eq_true.mp k1_X6_addHighFirst q h)) k2_X6_addHighFirst (ax_W_of _ k3_X6_addHighFirst k4_X6_addHighFirst) (by decide +kernel) (fun pc q h => by cases h)
theorem k1_X6_addLowFirst : (at_X6_addLowFirst).all (fun q => decide (decode cX6_addLowFirst q.1 = .ok (q.2.1, q.2.2.1))) = true := by decide +kernel
theorem k2_X6_addLowFirst : ax_chks ax_T aD_X6_addLowFirst = true := by decide +kernel
theorem k3_X6_addLowFirst : ax_needs ax_T ax_n9 ax_j9 ax_m9 aD_X6_addLowFirst = [616, 617, 618, 89, 615].filterMap (fun i => ax_big[i]?) := by decide +kernel
theorem k4_X6_addLowFirst : (ax_needs ax_T ax_n9 ax_j9 ax_m9 aD_X6_addLowFirst).all goodWord = true := by decide +kernel
theorem ok_X6_addLowFirst : ax_okM ax_Ss ax_T ax_n9 ax_j9 ax_m9 aD_X6_addLowFirst := ax_okM_of (fun q h => of_decide_eq_true (List.all_eq_true.mp k1_X6_addLowFirst q h)) k2_X6_addLowFirst (ax_W_of _ k3_X6_addLowFirst k4_X6_addLowFirst) (by decide +kernel) (fun pc q h => by cases h)
theorem k1_X6_addRow : (at_X6_addRow).all (fun q => decide (decode cX6_addRow q.1 = .ok (q.2.1, q.2.2.1))) = true := by decide +kernel
theorem k2_X6_addRow : ax_chks ax_T aD_X6_addRow = true := by decide +kernel
theorem k3_X6_addRow : ax_needs ax_T ax_n9 ax_j9 ax_m9 aD_X6_addRow = [555, 89, 629, 630, 632, 11, 89, 628].filterMap (fun i => ax_big[i]?) := by decide +kernel
theorem k4_X6_addRow : (ax_needs ax_T ax_n9 ax_j9 ax_m9 aD_X6_addRow).all goodWord = true := by decide +kernel
theorem ok_X6_addRow : ax_okM ax_Ss ax_T ax_n9 ax_j9 ax_m9 aD_X6_addRow := ax_okM_of (fun q h => of_decide_eq_true (List.all_eq_true.mp k1_X6_addRow q h)) k2_X6_addRow (ax_W_of _ k3_X6_addRow k4_X6_addRow) (by decide +kernel) (fun pc q h => by cases h)
theorem k1_X6_addSignedRow : (at_X6_addSignedRow).all (fun q => decide (decode cX6_addSignedRow q.1 = .ok (q.2.1, q.2.2.1))) = true := by decide +kernel
theorem k2_X6_addSignedRow : ax_chks ax_T aD_X6_addSignedRow = true := by decide +kernel
theorem k3_X6_addSignedRow : ax_needs ax_T ax_n9 ax_j9 ax_m9 aD_X6_addSignedRow = [593, 89, 643, 630, 632, 11, 89, 642].filterMap (fun i => ax_big[i]?) := by decide +kernel
theorem k4_X6_addSignedRow : (ax_needs ax_T ax_n9 ax_j9 ax_m9 aD_X6_addSignedRow).all goodWord = true := by decide +kernel
theorem ok_X6_addSignedRow : ax_okM ax_Ss ax_T ax_n9 ax_j9 ax_m9 aD_X6_addSignedRow := ax_okM_of (fun q h => of_decide_eq_true (List.all_eq_true.mp k1_X6_addSignedRow q h)) k2_X6_addSignedRow (ax_W_of _ k3_X6_addSignedRow k4_X6_addSignedRow) (by decide +kernel) (fun pc q h => by cases h)
theorem k1_X6_addSevens : (at_X6_addSevens).all (fun q => decide (decode cX6_addSevens q.1 = .ok (q.2.1, q.2.2.1))) = true := by decide +kernel
theorem k2_X6_addSevens : ax_chks ax_T aD_X6_addSevens = true := by decide +kernel
theorem k3_X6_addSevens : ax_needs ax_T ax_n9 ax_j9 ax_m9 aD_X6_addSevens = [634, 616, 617, 618, 89, 633].filterMap (fun i => ax_big[i]?) := by decide +kernel
theorem k4_X6_addSevens : (ax_needs ax_T ax_n9 ax_j9 ax_m9 aD_X6_addSevens).all goodWord = true := by decide +kernel
theorem ok_X6_addSevens : ax_okM ax_Ss ax_T ax_n9 ax_j9 ax_m9 aD_X6_addSevens := ax_okM_of (fun q h => of_decide_eq_true (List.all_eq_true.mp k1_X6_addSevens q h)) k2_X6_addSevens (ax_W_of _ k3_X6_addSevens k4_X6_addSevens) (by decide +kernel) (fun pc q h => by cases h)
theorem k1_X6_addFrom : (at_X6_addFrom).all (fun q => decide (decode cX6_addFrom q.1 = .ok (q.2.1, q.2.2.1))) = true := by decide +kernel
theorem k2_X6_addFrom : ax_chks ax_T aD_X6_addFrom = true := by decide +kernel
theorem k3_X6_addFrom : ax_needs ax_T ax_n9 ax_j9 ax_m9 aD_X6_addFrom = [573, 574, 575, 89, 616, 617, 618, 89, 648].filterMap (fun i => ax_big[i]?) := by decide +kernel
theorem k4_X6_addFrom : (ax_needs ax_T ax_n9 ax_j9 ax_m9 aD_X6_addFrom).all goodWord = true := by decide +kernel
theorem ok_X6_addFrom : ax_okM ax_Ss ax_T ax_n9 ax_j9 ax_m9 aD_X6_addFrom := ax_okM_of (fun q h => of_decide_eq_true (List.all_eq_true.mp k1_X6_addFrom q h)) k2_X6_addFrom (ax_W_of _ k3_X6_addFrom k4_X6_addFrom) (by decide +kernel) (fun pc q h => by cases h)
theorem k1_X6_same : (at_X6_same).all (fun q => decide (decode cX6_same q.1 = .ok (q.2.1, q.2.2.1))) = true := by decide +kernel
theorem k2_X6_same : ax_chks ax_T aD_X6_same = true := by decide +kernel
theorem k3_X6_same : ax_needs ax_T ax_n9 ax_j9 ax_m9 aD_X6_same = [573, 574, 575, 89, 573, 574, 575, 89, 584].filterMap (fun i => ax_big[i]?) := by decide +kernel
theorem k4_X6_same : (ax_needs ax_T ax_n9 ax_j9 ax_m9 aD_X6_same).all goodWord = true := by decide +kernel
theorem ok_X6_same : ax_okM ax_Ss ax_T ax_n9 ax_j9 ax_m9 aD_X6_same := ax_okM_of (fun q h => of_decide_eq_true (List.all_eq_true.mp k1_X6_same q h)) k2_X6_same (ax_W_of _ k3_X6_same k4_X6_same) (by decide +kernel) (fun pc q h => by cases h)
theorem k1_X6_hash : (at_X6_hash).all (fun q => decide (decode cX6_hash q.1 = .ok (q.2.1, q.2.2.1))) = true := by decide +kernel
theorem k2_X6_hash : ax_chks ax_T aD_X6_hash = true := by decide +kernel
theorem k3_X6_hash : ax_needs ax_T ax_n9 ax_j9 ax_m9 aD_X6_hash = [573, 574, 575, 89, 572].filterMap (fun i => ax_big[i]?) := by decide +kernel
theorem k4_X6_hash : (ax_needs ax_T ax_n9 ax_j9 ax_m9 aD_X6_hash).all goodWord = true := by decide +kernel
theorem ok_X6_hash : ax_okM ax_Ss ax_T ax_n9 ax_j9 ax_m9 aD_X6_hash := ax_okM_of (fun q h => of_decide_eq_true (List.all_eq_true.mp k1_X6_hash q h)) k2_X6_hash (ax_W_of _ k3_X6_hash k4_X6_hash) (by decide +kernel) (fun pc q h => by cases h)
theorem k1_X6_zeroFrom : (at_X6_zeroFrom).all (fun q => decide (decode cX6_zeroFrom q.1 = .ok (q.2.1, q.2.2.1))) = true := by decide +kernel
theorem k2_X6_zeroFrom : ax_chks ax_T aD_X6_zeroFrom = true := by decide +kernel
theorem k3_X6_zeroFrom : ax_needs ax_T ax_n9 ax_j9 ax_m9 aD_X6_zeroFrom = [573, 574, 575, 89, 861].filterMap (fun i => ax_big[i]?) := by decide +kernel
theorem k4_X6_zeroFrom : (ax_needs ax_T ax_n9 ax_j9 ax_m9 aD_X6_zeroFrom).all goodWord = true := by decide +kernel
theorem ok_X6_zeroFrom : ax_okM ax_Ss ax_T ax_n9 ax_j9 ax_m9 aD_X6_zeroFrom := ax_okM_of (fun q h => of_decide_eq_true (List.all_eq_true.mp k1_X6_zeroFrom q h)) k2_X6_zeroFrom (ax_W_of _ k3_X6_zeroFrom k4_X6_zeroFrom) (by decide +kernel) (fun pc q h => by cases h)
theorem k1_X6_rowSize : (at_X6_rowSize).all (fun q => decide (decode cX6_rowSize q.1 = .ok (q.2.1, q.2.2.1))) = true := by decide +kernel
theorem k2_X6_rowSize : ax_chks ax_T aD_X6_rowSize = true := by decide +kernel
theorem k3_X6_rowSize : ax_needs ax_T ax_n9 ax_j9 ax_m9 aD_X6_rowSize = [556].filterMap (fun i => ax_big[i]?) := by decide +kernel
theorem k4_X6_rowSize : (ax_needs ax_T ax_n9 ax_j9 ax_m9 aD_X6_rowSize).all goodWord = true := by decide +kernel
theorem ok_X6_rowSize : ax_okM ax_Ss ax_T ax_n9 ax_j9 ax_m9 aD_X6_rowSize := ax_okM_of (fun q h => of_decide_eq_true (List.all_eq_true.mp k1_X6_rowSize q h)) k2_X6_rowSize (ax_W_of _ k3_X6_rowSize k4_X6_rowSize) (by decide +kernel) (fun pc q h => by cases h)
theorem k1_X6_signedRowSize : (at_X6_signedRowSize).all (fun q => decide (decode cX6_signedRowSize q.1 = .ok (q.2.1, q.2.2.1))) = true := by decide +kernel
theorem k2_X6_signedRowSize : ax_chks ax_T aD_X6_signedRowSize = true := by decide +kernel
theorem k3_X6_signedRowSize : ax_needs ax_T ax_n9 ax_j9 ax_m9 aD_X6_signedRowSize = [595, 596, 594].filterMap (fun i => ax_big[i]?) := by decide +kernel
theorem k4_X6_signedRowSize : (ax_needs ax_T ax_n9 ax_j9 ax_m9 aD_X6_signedRowSize).all goodWord = true := by decide +kernel
theorem ok_X6_signedRowSize : ax_okM ax_Ss ax_T ax_n9 ax_j9 ax_m9 aD_X6_signedRowSize := ax_okM_of (fun q h => of_decide_eq_true (List.all_eq_true.mp k1_X6_signedRowSize q h)) k2_X6_signedRowSize (ax_W_of _ k3_X6_signedRowSize k4_X6_signedRowSize) (by decide +kernel) (fun pc q h => by cases h)
end
end
section
section
theorem k1_X7_init : (at_X7_init).all (fun q => decide (decode cX7_init q.1 = .ok (q.2.1, q.2.2.1))) = true := by decide +kernel
theorem k2_X7_init : ax_chks ax_T aD_X7_init = true := by decide +kernel
theorem k3_X7_init : ax_needs ax_T ax_n9 ax_j9 ax_m9 aD_X7_init = [401, 115, 116, 178, 404, 434, 406, 178, 408, 178, 410, 178, 412, 178, 415, 402, 165, 93, 403, 167, 93, 416, 400].filterMap (fun i => ax_big[i]?) := by decide +kernel
theorem k4_X7_init : (ax_needs ax_T ax_n9 ax_j9 ax_m9 aD_X7_init).all goodWord = true := by decide +kernel
theorem ok_X7_init : ax_okM ax_Ss ax_T ax_n9 ax_j9 ax_m9 aD_X7_init := ax_okM_of (fun q h => of_decide_eq_true (List.all_eq_true.mp k1_X7_init q h)) k2_X7_init (ax_W_of _ k3_X7_init k4_X7_init) (by decide +kernel) (fun pc q h => by cases h)
theorem k1_X7_indexOf : (at_X7_indexOf).all (fun q => decide (decode cX7_indexOf q.1 = .ok (q.2.1, q.2.2.1))) = true := by decide +kernel
theorem k2_X7_indexOf : ax_chks ax_T aD_X7_indexOf = true := by decide +kernel
theorem k3_X7_indexOf : ax_needs ax_T ax_n9 ax_j9 ax_m9 aD_X7_indexOf = [416, 790, 534, 535, 93, 414, 415, 416, 791, 544, 545, 93, 789].filterMap (fun i => ax_big[i]?) := by decide +kernel
theorem k4_X7_indexOf : (ax_needs ax_T ax_n9 ax_j9 ax_m9 aD_X7_indexOf).all goodWord = true := by decide +kernel
theorem ok_X7_indexOf : ax_okM ax_Ss ax_T ax_n9 ax_j9 ax_m9 aD_X7_indexOf := ax_okM_of (fun q h => of_decide_eq_true (List.all_eq_true.mp k1_X7_indexOf q h)) k2_X7_indexOf (ax_W_of _ k3_X7_indexOf k4_X7_indexOf) (by decide +kernel) (fun pc q h => by cases h)
theorem k1_X7_readFrom : (at_X7_readFrom).all (fun q => decide (decode cX7_readFrom q.1 = .ok (q.2.1, q.2.2.1))) = true := by decide +kernel
theorem k2_X7_readFrom : ax_chks ax_T aD_X7_readFrom = true := by decide +kernel
theorem k3_X7_readFrom : ax_needs ax_T ax_n9 ax_j9 ax_m9 aD_X7_readFrom = [414, 416, 775, 517, 518, 93, 370, 776, 777, 778, 96, 786, 787, 788, 97, 792, 684, 685, 96, 793, 795, 15, 97, 415, 416, 825, 548, 549, 93, 414, 414, 774].filterMap (fun i => ax_big[i]?) := by decide +kernel
theorem k4_X7_readFrom : (ax_needs ax_T ax_n9 ax_j9 ax_m9 aD_X7_readFrom).all goodWord = true := by decide +kernel
theorem ok_X7_readFrom : ax_okM ax_Ss ax_T ax_n9 ax_j9 ax_m9 aD_X7_readFrom := ax_okM_of (fun q h => of_decide_eq_true (List.all_eq_true.mp k1_X7_readFrom q h)) k2_X7_readFrom (ax_W_of _ k3_X7_readFrom k4_X7_readFrom) (by decide +kernel) (fun pc q h => by cases h)
theorem k1_X7_readShape : (at_X7_readShape).all (fun q => decide (decode cX7_readShape q.1 = .ok (q.2.1, q.2.2.1))) = true := by decide +kernel
theorem k2_X7_readShape : ax_chks ax_T aD_X7_readShape = true := by decide +kernel
theorem k3_X7_readShape : ax_needs ax_T ax_n9 ax_j9 ax_m9 aD_X7_readShape = [370, 404, 776, 777, 778, 96, 404, 798, 88, 792, 684, 685, 96, 370, 800, 760, 761, 96, 792, 684, 685, 96, 406, 408, 801, 803, 16, 97, 796].filterMap (fun i => ax_big[i]?) := by decide +kernel
theorem k4_X7_readShape : (ax_needs ax_T ax_n9 ax_j9 ax_m9 aD_X7_readShape).all goodWord = true := by decide +kernel
theorem ok_X7_readShape : ax_okM ax_Ss ax_T ax_n9 ax_j9 ax_m9 aD_X7_readShape := ax_okM_of (fun q h => of_decide_eq_true (List.all_eq_true.mp k1_X7_readShape q h)) k2_X7_readShape (ax_W_of _ k3_X7_readShape k4_X7_readShape) (by decide +kernel) (fun pc q h => by cases h)
theorem k1_X7_readAttribute : (at_X7_readAttribute).all (fun q => decide (decode cX7_readAttribute q.1 = .ok (q.2.1, q.2.2.1))) = true := by decide +kernel
theorem k2_X7_readAttribute : ax_chks ax_T aD_X7_readAttribute = true := by decide +kernel
theorem k3_X7_readAttribute : ax_needs ax_T ax_n9 ax_j9 ax_m9 aD_X7_readAttribute = [370, 776, 777, 778, 96, 805, 807, 17, 97, 792, 684, 685, 96, 370, 776, 777, 778, 96, 792, 684, 685, 96, 811, 106, 810, 792, 684, 685, 96, 408, 527, 95, 809, 410, 412, 408, 804].filterMap (fun i => ax_big[i]?) := by decide +kernel
theorem k4_X7_readAttribute : (ax_needs ax_T ax_n9 ax_j9 ax_m9 aD_X7_readAttribute).all goodWord = true := by decide +kernel
theorem ok_X7_readAttribute : ax_okM ax_Ss ax_T ax_n9 ax_j9 ax_m9 aD_X7_readAttribute := ax_okM_of (fun q h => of_decide_eq_true (List.all_eq_true.mp k1_X7_readAttribute q h)) k2_X7_readAttribute (ax_W_of _ k3_X7_readAttribute k4_X7_readAttribute) (by decide +kernel) (fun pc q h => by cases h)
theorem k1_X7_mayFollow : (at_X7_mayFollow).all (fun q => decide (decode cX7_mayFollow q.1 = .ok (q.2.1, q.2.2.1))) = true := by decide +kernel
theorem k2_X7_mayFollow : ax_chks ax_T aD_X7_mayFollow = true := by decide +kernel
theorem k3_X7_mayFollow : ax_needs ax_T ax_n9 ax_j9 ax_m9 aD_X7_mayFollow = [798, 88, 408, 408, 410, 527, 95, 809, 808].filterMap (fun i => ax_big[i]?) := by decide +kernel
theorem k4_X7_mayFollow : (ax_needs ax_T ax_n9 ax_j9 ax_m9 aD_X7_mayFollow).all goodWord = true := by decide +kernel
theorem ok_X7_mayFollow : ax_okM ax_Ss ax_T ax_n9 ax_j9 ax_m9 aD_X7_mayFollow := ax_okM_of (fun q h => of_decide_eq_true (List.all_eq_true.mp k1_X7_mayFollow q h)) k2_X7_mayFollow (ax_W_of _ k3_X7_mayFollow k4_X7_mayFollow) (by decide +kernel) (fun pc q h => by cases h)
theorem k1_X8_init : (at_X8_init).all (fun q => decide (decode cX8_init q.1 = .ok (q.2.1, q.2.2.1))) = true := by decide +kernel
theorem k2_X8_init : ax_chks ax_T aD_X8_init = true := by decide +kernel
theorem k3_X8_init : ax_needs ax_T ax_n9 ax_j9 ax_m9 aD_X8_init = [265, 115, 116, 178, 274, 178, 278, 178, 282, 178, 286, 178, 288, 178, 292, 178, 296, 178, 299, 178, 300, 178, 303, 178, 308, 178, 312, 359, 317, 178, 322, 264].filterMap (fun i => ax_big[i]?) := by decide +kernel
theorem k4_X8_init : (ax_needs ax_T ax_n9 ax_j9 ax_m9 aD_X8_init).all goodWord = true := by decide +kernel
theorem ok_X8_init : ax_okM ax_Ss ax_T ax_n9 ax_j9 ax_m9 aD_X8_init := ax_okM_of (fun q h => of_decide_eq_true (List.all_eq_true.mp k1_X8_init q h)) k2_X8_init (ax_W_of _ k3_X8_init k4_X8_init) (by decide +kernel) (fun pc q h => by cases h)
theorem k1_X8_slotAt : (at_X8_slotAt).all (fun q => decide (decode cX8_slotAt q.1 = .ok (q.2.1, q.2.2.1))) = true := by decide +kernel
theorem k2_X8_slotAt : ax_chks ax_T aD_X8_slotAt = true := by decide +kernel
theorem k3_X8_slotAt : ax_needs ax_T ax_n9 ax_j9 ax_m9 aD_X8_slotAt = [528].filterMap (fun i => ax_big[i]?) := by decide +kernel
theorem k4_X8_slotAt : (ax_needs ax_T ax_n9 ax_j9 ax_m9 aD_X8_slotAt).all goodWord = true := by decide +kernel
theorem ok_X8_slotAt : ax_okM ax_Ss ax_T ax_n9 ax_j9 ax_m9 aD_X8_slotAt := ax_okM_of (fun q h => of_decide_eq_true (List.all_eq_true.mp k1_X8_slotAt q h)) k2_X8_slotAt (ax_W_of _ k3_X8_slotAt k4_X8_slotAt) (by decide +kernel) (fun pc q h => by cases h)
theorem k1_X8_forget : (at_X8_forget).all (fun q => decide (decode cX8_forget q.1 = .ok (q.2.1, q.2.2.1))) = true := by decide +kernel
theorem k2_X8_forget : ax_chks ax_T aD_X8_forget = true := by decide +kernel
theorem k3_X8_forget : ax_needs ax_T ax_n9 ax_j9 ax_m9 aD_X8_forget = [267, 270, 487].filterMap (fun i => ax_big[i]?) := by decide +kernel
theorem k4_X8_forget : (ax_needs ax_T ax_n9 ax_j9 ax_m9 aD_X8_forget).all goodWord = true := by decide +kernel
theorem ok_X8_forget : ax_okM ax_Ss ax_T ax_n9 ax_j9 ax_m9 aD_X8_forget := ax_okM_of (fun q h => of_decide_eq_true (List.all_eq_true.mp k1_X8_forget q h)) k2_X8_forget (ax_W_of _ k3_X8_forget k4_X8_forget) (by decide +kernel) (fun pc q h => by cases h)
theorem k1_X8_addRoot : (at_X8_addRoot).all (fun q => decide (decode cX8_addRoot q.1 = .ok (q.2.1, q.2.2.1))) = true := by decide +kernel
theorem k2_X8_addRoot : ax_chks ax_T aD_X8_addRoot = true := by decide +kernel
theorem k3_X8_addRoot : ax_needs ax_T ax_n9 ax_j9 ax_m9 aD_X8_addRoot = [840, 842, 20, 95, 282, 286, 267, 288, 274, 267, 267, 267, 839].filterMap (fun i => ax_big[i]?) := by decide +kernel
theorem k4_X8_addRoot : (ax_needs ax_T ax_n9 ax_j9 ax_m9 aD_X8_addRoot).all goodWord = true := by decide +kernel
theorem ok_X8_addRoot : ax_okM ax_Ss ax_T ax_n9 ax_j9 ax_m9 aD_X8_addRoot := ax_okM_of (fun q h => of_decide_eq_true (List.all_eq_true.mp k1_X8_addRoot q h)) k2_X8_addRoot (ax_W_of _ k3_X8_addRoot k4_X8_addRoot) (by decide +kernel) (fun pc q h => by cases h)
theorem k1_X8_addChild : (at_X8_addChild).all (fun q => decide (decode cX8_addChild q.1 = .ok (q.2.1, q.2.2.1))) = true := by decide +kernel
theorem k2_X8_addChild : ax_chks ax_T aD_X8_addChild = true := by decide +kernel
theorem k3_X8_addChild : ax_needs ax_T ax_n9 ax_j9 ax_m9 aD_X8_addChild = [840, 842, 20, 95, 282, 286, 286, 288, 288, 292, 296, 300, 299, 299, 292, 847].filterMap (fun i => ax_big[i]?) := by decide +kernel
theorem k4_X8_addChild : (ax_needs ax_T ax_n9 ax_j9 ax_m9 aD_X8_addChild).all goodWord = true := by decide +kernel
theorem ok_X8_addChild : ax_okM ax_Ss ax_T ax_n9 ax_j9 ax_m9 aD_X8_addChild := ax_okM_of (fun q h => of_decide_eq_true (List.all_eq_true.mp k1_X8_addChild q h)) k2_X8_addChild (ax_W_of _ k3_X8_addChild k4_X8_addChild) (by decide +kernel) (fun pc q h => by cases h)
theorem k1_X8_addEntry : (at_X8_addEntry).all (fun q => decide (decode cX8_addEntry q.1 = .ok (q.2.1, q.2.2.1))) = true := by decide +kernel
theorem k2_X8_addEntry : ax_chks ax_T aD_X8_addEntry = true := by decide +kernel
theorem k3_X8_addEntry : ax_needs ax_T ax_n9 ax_j9 ax_m9 aD_X8_addEntry = [270, 270, 270, 278, 292, 296, 299, 300, 303, 843].filterMap (fun i => ax_big[i]?) := by decide +kernel
theorem k4_X8_addEntry : (ax_needs ax_T ax_n9 ax_j9 ax_m9 aD_X8_addEntry).all goodWord = true := by decide +kernel
theorem ok_X8_addEntry : ax_okM ax_Ss ax_T ax_n9 ax_j9 ax_m9 aD_X8_addEntry := ax_okM_of (fun q h => of_decide_eq_true (List.all_eq_true.mp k1_X8_addEntry q h)) k2_X8_addEntry (ax_W_of _ k3_X8_addEntry k4_X8_addEntry) (by decide +kernel) (fun pc q h => by cases h)
theorem k1_X8_addAttribute : (at_X8_addAttribute).all (fun q => decide (decode cX8_addAttribute q.1 = .ok (q.2.1, q.2.2.1))) = true := by decide +kernel
theorem k2_X8_addAttribute : ax_chks ax_T aD_X8_addAttribute = true := by decide +kernel
theorem k3_X8_addAttribute : ax_needs ax_T ax_n9 ax_j9 ax_m9 aD_X8_addAttribute = [303, 527, 95, 874, 308, 312, 317, 322, 303, 303, 873].filterMap (fun i => ax_big[i]?) := by decide +kernel
theorem k4_X8_addAttribute : (ax_needs ax_T ax_n9 ax_j9 ax_m9 aD_X8_addAttribute).all goodWord = true := by decide +kernel
theorem ok_X8_addAttribute : ax_okM ax_Ss ax_T ax_n9 ax_j9 ax_m9 aD_X8_addAttribute := ax_okM_of (fun q h => of_decide_eq_true (List.all_eq_true.mp k1_X8_addAttribute q h)) k2_X8_addAttribute (ax_W_of _ k3_X8_addAttribute k4_X8_addAttribute) (by decide +kernel) (fun pc q h => by cases h)
theorem k1_X8_slotOf : (at_X8_slotOf).all (fun q => decide (decode cX8_slotOf q.1 = .ok (q.2.1, q.2.2.1))) = true := by decide +kernel
theorem k2_X8_slotOf : ax_chks ax_T aD_X8_slotOf = true := by decide +kernel
theorem k3_X8_slotOf : ax_needs ax_T ax_n9 ax_j9 ax_m9 aD_X8_slotOf = [303, 527, 95, 874, 308, 909].filterMap (fun i => ax_big[i]?) := by decide +kernel
theorem k4_X8_slotOf : (ax_needs ax_T ax_n9 ax_j9 ax_m9 aD_X8_slotOf).all goodWord = true := by decide +kernel
theorem ok_X8_slotOf : ax_okM ax_Ss ax_T ax_n9 ax_j9 ax_m9 aD_X8_slotOf := ax_okM_of (fun q h => of_decide_eq_true (List.all_eq_true.mp k1_X8_slotOf q h)) k2_X8_slotOf (ax_W_of _ k3_X8_slotOf k4_X8_slotOf) (by decide +kernel) (fun pc q h => by cases h)
theorem k1_X8_start : (at_X8_start).all (fun q => decide (decode cX8_start q.1 = .ok (q.2.1, q.2.2.1))) = true := by decide +kernel
theorem k2_X8_start : ax_chks ax_T aD_X8_start = true := by decide +kernel
theorem k3_X8_start : ax_needs ax_T ax_n9 ax_j9 ax_m9 aD_X8_start = [317, 568].filterMap (fun i => ax_big[i]?) := by decide +kernel
theorem k4_X8_start : (ax_needs ax_T ax_n9 ax_j9 ax_m9 aD_X8_start).all goodWord = true := by decide +kernel
theorem ok_X8_start : ax_okM ax_Ss ax_T ax_n9 ax_j9 ax_m9 aD_X8_start := ax_okM_of (fun q h => of_decide_eq_true (List.all_eq_true.mp k1_X8_start q h)) k2_X8_start (ax_W_of _ k3_X8_start k4_X8_start) (by decide +kernel) (fun pc q h => by cases h)
theorem k1_X8_childAt : (at_X8_childAt).all (fun q => decide (decode cX8_childAt q.1 = .ok (q.2.1, q.2.2.1))) = true := by decide +kernel
theorem k2_X8_childAt : ax_chks ax_T aD_X8_childAt = true := by decide +kernel
theorem k3_X8_childAt : ax_needs ax_T ax_n9 ax_j9 ax_m9 aD_X8_childAt = [296, 300, 1150].filterMap (fun i => ax_big[i]?) := by decide +kernel
theorem k4_X8_childAt : (ax_needs ax_T ax_n9 ax_j9 ax_m9 aD_X8_childAt).all goodWord = true := by decide +kernel
theorem ok_X8_childAt : ax_okM ax_Ss ax_T ax_n9 ax_j9 ax_m9 aD_X8_childAt := ax_okM_of (fun q h => of_decide_eq_true (List.all_eq_true.mp k1_X8_childAt q h)) k2_X8_childAt (ax_W_of _ k3_X8_childAt k4_X8_childAt) (by decide +kernel) (fun pc q h => by cases h)
end
end
section
section
theorem k1_X9_writeUnits : (at_X9_writeUnits).all (fun q => decide (decode cX9_writeUnits q.1 = .ok (q.2.1, q.2.2.1))) = true := by decide +kernel
theorem k2_X9_writeUnits : ax_chks ax_T aD_X9_writeUnits = true := by decide +kernel
theorem k3_X9_writeUnits : ax_needs ax_T ax_n9 ax_j9 ax_m9 aD_X9_writeUnits = [611, 489, 490, 89, 266, 198, 612, 613, 614, 89, 620, 612, 613, 614, 89, 612, 613, 614, 89, 621, 617, 618, 89, 196, 196, 194, 623, 108, 622, 610].filterMap (fun i => ax_big[i]?) := by decide +kernel
theorem k4_X9_writeUnits : (ax_needs ax_T ax_n9 ax_j9 ax_m9 aD_X9_writeUnits).all goodWord = true := by decide +kernel
theorem ok_X9_writeUnits : ax_okM ax_Ss ax_T ax_n9 ax_j9 ax_m9 aD_X9_writeUnits := ax_okM_of (fun q h => of_decide_eq_true (List.all_eq_true.mp k1_X9_writeUnits q h)) k2_X9_writeUnits (ax_W_of _ k3_X9_writeUnits k4_X9_writeUnits) (by decide +kernel) (fun pc q h => by cases h)
theorem k1_X9_writeEntry : (at_X9_writeEntry).all (fun q => decide (decode cX9_writeEntry q.1 = .ok (q.2.1, q.2.2.1))) = true := by decide +kernel
theorem k2_X9_writeEntry : ax_chks ax_T aD_X9_writeEntry = true := by decide +kernel
theorem k3_X9_writeEntry : ax_needs ax_T ax_n9 ax_j9 ax_m9 aD_X9_writeEntry = [206, 625, 626, 627, 89, 304, 527, 95, 635, 637, 108, 636, 200, 612, 613, 614, 89, 624].filterMap (fun i => ax_big[i]?) := by decide +kernel
theorem k4_X9_writeEntry : (ax_needs ax_T ax_n9 ax_j9 ax_m9 aD_X9_writeEntry).all goodWord = true := by decide +kernel
theorem ok_X9_writeEntry : ax_okM ax_Ss ax_T ax_n9 ax_j9 ax_m9 aD_X9_writeEntry := ax_okM_of (fun q h => of_decide_eq_true (List.all_eq_true.mp k1_X9_writeEntry q h)) k2_X9_writeEntry (ax_W_of _ k3_X9_writeEntry k4_X9_writeEntry) (by decide +kernel) (fun pc q h => by cases h)
theorem k1_X9_writeValue : (at_X9_writeValue).all (fun q => decide (decode cX9_writeValue q.1 = .ok (q.2.1, q.2.2.1))) = true := by decide +kernel
theorem k2_X9_writeValue : ax_chks ax_T aD_X9_writeValue = true := by decide +kernel
theorem k3_X9_writeValue : ax_needs ax_T ax_n9 ax_j9 ax_m9 aD_X9_writeValue = [318, 313, 639, 640, 641, 89, 625, 626, 627, 89, 644, 566, 567, 95, 323, 645, 646, 647, 89, 621, 617, 618, 89, 323, 621, 617, 618, 89, 644, 566, 567, 95, 323, 645, 646, 647, 89, 210, 612, 613, 614, 89, 203, 612, 613, 614, 89, 203, 625, 626, 627, 89, 598, 106, 649, 612, 613, 614, 89, 638].filterMap (fun i => ax_big[i]?) := by decide +kernel
theorem k4_X9_writeValue : (ax_needs ax_T ax_n9 ax_j9 ax_m9 aD_X9_writeValue).all goodWord = true := by decide +kernel
theorem ok_X9_writeValue : ax_okM ax_Ss ax_T ax_n9 ax_j9 ax_m9 aD_X9_writeValue := ax_okM_of (fun q h => of_decide_eq_true (List.all_eq_true.mp k1_X9_writeValue q h)) k2_X9_writeValue (ax_W_of _ k3_X9_writeValue k4_X9_writeValue) (by decide +kernel) (fun pc q h => by cases h)
theorem k1_X9_writeShapes : (at_X9_writeShapes).all (fun q => decide (decode cX9_writeShapes q.1 = .ok (q.2.1, q.2.2.1))) = true := by decide +kernel
theorem k2_X9_writeShapes : ax_chks ax_T aD_X9_writeShapes = true := by decide +kernel
theorem k3_X9_writeShapes : ax_needs ax_T ax_n9 ax_j9 ax_m9 aD_X9_writeShapes = [611, 489, 490, 89, 179, 208, 625, 626, 627, 89, 279, 625, 626, 627, 89, 294, 621, 617, 618, 89, 304, 527, 95, 635, 309, 625, 626, 627, 89, 313, 625, 626, 627, 89, 612, 613, 614, 89, 621, 617, 618, 89, 652].filterMap (fun i => ax_big[i]?) := by decide +kernel
theorem k4_X9_writeShapes : (ax_needs ax_T ax_n9 ax_j9 ax_m9 aD_X9_writeShapes).all goodWord = true := by decide +kernel
theorem ok_X9_writeShapes : ax_okM ax_Ss ax_T ax_n9 ax_j9 ax_m9 aD_X9_writeShapes := ax_okM_of (fun q h => of_decide_eq_true (List.all_eq_true.mp k1_X9_writeShapes q h)) k2_X9_writeShapes (ax_W_of _ k3_X9_writeShapes k4_X9_writeShapes) (by decide +kernel) (fun pc q h => by cases h)
theorem k1_X9_writeTexts : (at_X9_writeTexts).all (fun q => decide (decode cX9_writeTexts q.1 = .ok (q.2.1, q.2.2.1))) = true := by decide +kernel
theorem k2_X9_writeTexts : ax_chks ax_T aD_X9_writeTexts = true := by decide +kernel
theorem k3_X9_writeTexts : ax_needs ax_T ax_n9 ax_j9 ax_m9 aD_X9_writeTexts = [611, 489, 490, 89, 182, 212, 644, 566, 567, 95, 323, 645, 646, 647, 89, 621, 617, 618, 89, 655].filterMap (fun i => ax_big[i]?) := by decide +kernel
theorem k4_X9_writeTexts : (ax_needs ax_T ax_n9 ax_j9 ax_m9 aD_X9_writeTexts).all goodWord = true := by decide +kernel
theorem ok_X9_writeTexts : ax_okM ax_Ss ax_T ax_n9 ax_j9 ax_m9 aD_X9_writeTexts := ax_okM_of (fun q h => of_decide_eq_true (List.all_eq_true.mp k1_X9_writeTexts q h)) k2_X9_writeTexts (ax_W_of _ k3_X9_writeTexts k4_X9_writeTexts) (by decide +kernel) (fun pc q h => by cases h)
end
end
section
section
theorem k1_X10_init : (at_X10_init).all (fun q => decide (decode cX10_init q.1 = .ok (q.2.1, q.2.2.1))) = true := by decide +kernel
theorem k2_X10_init : ax_chks ax_T aD_X10_init = true := by decide +kernel
theorem k3_X10_init : ax_needs ax_T ax_n9 ax_j9 ax_m9 aD_X10_init = [114, 115, 116, 117, 118, 89, 119, 120, 89, 461, 117, 118, 89, 119, 120, 89, 462, 134, 135, 91, 136, 137, 91, 463, 158, 159, 92, 160, 161, 92, 464, 254, 255, 94, 256, 257, 94, 465, 459, 261, 95, 460, 263, 95, 466, 113].filterMap (fun i => ax_big[i]?) := by decide +kernel
theorem k4_X10_init : (ax_needs ax_T ax_n9 ax_j9 ax_m9 aD_X10_init).all goodWord = true := by decide +kernel
theorem ok_X10_init : ax_okM ax_Ss ax_T ax_n9 ax_j9 ax_m9 aD_X10_init := ax_okM_of (fun q h => of_decide_eq_true (List.all_eq_true.mp k1_X10_init q h)) k2_X10_init (ax_W_of _ k3_X10_init k4_X10_init) (by decide +kernel) (fun pc q h => by cases h)
theorem k1_X10_feed : (at_X10_feed).all (fun q => decide (decode cX10_feed q.1 = .ok (q.2.1, q.2.2.1))) = true := by decide +kernel
theorem k2_X10_feed : ax_chks ax_T aD_X10_feed = true := by decide +kernel
theorem k3_X10_feed : ax_needs ax_T ax_n9 ax_j9 ax_m9 aD_X10_feed = [461, 923, 924, 925, 89, 461, 929, 930, 931, 89, 461, 929, 930, 931, 89, 461, 929, 930, 931, 89, 461, 929, 930, 931, 89, 461, 929, 930, 931, 89, 461, 656, 657, 658, 89, 922].filterMap (fun i => ax_big[i]?) := by decide +kernel
theorem k4_X10_feed : (ax_needs ax_T ax_n9 ax_j9 ax_m9 aD_X10_feed).all goodWord = true := by decide +kernel
theorem kx_X10_feed_12 : ax_okx ax_Ss aD_X10_feed 12 ("java/lang/IllegalStateException", "the tape is full", 53, 55, 57, false) := ⟨by decide, by decide +kernel, rfl, by decide +kernel, by decide +kernel, ⟨by decide +kernel, by decide +kernel, by decide +kernel⟩, kt_0, kn_0⟩
theorem kx_X10_feed : ∀ pc q, (ax_dx aD_X10_feed).lookup pc = some q → ax_okx ax_Ss aD_X10_feed pc q := by
  intro pc q h
  have hm := ax_lookup_mem h
  simp only [ax_dx, aD_X10_feed, List.mem_cons, List.not_mem_nil, or_false, Prod.mk.injEq] at hm
  obtain ⟨rfl, rfl⟩ := hm
  exact kx_X10_feed_12
theorem ok_X10_feed : ax_okM ax_Ss ax_T ax_n9 ax_j9 ax_m9 aD_X10_feed := ax_okM_of (fun q h => of_decide_eq_true (List.all_eq_true.mp k1_X10_feed q h)) k2_X10_feed (ax_W_of _ k3_X10_feed k4_X10_feed) (by decide +kernel) kx_X10_feed
theorem k1_X10_end : (at_X10_end).all (fun q => decide (decode cX10_end q.1 = .ok (q.2.1, q.2.2.1))) = true := by decide +kernel
theorem k2_X10_end : ax_chks ax_T aD_X10_end = true := by decide +kernel
theorem k3_X10_end : ax_needs ax_T ax_n9 ax_j9 ax_m9 aD_X10_end = [461, 656, 657, 658, 89, 461, 488, 489, 490, 89, 940].filterMap (fun i => ax_big[i]?) := by decide +kernel
theorem k4_X10_end : (ax_needs ax_T ax_n9 ax_j9 ax_m9 aD_X10_end).all goodWord = true := by decide +kernel
theorem kx_X10_end_15 : ax_okx ax_Ss aD_X10_end 15 ("java/lang/IllegalArgumentException", "the tape has no such end", 66, 68, 70, false) := ⟨by decide, by decide +kernel, rfl, by decide +kernel, by decide +kernel, ⟨by decide +kernel, by decide +kernel, by decide +kernel⟩, kt_1, kn_1⟩
theorem kx_X10_end : ∀ pc q, (ax_dx aD_X10_end).lookup pc = some q → ax_okx ax_Ss aD_X10_end pc q := by
  intro pc q h
  have hm := ax_lookup_mem h
  simp only [ax_dx, aD_X10_end, List.mem_cons, List.not_mem_nil, or_false, Prod.mk.injEq] at hm
  obtain ⟨rfl, rfl⟩ := hm
  exact kx_X10_end_15
theorem ok_X10_end : ax_okM ax_Ss ax_T ax_n9 ax_j9 ax_m9 aD_X10_end := ax_okM_of (fun q h => of_decide_eq_true (List.all_eq_true.mp k1_X10_end q h)) k2_X10_end (ax_W_of _ k3_X10_end k4_X10_end) (by decide +kernel) kx_X10_end
theorem k1_X10_unit : (at_X10_unit).all (fun q => decide (decode cX10_unit q.1 = .ok (q.2.1, q.2.2.1))) = true := by decide +kernel
theorem k2_X10_unit : ax_chks ax_T aD_X10_unit = true := by decide +kernel
theorem k3_X10_unit : ax_needs ax_T ax_n9 ax_j9 ax_m9 aD_X10_unit = [965, 967, 27, 88, 466, 268, 466, 271, 464, 492, 493, 494, 92, 466, 987, 837, 838, 95, 964].filterMap (fun i => ax_big[i]?) := by decide +kernel
theorem k4_X10_unit : (ax_needs ax_T ax_n9 ax_j9 ax_m9 aD_X10_unit).all goodWord = true := by decide +kernel
theorem kx_X10_unit_30 : ax_okx ax_Ss aD_X10_unit 30 ("java/lang/UnsupportedOperationException", "no room for a unit", 84, 86, 88, false) := ⟨by decide, by decide +kernel, rfl, by decide +kernel, by decide +kernel, ⟨by decide +kernel, by decide +kernel, by decide +kernel⟩, kt_2, kn_2⟩
theorem kx_X10_unit : ∀ pc q, (ax_dx aD_X10_unit).lookup pc = some q → ax_okx ax_Ss aD_X10_unit pc q := by
  intro pc q h
  have hm := ax_lookup_mem h
  simp only [ax_dx, aD_X10_unit, List.mem_cons, List.not_mem_nil, or_false, Prod.mk.injEq] at hm
  obtain ⟨rfl, rfl⟩ := hm
  exact kx_X10_unit_30
theorem ok_X10_unit : ax_okM ax_Ss ax_T ax_n9 ax_j9 ax_m9 aD_X10_unit := ax_okM_of (fun q h => of_decide_eq_true (List.all_eq_true.mp k1_X10_unit q h)) k2_X10_unit (ax_W_of _ k3_X10_unit k4_X10_unit) (by decide +kernel) kx_X10_unit
theorem k1_X10_entry : (at_X10_entry).all (fun q => decide (decode cX10_entry q.1 = .ok (q.2.1, q.2.2.1))) = true := by decide +kernel
theorem k2_X10_entry : ax_chks ax_T aD_X10_entry = true := by decide +kernel
theorem k3_X10_entry : ax_needs ax_T ax_n9 ax_j9 ax_m9 aD_X10_entry = [996, 998, 28, 88, 965, 967, 27, 88, 466, 271, 466, 290, 464, 492, 493, 494, 92, 466, 1017, 845, 846, 95, 995].filterMap (fun i => ax_big[i]?) := by decide +kernel
theorem k4_X10_entry : (ax_needs ax_T ax_n9 ax_j9 ax_m9 aD_X10_entry).all goodWord = true := by decide +kernel
theorem kx_X10_entry_37 : ax_okx ax_Ss aD_X10_entry 37 ("java/lang/UnsupportedOperationException", "no room for an entry", 84, 103, 88, false) := ⟨by decide, by decide +kernel, rfl, by decide +kernel, by decide +kernel, ⟨by decide +kernel, by decide +kernel, by decide +kernel⟩, kt_2, kn_2⟩
theorem kx_X10_entry : ∀ pc q, (ax_dx aD_X10_entry).lookup pc = some q → ax_okx ax_Ss aD_X10_entry pc q := by
  intro pc q h
  have hm := ax_lookup_mem h
  simp only [ax_dx, aD_X10_entry, List.mem_cons, List.not_mem_nil, or_false, Prod.mk.injEq] at hm
  obtain ⟨rfl, rfl⟩ := hm
  exact kx_X10_entry_37
theorem ok_X10_entry : ax_okM ax_Ss ax_T ax_n9 ax_j9 ax_m9 aD_X10_entry := ax_okM_of (fun q h => of_decide_eq_true (List.all_eq_true.mp k1_X10_entry q h)) k2_X10_entry (ax_W_of _ k3_X10_entry k4_X10_entry) (by decide +kernel) kx_X10_entry
theorem k1_X10_number : (at_X10_number).all (fun q => decide (decode cX10_number q.1 = .ok (q.2.1, q.2.2.1))) = true := by decide +kernel
theorem k2_X10_number : ax_chks ax_T aD_X10_number = true := by decide +kernel
theorem k3_X10_number : ax_needs ax_T ax_n9 ax_j9 ax_m9 aD_X10_number = [996, 998, 28, 88, 1025, 1027, 29, 88, 814, 106, 910, 1031, 106, 1030, 1037, 1039, 30, 88, 464, 492, 493, 494, 92, 466, 1042, 871, 872, 95, 1024].filterMap (fun i => ax_big[i]?) := by decide +kernel
theorem k4_X10_number : (ax_needs ax_T ax_n9 ax_j9 ax_m9 aD_X10_number).all goodWord = true := by decide +kernel
theorem kx_X10_number_27 : ax_okx ax_Ss aD_X10_number 27 ("java/lang/IllegalArgumentException", "no such number", 66, 123, 70, false) := ⟨by decide, by decide +kernel, rfl, by decide +kernel, by decide +kernel, ⟨by decide +kernel, by decide +kernel, by decide +kernel⟩, kt_1, kn_1⟩
theorem kx_X10_number : ∀ pc q, (ax_dx aD_X10_number).lookup pc = some q → ax_okx ax_Ss aD_X10_number pc q := by
  intro pc q h
  have hm := ax_lookup_mem h
  simp only [ax_dx, aD_X10_number, List.mem_cons, List.not_mem_nil, or_false, Prod.mk.injEq] at hm
  obtain ⟨rfl, rfl⟩ := hm
  exact kx_X10_number_27
theorem ok_X10_number : ax_okM ax_Ss ax_T ax_n9 ax_j9 ax_m9 aD_X10_number := ax_okM_of (fun q h => of_decide_eq_true (List.all_eq_true.mp k1_X10_number q h)) k2_X10_number (ax_W_of _ k3_X10_number k4_X10_number) (by decide +kernel) kx_X10_number
theorem k1_X10_bytes : (at_X10_bytes).all (fun q => decide (decode cX10_bytes q.1 = .ok (q.2.1, q.2.2.1))) = true := by decide +kernel
theorem k2_X10_bytes : ax_chks ax_T aD_X10_bytes = true := by decide +kernel
theorem k3_X10_bytes : ax_needs ax_T ax_n9 ax_j9 ax_m9 aD_X10_bytes = [996, 998, 28, 88, 1025, 1027, 29, 88, 1050, 1052, 31, 88, 461, 656, 657, 658, 89, 1037, 1039, 30, 88, 462, 656, 657, 658, 89, 462, 461, 897, 646, 647, 89, 461, 488, 489, 490, 89, 464, 492, 493, 494, 92, 466, 1042, 871, 872, 95, 1049].filterMap (fun i => ax_big[i]?) := by decide +kernel
theorem k4_X10_bytes : (ax_needs ax_T ax_n9 ax_j9 ax_m9 aD_X10_bytes).all goodWord = true := by decide +kernel
theorem ok_X10_bytes : ax_okM ax_Ss ax_T ax_n9 ax_j9 ax_m9 aD_X10_bytes := ax_okM_of (fun q h => of_decide_eq_true (List.all_eq_true.mp k1_X10_bytes q h)) k2_X10_bytes (ax_W_of _ k3_X10_bytes k4_X10_bytes) (by decide +kernel) (fun pc q h => by cases h)
theorem k1_X10_reference : (at_X10_reference).all (fun q => decide (decode cX10_reference q.1 = .ok (q.2.1, q.2.2.1))) = true := by decide +kernel
theorem k2_X10_reference : ax_chks ax_T aD_X10_reference = true := by decide +kernel
theorem k3_X10_reference : ax_needs ax_T ax_n9 ax_j9 ax_m9 aD_X10_reference = [996, 998, 28, 88, 996, 998, 28, 88, 466, 287, 466, 287, 1025, 1027, 29, 88, 823, 106, 1065, 1037, 1039, 30, 88, 464, 492, 493, 494, 92, 466, 1042, 871, 872, 95, 1063].filterMap (fun i => ax_big[i]?) := by decide +kernel
theorem k4_X10_reference : (ax_needs ax_T ax_n9 ax_j9 ax_m9 aD_X10_reference).all goodWord = true := by decide +kernel
theorem kx_X10_reference_33 : ax_okx ax_Ss aD_X10_reference 33 ("java/lang/IllegalStateException", "an entry of another unit", 53, 142, 57, false) := ⟨by decide, by decide +kernel, rfl, by decide +kernel, by decide +kernel, ⟨by decide +kernel, by decide +kernel, by decide +kernel⟩, kt_0, kn_0⟩
theorem kx_X10_reference_56 : ax_okx ax_Ss aD_X10_reference 56 ("java/lang/IllegalArgumentException", "no form of a reference", 66, 147, 70, false) := ⟨by decide, by decide +kernel, rfl, by decide +kernel, by decide +kernel, ⟨by decide +kernel, by decide +kernel, by decide +kernel⟩, kt_1, kn_1⟩
theorem kx_X10_reference : ∀ pc q, (ax_dx aD_X10_reference).lookup pc = some q → ax_okx ax_Ss aD_X10_reference pc q := by
  intro pc q h
  have hm := ax_lookup_mem h
  simp only [ax_dx, aD_X10_reference, List.mem_cons, List.not_mem_nil, or_false, Prod.mk.injEq] at hm
  rcases hm with ⟨rfl, rfl⟩ | ⟨rfl, rfl⟩
  · exact kx_X10_reference_33
  · exact kx_X10_reference_56
theorem ok_X10_reference : ax_okM ax_Ss ax_T ax_n9 ax_j9 ax_m9 aD_X10_reference := ax_okM_of (fun q h => of_decide_eq_true (List.all_eq_true.mp k1_X10_reference q h)) k2_X10_reference (ax_W_of _ k3_X10_reference k4_X10_reference) (by decide +kernel) kx_X10_reference
theorem k1_X10_clear : (at_X10_clear).all (fun q => decide (decode cX10_clear q.1 = .ok (q.2.1, q.2.2.1))) = true := by decide +kernel
theorem k2_X10_clear : ax_chks ax_T aD_X10_clear = true := by decide +kernel
theorem k3_X10_clear : ax_needs ax_T ax_n9 ax_j9 ax_m9 aD_X10_clear = [466, 271, 466, 484, 485, 486, 95, 462, 488, 489, 490, 89, 464, 492, 493, 494, 92, 483].filterMap (fun i => ax_big[i]?) := by decide +kernel
theorem k4_X10_clear : (ax_needs ax_T ax_n9 ax_j9 ax_m9 aD_X10_clear).all goodWord = true := by decide +kernel
theorem ok_X10_clear : ax_okM ax_Ss ax_T ax_n9 ax_j9 ax_m9 aD_X10_clear := ax_okM_of (fun q h => of_decide_eq_true (List.all_eq_true.mp k1_X10_clear q h)) k2_X10_clear (ax_W_of _ k3_X10_clear k4_X10_clear) (by decide +kernel) (fun pc q h => by cases h)
theorem k1_X10_write : (at_X10_write).all (fun q => decide (decode cX10_write q.1 = .ok (q.2.1, q.2.2.1))) = true := by decide +kernel
theorem k2_X10_write : ax_chks ax_T aD_X10_write = true := by decide +kernel
theorem k3_X10_write : ax_needs ax_T ax_n9 ax_j9 ax_m9 aD_X10_write = [464, 466, 462, 500, 501, 502, 92, 464, 185, 464, 188, 464, 189, 466, 462, 464, 463, 144, 609, 108, 608, 466, 464, 463, 147, 651, 108, 650, 466, 462, 464, 463, 150, 654, 108, 653, 463, 144, 656, 657, 658, 89, 463, 147, 656, 657, 658, 89, 463, 150, 656, 657, 658, 89, 499].filterMap (fun i => ax_big[i]?) := by decide +kernel
theorem k4_X10_write : (ax_needs ax_T ax_n9 ax_j9 ax_m9 aD_X10_write).all goodWord = true := by decide +kernel
theorem ok_X10_write : ax_okM ax_Ss ax_T ax_n9 ax_j9 ax_m9 aD_X10_write := ax_okM_of (fun q h => of_decide_eq_true (List.all_eq_true.mp k1_X10_write q h)) k2_X10_write (ax_W_of _ k3_X10_write k4_X10_write) (by decide +kernel) (fun pc q h => by cases h)
theorem k1_X10_size : (at_X10_size).all (fun q => decide (decode cX10_size q.1 = .ok (q.2.1, q.2.2.1))) = true := by decide +kernel
theorem k2_X10_size : ax_chks ax_T aD_X10_size = true := by decide +kernel
theorem k3_X10_size : ax_needs ax_T ax_n9 ax_j9 ax_m9 aD_X10_size = [1074, 1076, 32, 88, 463, 1079, 680, 681, 91, 656, 657, 658, 89, 1073].filterMap (fun i => ax_big[i]?) := by decide +kernel
theorem k4_X10_size : (ax_needs ax_T ax_n9 ax_j9 ax_m9 aD_X10_size).all goodWord = true := by decide +kernel
theorem ok_X10_size : ax_okM ax_Ss ax_T ax_n9 ax_j9 ax_m9 aD_X10_size := ax_okM_of (fun q h => of_decide_eq_true (List.all_eq_true.mp k1_X10_size q h)) k2_X10_size (ax_W_of _ k3_X10_size k4_X10_size) (by decide +kernel) (fun pc q h => by cases h)
theorem k1_X10_octet : (at_X10_octet).all (fun q => decide (decode cX10_octet q.1 = .ok (q.2.1, q.2.2.1))) = true := by decide +kernel
theorem k2_X10_octet : ax_chks ax_T aD_X10_octet = true := by decide +kernel
theorem k3_X10_octet : ax_needs ax_T ax_n9 ax_j9 ax_m9 aD_X10_octet = [1087, 1089, 33, 88, 463, 1079, 680, 681, 91, 1092, 574, 575, 89, 1086].filterMap (fun i => ax_big[i]?) := by decide +kernel
theorem k4_X10_octet : (ax_needs ax_T ax_n9 ax_j9 ax_m9 aD_X10_octet).all goodWord = true := by decide +kernel
theorem ok_X10_octet : ax_okM ax_Ss ax_T ax_n9 ax_j9 ax_m9 aD_X10_octet := ax_okM_of (fun q h => of_decide_eq_true (List.all_eq_true.mp k1_X10_octet q h)) k2_X10_octet (ax_W_of _ k3_X10_octet k4_X10_octet) (by decide +kernel) (fun pc q h => by cases h)
theorem k1_X10_load : (at_X10_load).all (fun q => decide (decode cX10_load q.1 = .ok (q.2.1, q.2.2.1))) = true := by decide +kernel
theorem k2_X10_load : ax_chks ax_T aD_X10_load = true := by decide +kernel
theorem k3_X10_load : ax_needs ax_T ax_n9 ax_j9 ax_m9 aD_X10_load = [1074, 1076, 32, 88, 463, 1079, 680, 681, 91, 461, 656, 657, 658, 89, 1100, 1101, 1102, 89, 488, 489, 490, 89, 461, 897, 646, 647, 89, 461, 488, 489, 490, 89, 1099].filterMap (fun i => ax_big[i]?) := by decide +kernel
theorem k4_X10_load : (ax_needs ax_T ax_n9 ax_j9 ax_m9 aD_X10_load).all goodWord = true := by decide +kernel
theorem kx_X10_load_30 : ax_okx ax_Ss aD_X10_load 30 ("java/lang/UnsupportedOperationException", "too many bytes for the section", 84, 200, 88, false) := ⟨by decide, by decide +kernel, rfl, by decide +kernel, by decide +kernel, ⟨by decide +kernel, by decide +kernel, by decide +kernel⟩, kt_2, kn_2⟩
theorem kx_X10_load : ∀ pc q, (ax_dx aD_X10_load).lookup pc = some q → ax_okx ax_Ss aD_X10_load pc q := by
  intro pc q h
  have hm := ax_lookup_mem h
  simp only [ax_dx, aD_X10_load, List.mem_cons, List.not_mem_nil, or_false, Prod.mk.injEq] at hm
  obtain ⟨rfl, rfl⟩ := hm
  exact kx_X10_load_30
theorem ok_X10_load : ax_okM ax_Ss ax_T ax_n9 ax_j9 ax_m9 aD_X10_load := ax_okM_of (fun q h => of_decide_eq_true (List.all_eq_true.mp k1_X10_load q h)) k2_X10_load (ax_W_of _ k3_X10_load k4_X10_load) (by decide +kernel) kx_X10_load
theorem k1_X10_alter : (at_X10_alter).all (fun q => decide (decode cX10_alter q.1 = .ok (q.2.1, q.2.2.1))) = true := by decide +kernel
theorem k2_X10_alter : ax_chks ax_T aD_X10_alter = true := by decide +kernel
theorem k3_X10_alter : ax_needs ax_T ax_n9 ax_j9 ax_m9 aD_X10_alter = [1087, 1089, 33, 88, 463, 1079, 680, 681, 91, 1112, 1113, 1114, 89, 1092, 574, 575, 89, 1111].filterMap (fun i => ax_big[i]?) := by decide +kernel
theorem k4_X10_alter : (ax_needs ax_T ax_n9 ax_j9 ax_m9 aD_X10_alter).all goodWord = true := by decide +kernel
theorem ok_X10_alter : ax_okM ax_Ss ax_T ax_n9 ax_j9 ax_m9 aD_X10_alter := ax_okM_of (fun q h => of_decide_eq_true (List.all_eq_true.mp k1_X10_alter q h)) k2_X10_alter (ax_W_of _ k3_X10_alter k4_X10_alter) (by decide +kernel) (fun pc q h => by cases h)
theorem k1_X10_read : (at_X10_read).all (fun q => decide (decode cX10_read q.1 = .ok (q.2.1, q.2.2.1))) = true := by decide +kernel
theorem k2_X10_read : ax_chks ax_T aD_X10_read = true := by decide +kernel
theorem k3_X10_read : ax_needs ax_T ax_n9 ax_j9 ax_m9 aD_X10_read = [465, 463, 665, 666, 667, 94, 465, 438, 378, 466, 465, 436, 466, 465, 436, 890, 892, 25, 88, 464, 492, 493, 494, 92, 466, 271, 664, 663].filterMap (fun i => ax_big[i]?) := by decide +kernel
theorem k4_X10_read : (ax_needs ax_T ax_n9 ax_j9 ax_m9 aD_X10_read).all goodWord = true := by decide +kernel
theorem ok_X10_read : ax_okM ax_Ss ax_T ax_n9 ax_j9 ax_m9 aD_X10_read := ax_okM_of (fun q h => of_decide_eq_true (List.all_eq_true.mp k1_X10_read q h)) k2_X10_read (ax_W_of _ k3_X10_read k4_X10_read) (by decide +kernel) (fun pc q h => by cases h)
theorem k1_X10_fault : (at_X10_fault).all (fun q => decide (decode cX10_fault q.1 = .ok (q.2.1, q.2.2.1))) = true := by decide +kernel
theorem k2_X10_fault : ax_chks ax_T aD_X10_fault = true := by decide +kernel
theorem k3_X10_fault : ax_needs ax_T ax_n9 ax_j9 ax_m9 aD_X10_fault = [465, 438, 374, 465, 438, 376, 1122].filterMap (fun i => ax_big[i]?) := by decide +kernel
theorem k4_X10_fault : (ax_needs ax_T ax_n9 ax_j9 ax_m9 aD_X10_fault).all goodWord = true := by decide +kernel
theorem kx_X10_fault_9 : ax_okx ax_Ss aD_X10_fault 9 ("java/lang/IndexOutOfBoundsException", "no such part of a fault", 222, 224, 226, false) := ⟨by decide, by decide +kernel, rfl, by decide +kernel, by decide +kernel, ⟨by decide +kernel, by decide +kernel, by decide +kernel⟩, kt_3, kn_3⟩
theorem kx_X10_fault : ∀ pc q, (ax_dx aD_X10_fault).lookup pc = some q → ax_okx ax_Ss aD_X10_fault pc q := by
  intro pc q h
  have hm := ax_lookup_mem h
  simp only [ax_dx, aD_X10_fault, List.mem_cons, List.not_mem_nil, or_false, Prod.mk.injEq] at hm
  obtain ⟨rfl, rfl⟩ := hm
  exact kx_X10_fault_9
theorem ok_X10_fault : ax_okM ax_Ss ax_T ax_n9 ax_j9 ax_m9 aD_X10_fault := ax_okM_of (fun q h => of_decide_eq_true (List.all_eq_true.mp k1_X10_fault q h)) k2_X10_fault (ax_W_of _ k3_X10_fault k4_X10_fault) (by decide +kernel) kx_X10_fault
theorem k1_X10_count : (at_X10_count).all (fun q => decide (decode cX10_count q.1 = .ok (q.2.1, q.2.2.1))) = true := by decide +kernel
theorem k2_X10_count : ax_chks ax_T aD_X10_count = true := by decide +kernel
theorem k3_X10_count : ax_needs ax_T ax_n9 ax_j9 ax_m9 aD_X10_count = [466, 271, 466, 268, 464, 466, 462, 500, 501, 502, 92, 464, 181, 464, 466, 462, 500, 501, 502, 92, 464, 184, 1130].filterMap (fun i => ax_big[i]?) := by decide +kernel
theorem k4_X10_count : (ax_needs ax_T ax_n9 ax_j9 ax_m9 aD_X10_count).all goodWord = true := by decide +kernel
theorem kx_X10_count_94 : ax_okx ax_Ss aD_X10_count 94 ("java/lang/IndexOutOfBoundsException", "no such count", 222, 237, 226, false) := ⟨by decide, by decide +kernel, rfl, by decide +kernel, by decide +kernel, ⟨by decide +kernel, by decide +kernel, by decide +kernel⟩, kt_3, kn_3⟩
theorem kx_X10_count : ∀ pc q, (ax_dx aD_X10_count).lookup pc = some q → ax_okx ax_Ss aD_X10_count pc q := by
  intro pc q h
  have hm := ax_lookup_mem h
  simp only [ax_dx, aD_X10_count, List.mem_cons, List.not_mem_nil, or_false, Prod.mk.injEq] at hm
  obtain ⟨rfl, rfl⟩ := hm
  exact kx_X10_count_94
theorem ok_X10_count : ax_okM ax_Ss ax_T ax_n9 ax_j9 ax_m9 aD_X10_count := ax_okM_of (fun q h => of_decide_eq_true (List.all_eq_true.mp k1_X10_count q h)) k2_X10_count (ax_W_of _ k3_X10_count k4_X10_count) (by decide +kernel) kx_X10_count
theorem k1_X10_about : (at_X10_about).all (fun q => decide (decode cX10_about q.1 = .ok (q.2.1, q.2.2.1))) = true := by decide +kernel
theorem k2_X10_about : ax_chks ax_T aD_X10_about = true := by decide +kernel
theorem k3_X10_about : ax_needs ax_T ax_n9 ax_j9 ax_m9 aD_X10_about = [996, 998, 28, 88, 466, 281, 466, 285, 466, 287, 466, 295, 466, 307, 464, 466, 462, 500, 501, 502, 92, 464, 204, 1138].filterMap (fun i => ax_big[i]?) := by decide +kernel
theorem k4_X10_about : (ax_needs ax_T ax_n9 ax_j9 ax_m9 aD_X10_about).all goodWord = true := by decide +kernel
theorem kx_X10_about_119 : ax_okx ax_Ss aD_X10_about 119 ("java/lang/IndexOutOfBoundsException", "nothing such about an entry", 222, 254, 226, false) := ⟨by decide, by decide +kernel, rfl, by decide +kernel, by decide +kernel, ⟨by decide +kernel, by decide +kernel, by decide +kernel⟩, kt_3, kn_3⟩
theorem kx_X10_about : ∀ pc q, (ax_dx aD_X10_about).lookup pc = some q → ax_okx ax_Ss aD_X10_about pc q := by
  intro pc q h
  have hm := ax_lookup_mem h
  simp only [ax_dx, aD_X10_about, List.mem_cons, List.not_mem_nil, or_false, Prod.mk.injEq] at hm
  obtain ⟨rfl, rfl⟩ := hm
  exact kx_X10_about_119
theorem ok_X10_about : ax_okM ax_Ss ax_T ax_n9 ax_j9 ax_m9 aD_X10_about := ax_okM_of (fun q h => of_decide_eq_true (List.all_eq_true.mp k1_X10_about q h)) k2_X10_about (ax_W_of _ k3_X10_about k4_X10_about) (by decide +kernel) kx_X10_about
theorem k1_X10_child : (at_X10_child).all (fun q => decide (decode cX10_child q.1 = .ok (q.2.1, q.2.2.1))) = true := by decide +kernel
theorem k2_X10_child : ax_chks ax_T aD_X10_child = true := by decide +kernel
theorem k3_X10_child : ax_needs ax_T ax_n9 ax_j9 ax_m9 aD_X10_child = [996, 998, 28, 88, 466, 295, 466, 1147, 1148, 1149, 95, 1146].filterMap (fun i => ax_big[i]?) := by decide +kernel
theorem k4_X10_child : (ax_needs ax_T ax_n9 ax_j9 ax_m9 aD_X10_child).all goodWord = true := by decide +kernel
theorem ok_X10_child : ax_okM ax_Ss ax_T ax_n9 ax_j9 ax_m9 aD_X10_child := ax_okM_of (fun q h => of_decide_eq_true (List.all_eq_true.mp k1_X10_child q h)) k2_X10_child (ax_W_of _ k3_X10_child k4_X10_child) (by decide +kernel) (fun pc q h => by cases h)
theorem k1_X10_root : (at_X10_root).all (fun q => decide (decode cX10_root q.1 = .ok (q.2.1, q.2.2.1))) = true := by decide +kernel
theorem k2_X10_root : ax_chks ax_T aD_X10_root = true := by decide +kernel
theorem k3_X10_root : ax_needs ax_T ax_n9 ax_j9 ax_m9 aD_X10_root = [466, 268, 466, 277, 1157].filterMap (fun i => ax_big[i]?) := by decide +kernel
theorem k4_X10_root : (ax_needs ax_T ax_n9 ax_j9 ax_m9 aD_X10_root).all goodWord = true := by decide +kernel
theorem kx_X10_root_15 : ax_okx ax_Ss aD_X10_root 15 ("java/lang/IndexOutOfBoundsException", "no such unit", 222, 259, 226, true) := ⟨by decide, by decide +kernel, rfl, by decide +kernel, by decide +kernel, ⟨by decide +kernel, by decide +kernel, by decide +kernel⟩, kt_3, kn_3⟩
theorem kx_X10_root : ∀ pc q, (ax_dx aD_X10_root).lookup pc = some q → ax_okx ax_Ss aD_X10_root pc q := by
  intro pc q h
  have hm := ax_lookup_mem h
  simp only [ax_dx, aD_X10_root, List.mem_cons, List.not_mem_nil, or_false, Prod.mk.injEq] at hm
  obtain ⟨rfl, rfl⟩ := hm
  exact kx_X10_root_15
theorem ok_X10_root : ax_okM ax_Ss ax_T ax_n9 ax_j9 ax_m9 aD_X10_root := ax_okM_of (fun q h => of_decide_eq_true (List.all_eq_true.mp k1_X10_root q h)) k2_X10_root (ax_W_of _ k3_X10_root k4_X10_root) (by decide +kernel) kx_X10_root
theorem k1_X10_attribute : (at_X10_attribute).all (fun q => decide (decode cX10_attribute q.1 = .ok (q.2.1, q.2.2.1))) = true := by decide +kernel
theorem k2_X10_attribute : ax_chks ax_T aD_X10_attribute = true := by decide +kernel
theorem k3_X10_attribute : ax_needs ax_T ax_n9 ax_j9 ax_m9 aD_X10_attribute = [1166, 1168, 34, 88, 466, 311, 466, 316, 466, 325, 1165].filterMap (fun i => ax_big[i]?) := by decide +kernel
theorem k4_X10_attribute : (ax_needs ax_T ax_n9 ax_j9 ax_m9 aD_X10_attribute).all goodWord = true := by decide +kernel
theorem kx_X10_attribute_69 : ax_okx ax_Ss aD_X10_attribute 69 ("java/lang/IndexOutOfBoundsException", "nothing such of an attribute", 222, 276, 226, true) := ⟨by decide, by decide +kernel, rfl, by decide +kernel, by decide +kernel, ⟨by decide +kernel, by decide +kernel, by decide +kernel⟩, kt_3, kn_3⟩
theorem kx_X10_attribute : ∀ pc q, (ax_dx aD_X10_attribute).lookup pc = some q → ax_okx ax_Ss aD_X10_attribute pc q := by
  intro pc q h
  have hm := ax_lookup_mem h
  simp only [ax_dx, aD_X10_attribute, List.mem_cons, List.not_mem_nil, or_false, Prod.mk.injEq] at hm
  obtain ⟨rfl, rfl⟩ := hm
  exact kx_X10_attribute_69
theorem ok_X10_attribute : ax_okM ax_Ss ax_T ax_n9 ax_j9 ax_m9 aD_X10_attribute := ax_okM_of (fun q h => of_decide_eq_true (List.all_eq_true.mp k1_X10_attribute q h)) k2_X10_attribute (ax_W_of _ k3_X10_attribute k4_X10_attribute) (by decide +kernel) kx_X10_attribute
theorem k1_X10_value : (at_X10_value).all (fun q => decide (decode cX10_value q.1 = .ok (q.2.1, q.2.2.1))) = true := by decide +kernel
theorem k2_X10_value : ax_chks ax_T aD_X10_value = true := by decide +kernel
theorem k3_X10_value : ax_needs ax_T ax_n9 ax_j9 ax_m9 aD_X10_value = [1166, 1168, 34, 88, 466, 316, 817, 106, 895, 466, 321, 1178].filterMap (fun i => ax_big[i]?) := by decide +kernel
theorem k4_X10_value : (ax_needs ax_T ax_n9 ax_j9 ax_m9 aD_X10_value).all goodWord = true := by decide +kernel
theorem ok_X10_value : ax_okM ax_Ss ax_T ax_n9 ax_j9 ax_m9 aD_X10_value := ax_okM_of (fun q h => of_decide_eq_true (List.all_eq_true.mp k1_X10_value q h)) k2_X10_value (ax_W_of _ k3_X10_value k4_X10_value) (by decide +kernel) (fun pc q h => by cases h)
theorem k1_X10_letter : (at_X10_letter).all (fun q => decide (decode cX10_letter q.1 = .ok (q.2.1, q.2.2.1))) = true := by decide +kernel
theorem k2_X10_letter : ax_chks ax_T aD_X10_letter = true := by decide +kernel
theorem k3_X10_letter : ax_needs ax_T ax_n9 ax_j9 ax_m9 aD_X10_letter = [1166, 1168, 34, 88, 466, 325, 462, 466, 896, 566, 567, 95, 1092, 574, 575, 89, 1185].filterMap (fun i => ax_big[i]?) := by decide +kernel
theorem k4_X10_letter : (ax_needs ax_T ax_n9 ax_j9 ax_m9 aD_X10_letter).all goodWord = true := by decide +kernel
theorem kx_X10_letter_26 : ax_okx ax_Ss aD_X10_letter 26 ("java/lang/IndexOutOfBoundsException", "no such byte of a text or block", 222, 285, 226, true) := ⟨by decide, by decide +kernel, rfl, by decide +kernel, by decide +kernel, ⟨by decide +kernel, by decide +kernel, by decide +kernel⟩, kt_3, kn_3⟩
theorem kx_X10_letter : ∀ pc q, (ax_dx aD_X10_letter).lookup pc = some q → ax_okx ax_Ss aD_X10_letter pc q := by
  intro pc q h
  have hm := ax_lookup_mem h
  simp only [ax_dx, aD_X10_letter, List.mem_cons, List.not_mem_nil, or_false, Prod.mk.injEq] at hm
  obtain ⟨rfl, rfl⟩ := hm
  exact kx_X10_letter_26
theorem ok_X10_letter : ax_okM ax_Ss ax_T ax_n9 ax_j9 ax_m9 aD_X10_letter := ax_okM_of (fun q h => of_decide_eq_true (List.all_eq_true.mp k1_X10_letter q h)) k2_X10_letter (ax_W_of _ k3_X10_letter k4_X10_letter) (by decide +kernel) kx_X10_letter
theorem k1_X10_find : (at_X10_find).all (fun q => decide (decode cX10_find q.1 = .ok (q.2.1, q.2.2.1))) = true := by decide +kernel
theorem k2_X10_find : ax_chks ax_T aD_X10_find = true := by decide +kernel
theorem k3_X10_find : ax_needs ax_T ax_n9 ax_j9 ax_m9 aD_X10_find = [996, 998, 28, 88, 1194, 1196, 35, 88, 1203, 1205, 37, 88, 461, 488, 489, 490, 89, 1193].filterMap (fun i => ax_big[i]?) := by decide +kernel
theorem k4_X10_find : (ax_needs ax_T ax_n9 ax_j9 ax_m9 aD_X10_find).all goodWord = true := by decide +kernel
theorem ok_X10_find : ax_okM ax_Ss ax_T ax_n9 ax_j9 ax_m9 aD_X10_find := ax_okM_of (fun q h => of_decide_eq_true (List.all_eq_true.mp k1_X10_find q h)) k2_X10_find (ax_W_of _ k3_X10_find k4_X10_find) (by decide +kernel) (fun pc q h => by cases h)
theorem k1_X10_covers : (at_X10_covers).all (fun q => decide (decode cX10_covers q.1 = .ok (q.2.1, q.2.2.1))) = true := by decide +kernel
theorem k2_X10_covers : ax_chks ax_T aD_X10_covers = true := by decide +kernel
theorem k3_X10_covers : ax_needs ax_T ax_n9 ax_j9 ax_m9 aD_X10_covers = [466, 271, 466, 290, 466, 290, 902, 904, 26, 88, 901].filterMap (fun i => ax_big[i]?) := by decide +kernel
theorem k4_X10_covers : (ax_needs ax_T ax_n9 ax_j9 ax_m9 aD_X10_covers).all goodWord = true := by decide +kernel
theorem ok_X10_covers : ax_okM ax_Ss ax_T ax_n9 ax_j9 ax_m9 aD_X10_covers := ax_okM_of (fun q h => of_decide_eq_true (List.all_eq_true.mp k1_X10_covers q h)) k2_X10_covers (ax_W_of _ k3_X10_covers k4_X10_covers) (by decide +kernel) (fun pc q h => by cases h)
theorem k1_X10_needEntry : (at_X10_needEntry).all (fun q => decide (decode cX10_needEntry q.1 = .ok (q.2.1, q.2.2.1))) = true := by decide +kernel
theorem k2_X10_needEntry : ax_chks ax_T aD_X10_needEntry = true := by decide +kernel
theorem k3_X10_needEntry : ax_needs ax_T ax_n9 ax_j9 ax_m9 aD_X10_needEntry = [466, 271, 999].filterMap (fun i => ax_big[i]?) := by decide +kernel
theorem k4_X10_needEntry : (ax_needs ax_T ax_n9 ax_j9 ax_m9 aD_X10_needEntry).all goodWord = true := by decide +kernel
theorem kx_X10_needEntry_15 : ax_okx ax_Ss aD_X10_needEntry 15 ("java/lang/IndexOutOfBoundsException", "no such entry", 222, 299, 226, true) := ⟨by decide, by decide +kernel, rfl, by decide +kernel, by decide +kernel, ⟨by decide +kernel, by decide +kernel, by decide +kernel⟩, kt_3, kn_3⟩
theorem kx_X10_needEntry : ∀ pc q, (ax_dx aD_X10_needEntry).lookup pc = some q → ax_okx ax_Ss aD_X10_needEntry pc q := by
  intro pc q h
  have hm := ax_lookup_mem h
  simp only [ax_dx, aD_X10_needEntry, List.mem_cons, List.not_mem_nil, or_false, Prod.mk.injEq] at hm
  obtain ⟨rfl, rfl⟩ := hm
  exact kx_X10_needEntry_15
theorem ok_X10_needEntry : ax_okM ax_Ss ax_T ax_n9 ax_j9 ax_m9 aD_X10_needEntry := ax_okM_of (fun q h => of_decide_eq_true (List.all_eq_true.mp k1_X10_needEntry q h)) k2_X10_needEntry (ax_W_of _ k3_X10_needEntry k4_X10_needEntry) (by decide +kernel) kx_X10_needEntry
theorem k1_X10_needCode : (at_X10_needCode).all (fun q => decide (decode cX10_needCode q.1 = .ok (q.2.1, q.2.2.1))) = true := by decide +kernel
theorem k2_X10_needCode : ax_chks ax_T aD_X10_needCode = true := by decide +kernel
theorem k3_X10_needCode : ax_needs ax_T ax_n9 ax_j9 ax_m9 aD_X10_needCode = [798, 88, 969, 968].filterMap (fun i => ax_big[i]?) := by decide +kernel
theorem k4_X10_needCode : (ax_needs ax_T ax_n9 ax_j9 ax_m9 aD_X10_needCode).all goodWord = true := by decide +kernel
theorem kx_X10_needCode_7 : ax_okx ax_Ss aD_X10_needCode 7 ("java/lang/IllegalArgumentException", "no tag or name", 66, 304, 70, true) := ⟨by decide, by decide +kernel, rfl, by decide +kernel, by decide +kernel, ⟨by decide +kernel, by decide +kernel, by decide +kernel⟩, kt_1, kn_1⟩
theorem kx_X10_needCode : ∀ pc q, (ax_dx aD_X10_needCode).lookup pc = some q → ax_okx ax_Ss aD_X10_needCode pc q := by
  intro pc q h
  have hm := ax_lookup_mem h
  simp only [ax_dx, aD_X10_needCode, List.mem_cons, List.not_mem_nil, or_false, Prod.mk.injEq] at hm
  obtain ⟨rfl, rfl⟩ := hm
  exact kx_X10_needCode_7
theorem ok_X10_needCode : ax_okM ax_Ss ax_T ax_n9 ax_j9 ax_m9 aD_X10_needCode := ax_okM_of (fun q h => of_decide_eq_true (List.all_eq_true.mp k1_X10_needCode q h)) k2_X10_needCode (ax_W_of _ k3_X10_needCode k4_X10_needCode) (by decide +kernel) kx_X10_needCode
theorem k1_X10_needNewName : (at_X10_needNewName).all (fun q => decide (decode cX10_needNewName q.1 = .ok (q.2.1, q.2.2.1))) = true := by decide +kernel
theorem k2_X10_needNewName : ax_chks ax_T aD_X10_needNewName = true := by decide +kernel
theorem k3_X10_needNewName : ax_needs ax_T ax_n9 ax_j9 ax_m9 aD_X10_needNewName = [965, 967, 27, 88, 466, 906, 907, 908, 95, 1028].filterMap (fun i => ax_big[i]?) := by decide +kernel
theorem k4_X10_needNewName : (ax_needs ax_T ax_n9 ax_j9 ax_m9 aD_X10_needNewName).all goodWord = true := by decide +kernel
theorem kx_X10_needNewName_18 : ax_okx ax_Ss aD_X10_needNewName 18 ("java/lang/IllegalArgumentException", "the name is told", 66, 309, 70, true) := ⟨by decide, by decide +kernel, rfl, by decide +kernel, by decide +kernel, ⟨by decide +kernel, by decide +kernel, by decide +kernel⟩, kt_1, kn_1⟩
theorem kx_X10_needNewName : ∀ pc q, (ax_dx aD_X10_needNewName).lookup pc = some q → ax_okx ax_Ss aD_X10_needNewName pc q := by
  intro pc q h
  have hm := ax_lookup_mem h
  simp only [ax_dx, aD_X10_needNewName, List.mem_cons, List.not_mem_nil, or_false, Prod.mk.injEq] at hm
  obtain ⟨rfl, rfl⟩ := hm
  exact kx_X10_needNewName_18
theorem ok_X10_needNewName : ax_okM ax_Ss ax_T ax_n9 ax_j9 ax_m9 aD_X10_needNewName := ax_okM_of (fun q h => of_decide_eq_true (List.all_eq_true.mp k1_X10_needNewName q h)) k2_X10_needNewName (ax_W_of _ k3_X10_needNewName k4_X10_needNewName) (by decide +kernel) kx_X10_needNewName
theorem k1_X10_needLetters : (at_X10_needLetters).all (fun q => decide (decode cX10_needLetters q.1 = .ok (q.2.1, q.2.2.1))) = true := by decide +kernel
theorem k2_X10_needLetters : ax_chks ax_T aD_X10_needLetters = true := by decide +kernel
theorem k3_X10_needLetters : ax_needs ax_T ax_n9 ax_j9 ax_m9 aD_X10_needLetters = [817, 106, 895, 461, 656, 657, 658, 89, 820, 106, 1054, 461, 461, 656, 657, 658, 89, 1055, 859, 860, 89, 1053].filterMap (fun i => ax_big[i]?) := by decide +kernel
theorem k4_X10_needLetters : (ax_needs ax_T ax_n9 ax_j9 ax_m9 aD_X10_needLetters).all goodWord = true := by decide +kernel
theorem kx_X10_needLetters_56 : ax_okx ax_Ss aD_X10_needLetters 56 ("java/lang/IllegalArgumentException", "no such text or block", 66, 317, 70, true) := ⟨by decide, by decide +kernel, rfl, by decide +kernel, by decide +kernel, ⟨by decide +kernel, by decide +kernel, by decide +kernel⟩, kt_1, kn_1⟩
theorem kx_X10_needLetters : ∀ pc q, (ax_dx aD_X10_needLetters).lookup pc = some q → ax_okx ax_Ss aD_X10_needLetters pc q := by
  intro pc q h
  have hm := ax_lookup_mem h
  simp only [ax_dx, aD_X10_needLetters, List.mem_cons, List.not_mem_nil, or_false, Prod.mk.injEq] at hm
  obtain ⟨rfl, rfl⟩ := hm
  exact kx_X10_needLetters_56
theorem ok_X10_needLetters : ax_okM ax_Ss ax_T ax_n9 ax_j9 ax_m9 aD_X10_needLetters := ax_okM_of (fun q h => of_decide_eq_true (List.all_eq_true.mp k1_X10_needLetters q h)) k2_X10_needLetters (ax_W_of _ k3_X10_needLetters k4_X10_needLetters) (by decide +kernel) kx_X10_needLetters
theorem k1_X10_needRoom : (at_X10_needRoom).all (fun q => decide (decode cX10_needRoom q.1 = .ok (q.2.1, q.2.2.1))) = true := by decide +kernel
theorem k2_X10_needRoom : ax_chks ax_T aD_X10_needRoom = true := by decide +kernel
theorem k3_X10_needRoom : ax_needs ax_T ax_n9 ax_j9 ax_m9 aD_X10_needRoom = [466, 307, 462, 923, 924, 925, 89, 1040].filterMap (fun i => ax_big[i]?) := by decide +kernel
theorem k4_X10_needRoom : (ax_needs ax_T ax_n9 ax_j9 ax_m9 aD_X10_needRoom).all goodWord = true := by decide +kernel
theorem kx_X10_needRoom_25 : ax_okx ax_Ss aD_X10_needRoom 25 ("java/lang/UnsupportedOperationException", "no room for an attribute", 84, 319, 88, true) := ⟨by decide, by decide +kernel, rfl, by decide +kernel, by decide +kernel, ⟨by decide +kernel, by decide +kernel, by decide +kernel⟩, kt_2, kn_2⟩
theorem kx_X10_needRoom : ∀ pc q, (ax_dx aD_X10_needRoom).lookup pc = some q → ax_okx ax_Ss aD_X10_needRoom pc q := by
  intro pc q h
  have hm := ax_lookup_mem h
  simp only [ax_dx, aD_X10_needRoom, List.mem_cons, List.not_mem_nil, or_false, Prod.mk.injEq] at hm
  obtain ⟨rfl, rfl⟩ := hm
  exact kx_X10_needRoom_25
theorem ok_X10_needRoom : ax_okM ax_Ss ax_T ax_n9 ax_j9 ax_m9 aD_X10_needRoom := ax_okM_of (fun q h => of_decide_eq_true (List.all_eq_true.mp k1_X10_needRoom q h)) k2_X10_needRoom (ax_W_of _ k3_X10_needRoom k4_X10_needRoom) (by decide +kernel) kx_X10_needRoom
theorem k1_X10_needSection : (at_X10_needSection).all (fun q => decide (decode cX10_needSection q.1 = .ok (q.2.1, q.2.2.1))) = true := by decide +kernel
theorem k2_X10_needSection : ax_chks ax_T aD_X10_needSection = true := by decide +kernel
theorem k3_X10_needSection : ax_needs ax_T ax_n9 ax_j9 ax_m9 aD_X10_needSection = [1077].filterMap (fun i => ax_big[i]?) := by decide +kernel
theorem k4_X10_needSection : (ax_needs ax_T ax_n9 ax_j9 ax_m9 aD_X10_needSection).all goodWord = true := by decide +kernel
theorem kx_X10_needSection_9 : ax_okx ax_Ss aD_X10_needSection 9 ("java/lang/IndexOutOfBoundsException", "no such section", 222, 321, 226, true) := ⟨by decide, by decide +kernel, rfl, by decide +kernel, by decide +kernel, ⟨by decide +kernel, by decide +kernel, by decide +kernel⟩, kt_3, kn_3⟩
theorem kx_X10_needSection : ∀ pc q, (ax_dx aD_X10_needSection).lookup pc = some q → ax_okx ax_Ss aD_X10_needSection pc q := by
  intro pc q h
  have hm := ax_lookup_mem h
  simp only [ax_dx, aD_X10_needSection, List.mem_cons, List.not_mem_nil, or_false, Prod.mk.injEq] at hm
  obtain ⟨rfl, rfl⟩ := hm
  exact kx_X10_needSection_9
theorem ok_X10_needSection : ax_okM ax_Ss ax_T ax_n9 ax_j9 ax_m9 aD_X10_needSection := ax_okM_of (fun q h => of_decide_eq_true (List.all_eq_true.mp k1_X10_needSection q h)) k2_X10_needSection (ax_W_of _ k3_X10_needSection k4_X10_needSection) (by decide +kernel) kx_X10_needSection
theorem k1_X10_needByte : (at_X10_needByte).all (fun q => decide (decode cX10_needByte q.1 = .ok (q.2.1, q.2.2.1))) = true := by decide +kernel
theorem k2_X10_needByte : ax_chks ax_T aD_X10_needByte = true := by decide +kernel
theorem k3_X10_needByte : ax_needs ax_T ax_n9 ax_j9 ax_m9 aD_X10_needByte = [1074, 1076, 32, 88, 463, 1079, 680, 681, 91, 656, 657, 658, 89, 1090].filterMap (fun i => ax_big[i]?) := by decide +kernel
theorem k4_X10_needByte : (ax_needs ax_T ax_n9 ax_j9 ax_m9 aD_X10_needByte).all goodWord = true := by decide +kernel
theorem kx_X10_needByte_24 : ax_okx ax_Ss aD_X10_needByte 24 ("java/lang/IndexOutOfBoundsException", "no such byte of a section", 222, 323, 226, true) := ⟨by decide, by decide +kernel, rfl, by decide +kernel, by decide +kernel, ⟨by decide +kernel, by decide +kernel, by decide +kernel⟩, kt_3, kn_3⟩
theorem kx_X10_needByte : ∀ pc q, (ax_dx aD_X10_needByte).lookup pc = some q → ax_okx ax_Ss aD_X10_needByte pc q := by
  intro pc q h
  have hm := ax_lookup_mem h
  simp only [ax_dx, aD_X10_needByte, List.mem_cons, List.not_mem_nil, or_false, Prod.mk.injEq] at hm
  obtain ⟨rfl, rfl⟩ := hm
  exact kx_X10_needByte_24
theorem ok_X10_needByte : ax_okM ax_Ss ax_T ax_n9 ax_j9 ax_m9 aD_X10_needByte := ax_okM_of (fun q h => of_decide_eq_true (List.all_eq_true.mp k1_X10_needByte q h)) k2_X10_needByte (ax_W_of _ k3_X10_needByte k4_X10_needByte) (by decide +kernel) kx_X10_needByte
theorem k1_X10_neededSlot : (at_X10_neededSlot).all (fun q => decide (decode cX10_neededSlot q.1 = .ok (q.2.1, q.2.2.1))) = true := by decide +kernel
theorem k2_X10_neededSlot : ax_chks ax_T aD_X10_neededSlot = true := by decide +kernel
theorem k3_X10_neededSlot : ax_needs ax_T ax_n9 ax_j9 ax_m9 aD_X10_neededSlot = [996, 998, 28, 88, 466, 307, 527, 95, 894, 1169].filterMap (fun i => ax_big[i]?) := by decide +kernel
theorem k4_X10_neededSlot : (ax_needs ax_T ax_n9 ax_j9 ax_m9 aD_X10_neededSlot).all goodWord = true := by decide +kernel
theorem kx_X10_neededSlot_22 : ax_okx ax_Ss aD_X10_neededSlot 22 ("java/lang/IndexOutOfBoundsException", "no such attribute", 222, 325, 226, true) := ⟨by decide, by decide +kernel, rfl, by decide +kernel, by decide +kernel, ⟨by decide +kernel, by decide +kernel, by decide +kernel⟩, kt_3, kn_3⟩
theorem kx_X10_neededSlot : ∀ pc q, (ax_dx aD_X10_neededSlot).lookup pc = some q → ax_okx ax_Ss aD_X10_neededSlot pc q := by
  intro pc q h
  have hm := ax_lookup_mem h
  simp only [ax_dx, aD_X10_neededSlot, List.mem_cons, List.not_mem_nil, or_false, Prod.mk.injEq] at hm
  obtain ⟨rfl, rfl⟩ := hm
  exact kx_X10_neededSlot_22
theorem ok_X10_neededSlot : ax_okM ax_Ss ax_T ax_n9 ax_j9 ax_m9 aD_X10_neededSlot := ax_okM_of (fun q h => of_decide_eq_true (List.all_eq_true.mp k1_X10_neededSlot q h)) k2_X10_neededSlot (ax_W_of _ k3_X10_neededSlot k4_X10_neededSlot) (by decide +kernel) kx_X10_neededSlot
theorem k1_X10_keepLetters : (at_X10_keepLetters).all (fun q => decide (decode cX10_keepLetters q.1 = .ok (q.2.1, q.2.2.1))) = true := by decide +kernel
theorem k2_X10_keepLetters : ax_chks ax_T aD_X10_keepLetters = true := by decide +kernel
theorem k3_X10_keepLetters : ax_needs ax_T ax_n9 ax_j9 ax_m9 aD_X10_keepLetters = [462, 488, 489, 490, 89, 466, 271, 466, 307, 527, 95, 894, 466, 316, 817, 106, 895, 466, 316, 463, 150, 463, 144, 462, 656, 657, 658, 89, 462, 466, 896, 566, 567, 95, 466, 325, 897, 646, 647, 89, 466, 321, 893].filterMap (fun i => ax_big[i]?) := by decide +kernel
theorem k4_X10_keepLetters : (ax_needs ax_T ax_n9 ax_j9 ax_m9 aD_X10_keepLetters).all goodWord = true := by decide +kernel
theorem ok_X10_keepLetters : ax_okM ax_Ss ax_T ax_n9 ax_j9 ax_m9 aD_X10_keepLetters := ax_okM_of (fun q h => of_decide_eq_true (List.all_eq_true.mp k1_X10_keepLetters q h)) k2_X10_keepLetters (ax_W_of _ k3_X10_keepLetters k4_X10_keepLetters) (by decide +kernel) (fun pc q h => by cases h)
theorem k1_X10_rootNamedByTape : (at_X10_rootNamedByTape).all (fun q => decide (decode cX10_rootNamedByTape q.1 = .ok (q.2.1, q.2.2.1))) = true := by decide +kernel
theorem k2_X10_rootNamedByTape : ax_chks ax_T aD_X10_rootNamedByTape = true := by decide +kernel
theorem k3_X10_rootNamedByTape : ax_needs ax_T ax_n9 ax_j9 ax_m9 aD_X10_rootNamedByTape = [466, 268, 466, 277, 1198, 1200, 36, 88, 466, 277, 1197].filterMap (fun i => ax_big[i]?) := by decide +kernel
theorem k4_X10_rootNamedByTape : (ax_needs ax_T ax_n9 ax_j9 ax_m9 aD_X10_rootNamedByTape).all goodWord = true := by decide +kernel
theorem ok_X10_rootNamedByTape : ax_okM ax_Ss ax_T ax_n9 ax_j9 ax_m9 aD_X10_rootNamedByTape := ax_okM_of (fun q h => of_decide_eq_true (List.all_eq_true.mp k1_X10_rootNamedByTape q h)) k2_X10_rootNamedByTape (ax_W_of _ k3_X10_rootNamedByTape k4_X10_rootNamedByTape) (by decide +kernel) (fun pc q h => by cases h)
theorem k1_X10_childNamedByTape : (at_X10_childNamedByTape).all (fun q => decide (decode cX10_childNamedByTape q.1 = .ok (q.2.1, q.2.2.1))) = true := by decide +kernel
theorem k2_X10_childNamedByTape : ax_chks ax_T aD_X10_childNamedByTape = true := by decide +kernel
theorem k3_X10_childNamedByTape : ax_needs ax_T ax_n9 ax_j9 ax_m9 aD_X10_childNamedByTape = [466, 298, 466, 295, 1198, 1200, 36, 88, 466, 302, 1206].filterMap (fun i => ax_big[i]?) := by decide +kernel
theorem k4_X10_childNamedByTape : (ax_needs ax_T ax_n9 ax_j9 ax_m9 aD_X10_childNamedByTape).all goodWord = true := by decide +kernel
theorem ok_X10_childNamedByTape : ax_okM ax_Ss ax_T ax_n9 ax_j9 ax_m9 aD_X10_childNamedByTape := ax_okM_of (fun q h => of_decide_eq_true (List.all_eq_true.mp k1_X10_childNamedByTape q h)) k2_X10_childNamedByTape (ax_W_of _ k3_X10_childNamedByTape k4_X10_childNamedByTape) (by decide +kernel) (fun pc q h => by cases h)
theorem k1_X10_isNamedByTape : (at_X10_isNamedByTape).all (fun q => decide (decode cX10_isNamedByTape q.1 = .ok (q.2.1, q.2.2.1))) = true := by decide +kernel
theorem k2_X10_isNamedByTape : ax_chks ax_T aD_X10_isNamedByTape = true := by decide +kernel
theorem k3_X10_isNamedByTape : ax_needs ax_T ax_n9 ax_j9 ax_m9 aD_X10_isNamedByTape = [466, 906, 907, 908, 95, 466, 316, 820, 106, 1054, 466, 325, 461, 656, 657, 658, 89, 462, 466, 896, 566, 567, 95, 461, 461, 656, 657, 658, 89, 1202, 582, 583, 89, 1201].filterMap (fun i => ax_big[i]?) := by decide +kernel
theorem k4_X10_isNamedByTape : (ax_needs ax_T ax_n9 ax_j9 ax_m9 aD_X10_isNamedByTape).all goodWord = true := by decide +kernel
theorem ok_X10_isNamedByTape : ax_okM ax_Ss ax_T ax_n9 ax_j9 ax_m9 aD_X10_isNamedByTape := ax_okM_of (fun q h => of_decide_eq_true (List.all_eq_true.mp k1_X10_isNamedByTape q h)) k2_X10_isNamedByTape (ax_W_of _ k3_X10_isNamedByTape k4_X10_isNamedByTape) (by decide +kernel) (fun pc q h => by cases h)
theorem k1_X10_coversAddress : (at_X10_coversAddress).all (fun q => decide (decode cX10_coversAddress q.1 = .ok (q.2.1, q.2.2.1))) = true := by decide +kernel
theorem k2_X10_coversAddress : ax_chks ax_T aD_X10_coversAddress = true := by decide +kernel
theorem k3_X10_coversAddress : ax_needs ax_T ax_n9 ax_j9 ax_m9 aD_X10_coversAddress = [466, 906, 907, 908, 95, 466, 906, 907, 908, 95, 466, 316, 814, 106, 910, 466, 316, 814, 106, 910, 466, 321, 912, 88, 911, 466, 321, 912, 88, 911, 905].filterMap (fun i => ax_big[i]?) := by decide +kernel
theorem k4_X10_coversAddress : (ax_needs ax_T ax_n9 ax_j9 ax_m9 aD_X10_coversAddress).all goodWord = true := by decide +kernel
theorem ok_X10_coversAddress : ax_okM ax_Ss ax_T ax_n9 ax_j9 ax_m9 aD_X10_coversAddress := ax_okM_of (fun q h => of_decide_eq_true (List.all_eq_true.mp k1_X10_coversAddress q h)) k2_X10_coversAddress (ax_W_of _ k3_X10_coversAddress k4_X10_coversAddress) (by decide +kernel) (fun pc q h => by cases h)
theorem k1_X10_isBelow : (at_X10_isBelow).all (fun q => decide (decode cX10_isBelow q.1 = .ok (q.2.1, q.2.2.1))) = true := by decide +kernel
theorem k2_X10_isBelow : ax_chks ax_T aD_X10_isBelow = true := by decide +kernel
theorem k3_X10_isBelow : ax_needs ax_T ax_n9 ax_j9 ax_m9 aD_X10_isBelow = [914, 914, 913].filterMap (fun i => ax_big[i]?) := by decide +kernel
theorem k4_X10_isBelow : (ax_needs ax_T ax_n9 ax_j9 ax_m9 aD_X10_isBelow).all goodWord = true := by decide +kernel
theorem ok_X10_isBelow : ax_okM ax_Ss ax_T ax_n9 ax_j9 ax_m9 aD_X10_isBelow := ax_okM_of (fun q h => of_decide_eq_true (List.all_eq_true.mp k1_X10_isBelow q h)) k2_X10_isBelow (ax_W_of _ k3_X10_isBelow k4_X10_isBelow) (by decide +kernel) (fun pc q h => by cases h)
theorem k1_X10_isCode : (at_X10_isCode).all (fun q => decide (decode cX10_isCode q.1 = .ok (q.2.1, q.2.2.1))) = true := by decide +kernel
theorem k2_X10_isCode : ax_chks ax_T aD_X10_isCode = true := by decide +kernel
theorem k3_X10_isCode : ax_needs ax_T ax_n9 ax_j9 ax_m9 aD_X10_isCode = [799].filterMap (fun i => ax_big[i]?) := by decide +kernel
theorem k4_X10_isCode : (ax_needs ax_T ax_n9 ax_j9 ax_m9 aD_X10_isCode).all goodWord = true := by decide +kernel
theorem ok_X10_isCode : ax_okM ax_Ss ax_T ax_n9 ax_j9 ax_m9 aD_X10_isCode := ax_okM_of (fun q h => of_decide_eq_true (List.all_eq_true.mp k1_X10_isCode q h)) k2_X10_isCode (ax_W_of _ k3_X10_isCode k4_X10_isCode) (by decide +kernel) (fun pc q h => by cases h)
end
end
section
section
theorem ax_alln {α : Type} {l : List α} {f : α → Bool} (m : Nat) (h : ∀ i, i < m → ((l.drop (100 * i)).take 100).all f = true) (hl : l.length ≤ 100 * m) : l.all f = true := by
  have g : ∀ m, (∀ i, i < m → ((l.drop (100 * i)).take 100).all f = true) → (l.take (100 * m)).all f = true := by
    intro m
    induction m with
    | zero => intro _; rfl
    | succ n ih =>
      intro h
      rw [show 100 * (n + 1) = 100 * n + 100 by omega, List.take_add, List.all_append, ih (fun i hi => h i (by omega)), h n (by omega)]
      rfl
  have := g m h
  rwa [List.take_of_length_le hl] at this
theorem k1_X11_init_0 : (((at_X11_init).drop 0).take 100).all (fun q => decide (decode cX11_init q.1 = .ok (q.2.1, q.2.2.1))) = true := by decide +kernel
theorem k1_X11_init_1 : (((at_X11_init).drop 100).take 100).all (fun q => decide (decode cX11_init q.1 = .ok (q.2.1, q.2.2.1))) = true := by decide +kernel
theorem k1_X11_init : (at_X11_init).all (fun q => decide (decode cX11_init q.1 = .ok (q.2.1, q.2.2.1))) = true := ax_alln 2 (fun i hi => match i, hi with | 0, _ => k1_X11_init_0 | 1, _ => k1_X11_init_1 | n + 2, h => absurd h (by omega)) (by decide +kernel)
theorem k2_X11_init : ax_chks ax_T aD_X11_init = true := by decide +kernel
theorem k3_X11_init : ax_needs ax_T ax_n9 ax_j9 ax_m9 aD_X11_init = [1212, 115, 116, 133, 1216, 178, 1219, 178, 1220, 178, 1221, 178, 1222, 178, 1223, 178, 1224, 178, 1225, 178, 1226, 178, 1227, 359, 1228, 178, 1229, 178, 1230, 178, 1231, 178, 1232, 1213, 133, 1233, 1214, 133, 1234, 178, 1235, 178, 1239, 178, 1240, 178, 1242, 178, 1243, 178, 1245, 178, 1246, 178, 1248, 178, 1249, 178, 1250, 178, 1259, 178, 1260, 434, 1261, 178, 1262, 178, 1263, 178, 1264, 178, 1265, 178, 1266, 1211].filterMap (fun i => ax_big[i]?) := by decide +kernel
theorem k4_X11_init : (ax_needs ax_T ax_n9 ax_j9 ax_m9 aD_X11_init).all goodWord = true := by decide +kernel
theorem ok_X11_init : ax_okM ax_Ss ax_T ax_n9 ax_j9 ax_m9 aD_X11_init := ax_okM_of (fun q h => of_decide_eq_true (List.all_eq_true.mp k1_X11_init q h)) k2_X11_init (ax_W_of _ k3_X11_init k4_X11_init) (by decide +kernel) (fun pc q h => by cases h)
theorem k1_X11_thrown : (at_X11_thrown).all (fun q => decide (decode cX11_thrown q.1 = .ok (q.2.1, q.2.2.1))) = true := by decide +kernel
theorem k2_X11_thrown : ax_chks ax_T aD_X11_thrown = true := by decide +kernel
theorem k3_X11_thrown : ax_needs ax_T ax_n9 ax_j9 ax_m9 aD_X11_thrown = [1215, 1384].filterMap (fun i => ax_big[i]?) := by decide +kernel
theorem k4_X11_thrown : (ax_needs ax_T ax_n9 ax_j9 ax_m9 aD_X11_thrown).all goodWord = true := by decide +kernel
theorem ok_X11_thrown : ax_okM ax_Ss ax_T ax_n9 ax_j9 ax_m9 aD_X11_thrown := ax_okM_of (fun q h => of_decide_eq_true (List.all_eq_true.mp k1_X11_thrown q h)) k2_X11_thrown (ax_W_of _ k3_X11_thrown k4_X11_thrown) (by decide +kernel) (fun pc q h => by cases h)
theorem k1_X11_in : (at_X11_in).all (fun q => decide (decode cX11_in q.1 = .ok (q.2.1, q.2.2.1))) = true := by decide +kernel
theorem k2_X11_in : ax_chks ax_T aD_X11_in = true := by decide +kernel
theorem k3_X11_in : ax_needs ax_T ax_n9 ax_j9 ax_m9 aD_X11_in = [1399].filterMap (fun i => ax_big[i]?) := by decide +kernel
theorem k4_X11_in : (ax_needs ax_T ax_n9 ax_j9 ax_m9 aD_X11_in).all goodWord = true := by decide +kernel
theorem ok_X11_in : ax_okM ax_Ss ax_T ax_n9 ax_j9 ax_m9 aD_X11_in := ax_okM_of (fun q h => of_decide_eq_true (List.all_eq_true.mp k1_X11_in q h)) k2_X11_in (ax_W_of _ k3_X11_in k4_X11_in) (by decide +kernel) (fun pc q h => by cases h)
theorem k1_X11_goes : (at_X11_goes).all (fun q => decide (decode cX11_goes q.1 = .ok (q.2.1, q.2.2.1))) = true := by decide +kernel
theorem k2_X11_goes : ax_chks ax_T aD_X11_goes = true := by decide +kernel
theorem k3_X11_goes : ax_needs ax_T ax_n9 ax_j9 ax_m9 aD_X11_goes = [1215, 1392].filterMap (fun i => ax_big[i]?) := by decide +kernel
theorem k4_X11_goes : (ax_needs ax_T ax_n9 ax_j9 ax_m9 aD_X11_goes).all goodWord = true := by decide +kernel
theorem ok_X11_goes : ax_okM ax_Ss ax_T ax_n9 ax_j9 ax_m9 aD_X11_goes := ax_okM_of (fun q h => of_decide_eq_true (List.all_eq_true.mp k1_X11_goes q h)) k2_X11_goes (ax_W_of _ k3_X11_goes k4_X11_goes) (by decide +kernel) (fun pc q h => by cases h)
theorem k1_X11_from : (at_X11_from).all (fun q => decide (decode cX11_from q.1 = .ok (q.2.1, q.2.2.1))) = true := by decide +kernel
theorem k2_X11_from : ax_chks ax_T aD_X11_from = true := by decide +kernel
theorem k3_X11_from : ax_needs ax_T ax_n9 ax_j9 ax_m9 aD_X11_from = [1543].filterMap (fun i => ax_big[i]?) := by decide +kernel
theorem k4_X11_from : (ax_needs ax_T ax_n9 ax_j9 ax_m9 aD_X11_from).all goodWord = true := by decide +kernel
theorem ok_X11_from : ax_okM ax_Ss ax_T ax_n9 ax_j9 ax_m9 aD_X11_from := ax_okM_of (fun q h => of_decide_eq_true (List.all_eq_true.mp k1_X11_from q h)) k2_X11_from (ax_W_of _ k3_X11_from k4_X11_from) (by decide +kernel) (fun pc q h => by cases h)
theorem k1_X11_most : (at_X11_most).all (fun q => decide (decode cX11_most q.1 = .ok (q.2.1, q.2.2.1))) = true := by decide +kernel
theorem k2_X11_most : ax_chks ax_T aD_X11_most = true := by decide +kernel
theorem k3_X11_most : ax_needs ax_T ax_n9 ax_j9 ax_m9 aD_X11_most = [1540].filterMap (fun i => ax_big[i]?) := by decide +kernel
theorem k4_X11_most : (ax_needs ax_T ax_n9 ax_j9 ax_m9 aD_X11_most).all goodWord = true := by decide +kernel
theorem ok_X11_most : ax_okM ax_Ss ax_T ax_n9 ax_j9 ax_m9 aD_X11_most := ax_okM_of (fun q h => of_decide_eq_true (List.all_eq_true.mp k1_X11_most q h)) k2_X11_most (ax_W_of _ k3_X11_most k4_X11_most) (by decide +kernel) (fun pc q h => by cases h)
theorem k1_X11_feed : (at_X11_feed).all (fun q => decide (decode cX11_feed q.1 = .ok (q.2.1, q.2.2.1))) = true := by decide +kernel
theorem k2_X11_feed : ax_chks ax_T aD_X11_feed = true := by decide +kernel
theorem k3_X11_feed : ax_needs ax_T ax_n9 ax_j9 ax_m9 aD_X11_feed = [1217, 1389, 1391, 38, 98, 1216, 1217, 1217, 1217, 1217, 1388].filterMap (fun i => ax_big[i]?) := by decide +kernel
theorem k4_X11_feed : (ax_needs ax_T ax_n9 ax_j9 ax_m9 aD_X11_feed).all goodWord = true := by decide +kernel
theorem ok_X11_feed : ax_okM ax_Ss ax_T ax_n9 ax_j9 ax_m9 aD_X11_feed := ax_okM_of (fun q h => of_decide_eq_true (List.all_eq_true.mp k1_X11_feed q h)) k2_X11_feed (ax_W_of _ k3_X11_feed k4_X11_feed) (by decide +kernel) (fun pc q h => by cases h)
theorem k1_X11_end : (at_X11_end).all (fun q => decide (decode cX11_end q.1 = .ok (q.2.1, q.2.2.1))) = true := by decide +kernel
theorem k2_X11_end : ax_chks ax_T aD_X11_end = true := by decide +kernel
theorem k3_X11_end : ax_needs ax_T ax_n9 ax_j9 ax_m9 aD_X11_end = [1217, 1398, 98, 1397, 1389, 1391, 38, 98, 1217, 1217, 1396].filterMap (fun i => ax_big[i]?) := by decide +kernel
theorem k4_X11_end : (ax_needs ax_T ax_n9 ax_j9 ax_m9 aD_X11_end).all goodWord = true := by decide +kernel
theorem ok_X11_end : ax_okM ax_Ss ax_T ax_n9 ax_j9 ax_m9 aD_X11_end := ax_okM_of (fun q h => of_decide_eq_true (List.all_eq_true.mp k1_X11_end q h)) k2_X11_end (ax_W_of _ k3_X11_end k4_X11_end) (by decide +kernel) (fun pc q h => by cases h)
theorem k1_X11_isName : (at_X11_isName).all (fun q => decide (decode cX11_isName q.1 = .ok (q.2.1, q.2.2.1))) = true := by decide +kernel
theorem k2_X11_isName : ax_chks ax_T aD_X11_isName = true := by decide +kernel
theorem k3_X11_isName : ax_needs ax_T ax_n9 ax_j9 ax_m9 aD_X11_isName = [1407, 1398, 98, 1397, 1406].filterMap (fun i => ax_big[i]?) := by decide +kernel
theorem k4_X11_isName : (ax_needs ax_T ax_n9 ax_j9 ax_m9 aD_X11_isName).all goodWord = true := by decide +kernel
theorem ok_X11_isName : ax_okM ax_Ss ax_T ax_n9 ax_j9 ax_m9 aD_X11_isName := ax_okM_of (fun q h => of_decide_eq_true (List.all_eq_true.mp k1_X11_isName q h)) k2_X11_isName (ax_W_of _ k3_X11_isName k4_X11_isName) (by decide +kernel) (fun pc q h => by cases h)
theorem k1_X11_at : (at_X11_at).all (fun q => decide (decode cX11_at q.1 = .ok (q.2.1, q.2.2.1))) = true := by decide +kernel
theorem k2_X11_at : ax_chks ax_T aD_X11_at = true := by decide +kernel
theorem k3_X11_at : ax_needs ax_T ax_n9 ax_j9 ax_m9 aD_X11_at = [1218, 1415].filterMap (fun i => ax_big[i]?) := by decide +kernel
theorem k4_X11_at : (ax_needs ax_T ax_n9 ax_j9 ax_m9 aD_X11_at).all goodWord = true := by decide +kernel
theorem ok_X11_at : ax_okM ax_Ss ax_T ax_n9 ax_j9 ax_m9 aD_X11_at := ax_okM_of (fun q h => of_decide_eq_true (List.all_eq_true.mp k1_X11_at q h)) k2_X11_at (ax_W_of _ k3_X11_at k4_X11_at) (by decide +kernel) (fun pc q h => by cases h)
theorem k1_X11_isEntry : (at_X11_isEntry).all (fun q => decide (decode cX11_isEntry q.1 = .ok (q.2.1, q.2.2.1))) = true := by decide +kernel
theorem k2_X11_isEntry : ax_chks ax_T aD_X11_isEntry = true := by decide +kernel
theorem k3_X11_isEntry : ax_needs ax_T ax_n9 ax_j9 ax_m9 aD_X11_isEntry = [1219, 1218, 1398, 98, 1397, 1423].filterMap (fun i => ax_big[i]?) := by decide +kernel
theorem k4_X11_isEntry : (ax_needs ax_T ax_n9 ax_j9 ax_m9 aD_X11_isEntry).all goodWord = true := by decide +kernel
theorem ok_X11_isEntry : ax_okM ax_Ss ax_T ax_n9 ax_j9 ax_m9 aD_X11_isEntry := ax_okM_of (fun q h => of_decide_eq_true (List.all_eq_true.mp k1_X11_isEntry q h)) k2_X11_isEntry (ax_W_of _ k3_X11_isEntry k4_X11_isEntry) (by decide +kernel) (fun pc q h => by cases h)
theorem k1_X11_make : (at_X11_make).all (fun q => decide (decode cX11_make q.1 = .ok (q.2.1, q.2.2.1))) = true := by decide +kernel
theorem k2_X11_make : ax_chks ax_T aD_X11_make = true := by decide +kernel
theorem k3_X11_make : ax_needs ax_T ax_n9 ax_j9 ax_m9 aD_X11_make = [1219, 1218, 1219, 1218, 1412, 1414, 40, 98, 1222, 1223, 1224, 1225, 1411].filterMap (fun i => ax_big[i]?) := by decide +kernel
theorem k4_X11_make : (ax_needs ax_T ax_n9 ax_j9 ax_m9 aD_X11_make).all goodWord = true := by decide +kernel
theorem ok_X11_make : ax_okM ax_Ss ax_T ax_n9 ax_j9 ax_m9 aD_X11_make := ax_okM_of (fun q h => of_decide_eq_true (List.all_eq_true.mp k1_X11_make q h)) k2_X11_make (ax_W_of _ k3_X11_make k4_X11_make) (by decide +kernel) (fun pc q h => by cases h)
theorem k1_X11_unit : (at_X11_unit).all (fun q => decide (decode cX11_unit q.1 = .ok (q.2.1, q.2.2.1))) = true := by decide +kernel
theorem k2_X11_unit : ax_chks ax_T aD_X11_unit = true := by decide +kernel
theorem k3_X11_unit : ax_needs ax_T ax_n9 ax_j9 ax_m9 aD_X11_unit = [1405, 98, 1404, 1220, 1218, 1219, 1218, 1215, 1215, 1220, 1218, 1408, 1410, 39, 98, 1221, 1218, 1220, 1218, 1220, 1218, 1403].filterMap (fun i => ax_big[i]?) := by decide +kernel
theorem k4_X11_unit : (ax_needs ax_T ax_n9 ax_j9 ax_m9 aD_X11_unit).all goodWord = true := by decide +kernel
theorem ok_X11_unit : ax_okM ax_Ss ax_T ax_n9 ax_j9 ax_m9 aD_X11_unit := ax_okM_of (fun q h => of_decide_eq_true (List.all_eq_true.mp k1_X11_unit q h)) k2_X11_unit (ax_W_of _ k3_X11_unit k4_X11_unit) (by decide +kernel) (fun pc q h => by cases h)
theorem k1_X11_depth : (at_X11_depth).all (fun q => decide (decode cX11_depth q.1 = .ok (q.2.1, q.2.2.1))) = true := by decide +kernel
theorem k2_X11_depth : ax_chks ax_T aD_X11_depth = true := by decide +kernel
theorem k3_X11_depth : ax_needs ax_T ax_n9 ax_j9 ax_m9 aD_X11_depth = [1223, 1412, 1414, 40, 98, 1223, 1412, 1414, 40, 98, 1427].filterMap (fun i => ax_big[i]?) := by decide +kernel
theorem k4_X11_depth : (ax_needs ax_T ax_n9 ax_j9 ax_m9 aD_X11_depth).all goodWord = true := by decide +kernel
theorem ok_X11_depth : ax_okM ax_Ss ax_T ax_n9 ax_j9 ax_m9 aD_X11_depth := ax_okM_of (fun q h => of_decide_eq_true (List.all_eq_true.mp k1_X11_depth q h)) k2_X11_depth (ax_W_of _ k3_X11_depth k4_X11_depth) (by decide +kernel) (fun pc q h => by cases h)
theorem k1_X11_entry : (at_X11_entry).all (fun q => decide (decode cX11_entry q.1 = .ok (q.2.1, q.2.2.1))) = true := by decide +kernel
theorem k2_X11_entry : ax_chks ax_T aD_X11_entry = true := by decide +kernel
theorem k3_X11_entry : ax_needs ax_T ax_n9 ax_j9 ax_m9 aD_X11_entry = [1420, 1422, 41, 98, 1405, 98, 1404, 1219, 1218, 1424, 1426, 42, 98, 1215, 1215, 1224, 1412, 1414, 40, 98, 1408, 1410, 39, 98, 1419].filterMap (fun i => ax_big[i]?) := by decide +kernel
theorem k4_X11_entry : (ax_needs ax_T ax_n9 ax_j9 ax_m9 aD_X11_entry).all goodWord = true := by decide +kernel
theorem ok_X11_entry : ax_okM ax_Ss ax_T ax_n9 ax_j9 ax_m9 aD_X11_entry := ax_okM_of (fun q h => of_decide_eq_true (List.all_eq_true.mp k1_X11_entry q h)) k2_X11_entry (ax_W_of _ k3_X11_entry k4_X11_entry) (by decide +kernel) (fun pc q h => by cases h)
theorem k1_X11_isNumber : (at_X11_isNumber).all (fun q => decide (decode cX11_isNumber q.1 = .ok (q.2.1, q.2.2.1))) = true := by decide +kernel
theorem k2_X11_isNumber : ax_chks ax_T aD_X11_isNumber = true := by decide +kernel
theorem k3_X11_isNumber : ax_needs ax_T ax_n9 ax_j9 ax_m9 aD_X11_isNumber = [1434].filterMap (fun i => ax_big[i]?) := by decide +kernel
theorem k4_X11_isNumber : (ax_needs ax_T ax_n9 ax_j9 ax_m9 aD_X11_isNumber).all goodWord = true := by decide +kernel
theorem ok_X11_isNumber : ax_okM ax_Ss ax_T ax_n9 ax_j9 ax_m9 aD_X11_isNumber := ax_okM_of (fun q h => of_decide_eq_true (List.all_eq_true.mp k1_X11_isNumber q h)) k2_X11_isNumber (ax_W_of _ k3_X11_isNumber k4_X11_isNumber) (by decide +kernel) (fun pc q h => by cases h)
theorem k1_X11_isText : (at_X11_isText).all (fun q => decide (decode cX11_isText q.1 = .ok (q.2.1, q.2.2.1))) = true := by decide +kernel
theorem k2_X11_isText : ax_chks ax_T aD_X11_isText = true := by decide +kernel
theorem k3_X11_isText : ax_needs ax_T ax_n9 ax_j9 ax_m9 aD_X11_isText = [1459].filterMap (fun i => ax_big[i]?) := by decide +kernel
theorem k4_X11_isText : (ax_needs ax_T ax_n9 ax_j9 ax_m9 aD_X11_isText).all goodWord = true := by decide +kernel
theorem ok_X11_isText : ax_okM ax_Ss ax_T ax_n9 ax_j9 ax_m9 aD_X11_isText := ax_okM_of (fun q h => of_decide_eq_true (List.all_eq_true.mp k1_X11_isText q h)) k2_X11_isText (ax_W_of _ k3_X11_isText k4_X11_isText) (by decide +kernel) (fun pc q h => by cases h)
theorem k1_X11_isReference : (at_X11_isReference).all (fun q => decide (decode cX11_isReference q.1 = .ok (q.2.1, q.2.2.1))) = true := by decide +kernel
theorem k2_X11_isReference : ax_chks ax_T aD_X11_isReference = true := by decide +kernel
theorem k3_X11_isReference : ax_needs ax_T ax_n9 ax_j9 ax_m9 aD_X11_isReference = [1471].filterMap (fun i => ax_big[i]?) := by decide +kernel
theorem k4_X11_isReference : (ax_needs ax_T ax_n9 ax_j9 ax_m9 aD_X11_isReference).all goodWord = true := by decide +kernel
theorem ok_X11_isReference : ax_okM ax_Ss ax_T ax_n9 ax_j9 ax_m9 aD_X11_isReference := ax_okM_of (fun q h => of_decide_eq_true (List.all_eq_true.mp k1_X11_isReference q h)) k2_X11_isReference (ax_W_of _ k3_X11_isReference k4_X11_isReference) (by decide +kernel) (fun pc q h => by cases h)
theorem k1_X11_isForm : (at_X11_isForm).all (fun q => decide (decode cX11_isForm q.1 = .ok (q.2.1, q.2.2.1))) = true := by decide +kernel
theorem k2_X11_isForm : ax_chks ax_T aD_X11_isForm = true := by decide +kernel
theorem k3_X11_isForm : ax_needs ax_T ax_n9 ax_j9 ax_m9 aD_X11_isForm = [1643, 1398, 98, 1397, 1433, 98, 1432, 1458, 98, 1457, 1644, 1470, 98, 1469, 1642].filterMap (fun i => ax_big[i]?) := by decide +kernel
theorem k4_X11_isForm : (ax_needs ax_T ax_n9 ax_j9 ax_m9 aD_X11_isForm).all goodWord = true := by decide +kernel
theorem ok_X11_isForm : ax_okM ax_Ss ax_T ax_n9 ax_j9 ax_m9 aD_X11_isForm := ax_okM_of (fun q h => of_decide_eq_true (List.all_eq_true.mp k1_X11_isForm q h)) k2_X11_isForm (ax_W_of _ k3_X11_isForm k4_X11_isForm) (by decide +kernel) (fun pc q h => by cases h)
theorem k1_X11_fits : (at_X11_fits).all (fun q => decide (decode cX11_fits q.1 = .ok (q.2.1, q.2.2.1))) = true := by decide +kernel
theorem k2_X11_fits : ax_chks ax_T aD_X11_fits = true := by decide +kernel
theorem k3_X11_fits : ax_needs ax_T ax_n9 ax_j9 ax_m9 aD_X11_fits = [1438, 1398, 98, 1397, 1439, 1398, 98, 1397, 1440, 1398, 98, 1397, 1398, 98, 1397, 1437].filterMap (fun i => ax_big[i]?) := by decide +kernel
theorem k4_X11_fits : (ax_needs ax_T ax_n9 ax_j9 ax_m9 aD_X11_fits).all goodWord = true := by decide +kernel
theorem ok_X11_fits : ax_okM ax_Ss ax_T ax_n9 ax_j9 ax_m9 aD_X11_fits := ax_okM_of (fun q h => of_decide_eq_true (List.all_eq_true.mp k1_X11_fits q h)) k2_X11_fits (ax_W_of _ k3_X11_fits k4_X11_fits) (by decide +kernel) (fun pc q h => by cases h)
theorem k1_X11_isTold : (at_X11_isTold).all (fun q => decide (decode cX11_isTold q.1 = .ok (q.2.1, q.2.2.1))) = true := by decide +kernel
theorem k2_X11_isTold : ax_chks ax_T aD_X11_isTold = true := by decide +kernel
theorem k3_X11_isTold : ax_needs ax_T ax_n9 ax_j9 ax_m9 aD_X11_isTold = [1412, 1414, 40, 98, 1225, 1226, 1444].filterMap (fun i => ax_big[i]?) := by decide +kernel
theorem k4_X11_isTold : (ax_needs ax_T ax_n9 ax_j9 ax_m9 aD_X11_isTold).all goodWord = true := by decide +kernel
theorem ok_X11_isTold : ax_okM ax_Ss ax_T ax_n9 ax_j9 ax_m9 aD_X11_isTold := ax_okM_of (fun q h => of_decide_eq_true (List.all_eq_true.mp k1_X11_isTold q h)) k2_X11_isTold (ax_W_of _ k3_X11_isTold k4_X11_isTold) (by decide +kernel) (fun pc q h => by cases h)
theorem k1_X11_add : (at_X11_add).all (fun q => decide (decode cX11_add q.1 = .ok (q.2.1, q.2.2.1))) = true := by decide +kernel
theorem k2_X11_add : ax_chks ax_T aD_X11_add = true := by decide +kernel
theorem k3_X11_add : ax_needs ax_T ax_n9 ax_j9 ax_m9 aD_X11_add = [1412, 1414, 40, 98, 1225, 1226, 1227, 1228, 1229, 1230, 1225, 1225, 1452].filterMap (fun i => ax_big[i]?) := by decide +kernel
theorem k4_X11_add : (ax_needs ax_T ax_n9 ax_j9 ax_m9 aD_X11_add).all goodWord = true := by decide +kernel
theorem ok_X11_add : ax_okM ax_Ss ax_T ax_n9 ax_j9 ax_m9 aD_X11_add := ax_okM_of (fun q h => of_decide_eq_true (List.all_eq_true.mp k1_X11_add q h)) k2_X11_add (ax_W_of _ k3_X11_add k4_X11_add) (by decide +kernel) (fun pc q h => by cases h)
theorem k1_X11_isFull : (at_X11_isFull).all (fun q => decide (decode cX11_isFull q.1 = .ok (q.2.1, q.2.2.1))) = true := by decide +kernel
theorem k2_X11_isFull : ax_chks ax_T aD_X11_isFull = true := by decide +kernel
theorem k3_X11_isFull : ax_needs ax_T ax_n9 ax_j9 ax_m9 aD_X11_isFull = [1225, 1412, 1414, 40, 98, 1448].filterMap (fun i => ax_big[i]?) := by decide +kernel
theorem k4_X11_isFull : (ax_needs ax_T ax_n9 ax_j9 ax_m9 aD_X11_isFull).all goodWord = true := by decide +kernel
theorem ok_X11_isFull : ax_okM ax_Ss ax_T ax_n9 ax_j9 ax_m9 aD_X11_isFull := ax_okM_of (fun q h => of_decide_eq_true (List.all_eq_true.mp k1_X11_isFull q h)) k2_X11_isFull (ax_W_of _ k3_X11_isFull k4_X11_isFull) (by decide +kernel) (fun pc q h => by cases h)
theorem k1_X11_number : (at_X11_number).all (fun q => decide (decode cX11_number q.1 = .ok (q.2.1, q.2.2.1))) = true := by decide +kernel
theorem k2_X11_number : ax_chks ax_T aD_X11_number = true := by decide +kernel
theorem k3_X11_number : ax_needs ax_T ax_n9 ax_j9 ax_m9 aD_X11_number = [1420, 1422, 41, 98, 1405, 98, 1404, 1433, 98, 1432, 1436, 98, 1435, 1441, 1443, 43, 98, 1445, 1447, 44, 98, 1215, 1215, 1449, 1451, 45, 98, 1431].filterMap (fun i => ax_big[i]?) := by decide +kernel
theorem k4_X11_number : (ax_needs ax_T ax_n9 ax_j9 ax_m9 aD_X11_number).all goodWord = true := by decide +kernel
theorem ok_X11_number : ax_okM ax_Ss ax_T ax_n9 ax_j9 ax_m9 aD_X11_number := ax_okM_of (fun q h => of_decide_eq_true (List.all_eq_true.mp k1_X11_number q h)) k2_X11_number (ax_W_of _ k3_X11_number k4_X11_number) (by decide +kernel) (fun pc q h => by cases h)
theorem k1_X11_areBytes : (at_X11_areBytes).all (fun q => decide (decode cX11_areBytes q.1 = .ok (q.2.1, q.2.2.1))) = true := by decide +kernel
theorem k2_X11_areBytes : ax_chks ax_T aD_X11_areBytes = true := by decide +kernel
theorem k3_X11_areBytes : ax_needs ax_T ax_n9 ax_j9 ax_m9 aD_X11_areBytes = [1217, 1217, 1216, 1463].filterMap (fun i => ax_big[i]?) := by decide +kernel
theorem k4_X11_areBytes : (ax_needs ax_T ax_n9 ax_j9 ax_m9 aD_X11_areBytes).all goodWord = true := by decide +kernel
theorem ok_X11_areBytes : ax_okM ax_Ss ax_T ax_n9 ax_j9 ax_m9 aD_X11_areBytes := ax_okM_of (fun q h => of_decide_eq_true (List.all_eq_true.mp k1_X11_areBytes q h)) k2_X11_areBytes (ax_W_of _ k3_X11_areBytes k4_X11_areBytes) (by decide +kernel) (fun pc q h => by cases h)
theorem k1_X11_bytes_0 : (((at_X11_bytes).drop 0).take 100).all (fun q => decide (decode cX11_bytes q.1 = .ok (q.2.1, q.2.2.1))) = true := by decide +kernel
theorem k1_X11_bytes_1 : (((at_X11_bytes).drop 100).take 100).all (fun q => decide (decode cX11_bytes q.1 = .ok (q.2.1, q.2.2.1))) = true := by decide +kernel
theorem k1_X11_bytes : (at_X11_bytes).all (fun q => decide (decode cX11_bytes q.1 = .ok (q.2.1, q.2.2.1))) = true := ax_alln 2 (fun i hi => match i, hi with | 0, _ => k1_X11_bytes_0 | 1, _ => k1_X11_bytes_1 | n + 2, h => absurd h (by omega)) (by decide +kernel)
theorem k2_X11_bytes : ax_chks ax_T aD_X11_bytes = true := by decide +kernel
theorem k3_X11_bytes : ax_needs ax_T ax_n9 ax_j9 ax_m9 aD_X11_bytes = [1420, 1422, 41, 98, 1405, 98, 1404, 1458, 98, 1457, 1460, 1462, 46, 98, 1441, 1443, 43, 98, 1445, 1447, 44, 98, 1231, 1218, 1217, 1215, 1215, 1449, 1451, 45, 98, 1412, 1414, 40, 98, 1229, 1464, 1218, 1232, 1218, 1230, 1217, 1231, 1218, 1231, 1218, 1217, 1217, 1233, 1229, 1216, 1232, 1218, 1232, 1218, 1217, 1217, 1456].filterMap (fun i => ax_big[i]?) := by decide +kernel
theorem k4_X11_bytes : (ax_needs ax_T ax_n9 ax_j9 ax_m9 aD_X11_bytes).all goodWord = true := by decide +kernel
theorem ok_X11_bytes : ax_okM ax_Ss ax_T ax_n9 ax_j9 ax_m9 aD_X11_bytes := ax_okM_of (fun q h => of_decide_eq_true (List.all_eq_true.mp k1_X11_bytes q h)) k2_X11_bytes (ax_W_of _ k3_X11_bytes k4_X11_bytes) (by decide +kernel) (fun pc q h => by cases h)
theorem k1_X11_reference : (at_X11_reference).all (fun q => decide (decode cX11_reference q.1 = .ok (q.2.1, q.2.2.1))) = true := by decide +kernel
theorem k2_X11_reference : ax_chks ax_T aD_X11_reference = true := by decide +kernel
theorem k3_X11_reference : ax_needs ax_T ax_n9 ax_j9 ax_m9 aD_X11_reference = [1420, 1422, 41, 98, 1420, 1422, 41, 98, 1224, 1412, 1414, 40, 98, 1224, 1412, 1414, 40, 98, 1405, 98, 1404, 1470, 98, 1469, 1441, 1443, 43, 98, 1445, 1447, 44, 98, 1215, 1215, 1449, 1451, 45, 98, 1468].filterMap (fun i => ax_big[i]?) := by decide +kernel
theorem k4_X11_reference : (ax_needs ax_T ax_n9 ax_j9 ax_m9 aD_X11_reference).all goodWord = true := by decide +kernel
theorem ok_X11_reference : ax_okM ax_Ss ax_T ax_n9 ax_j9 ax_m9 aD_X11_reference := ax_okM_of (fun q h => of_decide_eq_true (List.all_eq_true.mp k1_X11_reference q h)) k2_X11_reference (ax_W_of _ k3_X11_reference k4_X11_reference) (by decide +kernel) (fun pc q h => by cases h)
theorem k1_X11_clear : (at_X11_clear).all (fun q => decide (decode cX11_clear q.1 = .ok (q.2.1, q.2.2.1))) = true := by decide +kernel
theorem k2_X11_clear : ax_chks ax_T aD_X11_clear = true := by decide +kernel
theorem k3_X11_clear : ax_needs ax_T ax_n9 ax_j9 ax_m9 aD_X11_clear = [1215, 1219, 1218, 1219, 1218, 1220, 1218, 1232, 1218, 1231, 1218, 1475].filterMap (fun i => ax_big[i]?) := by decide +kernel
theorem k4_X11_clear : (ax_needs ax_T ax_n9 ax_j9 ax_m9 aD_X11_clear).all goodWord = true := by decide +kernel
theorem ok_X11_clear : ax_okM ax_Ss ax_T ax_n9 ax_j9 ax_m9 aD_X11_clear := ax_okM_of (fun q h => of_decide_eq_true (List.all_eq_true.mp k1_X11_clear q h)) k2_X11_clear (ax_W_of _ k3_X11_clear k4_X11_clear) (by decide +kernel) (fun pc q h => by cases h)
theorem k1_X11_firstChild : (at_X11_firstChild).all (fun q => decide (decode cX11_firstChild q.1 = .ok (q.2.1, q.2.2.1))) = true := by decide +kernel
theorem k2_X11_firstChild : ax_chks ax_T aD_X11_firstChild = true := by decide +kernel
theorem k3_X11_firstChild : ax_needs ax_T ax_n9 ax_j9 ax_m9 aD_X11_firstChild = [1219, 1218, 1223, 1412, 1414, 40, 98, 1491].filterMap (fun i => ax_big[i]?) := by decide +kernel
theorem k4_X11_firstChild : (ax_needs ax_T ax_n9 ax_j9 ax_m9 aD_X11_firstChild).all goodWord = true := by decide +kernel
theorem ok_X11_firstChild : ax_okM ax_Ss ax_T ax_n9 ax_j9 ax_m9 aD_X11_firstChild := ax_okM_of (fun q h => of_decide_eq_true (List.all_eq_true.mp k1_X11_firstChild q h)) k2_X11_firstChild (ax_W_of _ k3_X11_firstChild k4_X11_firstChild) (by decide +kernel) (fun pc q h => by cases h)
theorem k1_X11_nextChild : (at_X11_nextChild).all (fun q => decide (decode cX11_nextChild q.1 = .ok (q.2.1, q.2.2.1))) = true := by decide +kernel
theorem k2_X11_nextChild : ax_chks ax_T aD_X11_nextChild = true := by decide +kernel
theorem k3_X11_nextChild : ax_needs ax_T ax_n9 ax_j9 ax_m9 aD_X11_nextChild = [1219, 1218, 1223, 1412, 1414, 40, 98, 1223, 1412, 1414, 40, 98, 1495].filterMap (fun i => ax_big[i]?) := by decide +kernel
theorem k4_X11_nextChild : (ax_needs ax_T ax_n9 ax_j9 ax_m9 aD_X11_nextChild).all goodWord = true := by decide +kernel
theorem ok_X11_nextChild : ax_okM ax_Ss ax_T ax_n9 ax_j9 ax_m9 aD_X11_nextChild := ax_okM_of (fun q h => of_decide_eq_true (List.all_eq_true.mp k1_X11_nextChild q h)) k2_X11_nextChild (ax_W_of _ k3_X11_nextChild k4_X11_nextChild) (by decide +kernel) (fun pc q h => by cases h)
theorem k1_X11_goThrough : (at_X11_goThrough).all (fun q => decide (decode cX11_goThrough q.1 = .ok (q.2.1, q.2.2.1))) = true := by decide +kernel
theorem k2_X11_goThrough : ax_chks ax_T aD_X11_goThrough = true := by decide +kernel
theorem k3_X11_goThrough : ax_needs ax_T ax_n9 ax_j9 ax_m9 aD_X11_goThrough = [1238, 1220, 1218, 1221, 1218, 1239, 1238, 1240, 1238, 1238, 1238, 1488, 1490, 49, 98, 1223, 1412, 1414, 40, 98, 1492, 1494, 50, 98, 1240, 1238, 1223, 1412, 1414, 40, 98, 1487].filterMap (fun i => ax_big[i]?) := by decide +kernel
theorem k4_X11_goThrough : (ax_needs ax_T ax_n9 ax_j9 ax_m9 aD_X11_goThrough).all goodWord = true := by decide +kernel
theorem ok_X11_goThrough : ax_okM ax_Ss ax_T ax_n9 ax_j9 ax_m9 aD_X11_goThrough := ax_okM_of (fun q h => of_decide_eq_true (List.all_eq_true.mp k1_X11_goThrough q h)) k2_X11_goThrough (ax_W_of _ k3_X11_goThrough k4_X11_goThrough) (by decide +kernel) (fun pc q h => by cases h)
theorem k1_X11_sameShape : (at_X11_sameShape).all (fun q => decide (decode cX11_sameShape q.1 = .ok (q.2.1, q.2.2.1))) = true := by decide +kernel
theorem k2_X11_sameShape : ax_chks ax_T aD_X11_sameShape = true := by decide +kernel
theorem k3_X11_sameShape : ax_needs ax_T ax_n9 ax_j9 ax_m9 aD_X11_sameShape = [1412, 1414, 40, 98, 1412, 1414, 40, 98, 1222, 1222, 1225, 1225, 1488, 1490, 49, 98, 1488, 1490, 49, 98, 1225, 1226, 1226, 1227, 1227, 1503].filterMap (fun i => ax_big[i]?) := by decide +kernel
theorem k4_X11_sameShape : (ax_needs ax_T ax_n9 ax_j9 ax_m9 aD_X11_sameShape).all goodWord = true := by decide +kernel
theorem ok_X11_sameShape : ax_okM ax_Ss ax_T ax_n9 ax_j9 ax_m9 aD_X11_sameShape := ax_okM_of (fun q h => of_decide_eq_true (List.all_eq_true.mp k1_X11_sameShape q h)) k2_X11_sameShape (ax_W_of _ k3_X11_sameShape k4_X11_sameShape) (by decide +kernel) (fun pc q h => by cases h)
theorem k1_X11_findShapes : (at_X11_findShapes).all (fun q => decide (decode cX11_findShapes q.1 = .ok (q.2.1, q.2.2.1))) = true := by decide +kernel
theorem k2_X11_findShapes : ax_chks ax_T aD_X11_findShapes = true := by decide +kernel
theorem k3_X11_findShapes : ax_needs ax_T ax_n9 ax_j9 ax_m9 aD_X11_findShapes = [1241, 1238, 1239, 1241, 1243, 1500, 1502, 52, 98, 1243, 1241, 1241, 1241, 1241, 1242, 1499].filterMap (fun i => ax_big[i]?) := by decide +kernel
theorem k4_X11_findShapes : (ax_needs ax_T ax_n9 ax_j9 ax_m9 aD_X11_findShapes).all goodWord = true := by decide +kernel
theorem ok_X11_findShapes : ax_okM ax_Ss ax_T ax_n9 ax_j9 ax_m9 aD_X11_findShapes := ax_okM_of (fun q h => of_decide_eq_true (List.all_eq_true.mp k1_X11_findShapes q h)) k2_X11_findShapes (ax_W_of _ k3_X11_findShapes k4_X11_findShapes) (by decide +kernel) (fun pc q h => by cases h)
theorem k1_X11_sameText : (at_X11_sameText).all (fun q => decide (decode cX11_sameText q.1 = .ok (q.2.1, q.2.2.1))) = true := by decide +kernel
theorem k2_X11_sameText : ax_chks ax_T aD_X11_sameText = true := by decide +kernel
theorem k3_X11_sameText : ax_needs ax_T ax_n9 ax_j9 ax_m9 aD_X11_sameText = [1230, 1230, 1230, 1233, 1229, 1233, 1229, 1515].filterMap (fun i => ax_big[i]?) := by decide +kernel
theorem k4_X11_sameText : (ax_needs ax_T ax_n9 ax_j9 ax_m9 aD_X11_sameText).all goodWord = true := by decide +kernel
theorem ok_X11_sameText : ax_okM ax_Ss ax_T ax_n9 ax_j9 ax_m9 aD_X11_sameText := ax_okM_of (fun q h => of_decide_eq_true (List.all_eq_true.mp k1_X11_sameText q h)) k2_X11_sameText (ax_W_of _ k3_X11_sameText k4_X11_sameText) (by decide +kernel) (fun pc q h => by cases h)
theorem k1_X11_textOf : (at_X11_textOf).all (fun q => decide (decode cX11_textOf q.1 = .ok (q.2.1, q.2.2.1))) = true := by decide +kernel
theorem k2_X11_textOf : ax_chks ax_T aD_X11_textOf = true := by decide +kernel
theorem k3_X11_textOf : ax_needs ax_T ax_n9 ax_j9 ax_m9 aD_X11_textOf = [1244, 1245, 1512, 1514, 55, 98, 1511].filterMap (fun i => ax_big[i]?) := by decide +kernel
theorem k4_X11_textOf : (ax_needs ax_T ax_n9 ax_j9 ax_m9 aD_X11_textOf).all goodWord = true := by decide +kernel
theorem ok_X11_textOf : ax_okM ax_Ss ax_T ax_n9 ax_j9 ax_m9 aD_X11_textOf := ax_okM_of (fun q h => of_decide_eq_true (List.all_eq_true.mp k1_X11_textOf q h)) k2_X11_textOf (ax_W_of _ k3_X11_textOf k4_X11_textOf) (by decide +kernel) (fun pc q h => by cases h)
theorem k1_X11_findTexts : (at_X11_findTexts).all (fun q => decide (decode cX11_findTexts q.1 = .ok (q.2.1, q.2.2.1))) = true := by decide +kernel
theorem k2_X11_findTexts : ax_chks ax_T aD_X11_findTexts = true := by decide +kernel
theorem k3_X11_findTexts : ax_needs ax_T ax_n9 ax_j9 ax_m9 aD_X11_findTexts = [1244, 1247, 1238, 1239, 1412, 1414, 40, 98, 1225, 1227, 1508, 1510, 54, 98, 1245, 1244, 1246, 1244, 1247, 1247, 1230, 1247, 1244, 1244, 1507].filterMap (fun i => ax_big[i]?) := by decide +kernel
theorem k4_X11_findTexts : (ax_needs ax_T ax_n9 ax_j9 ax_m9 aD_X11_findTexts).all goodWord = true := by decide +kernel
theorem ok_X11_findTexts : ax_okM ax_Ss ax_T ax_n9 ax_j9 ax_m9 aD_X11_findTexts := ax_okM_of (fun q h => of_decide_eq_true (List.all_eq_true.mp k1_X11_findTexts q h)) k2_X11_findTexts (ax_W_of _ k3_X11_findTexts k4_X11_findTexts) (by decide +kernel) (fun pc q h => by cases h)
theorem k1_X11_rowBytes : (at_X11_rowBytes).all (fun q => decide (decode cX11_rowBytes q.1 = .ok (q.2.1, q.2.2.1))) = true := by decide +kernel
theorem k2_X11_rowBytes : ax_chks ax_T aD_X11_rowBytes = true := by decide +kernel
theorem k3_X11_rowBytes : ax_needs ax_T ax_n9 ax_j9 ax_m9 aD_X11_rowBytes = [1523, 1524, 1522].filterMap (fun i => ax_big[i]?) := by decide +kernel
theorem k4_X11_rowBytes : (ax_needs ax_T ax_n9 ax_j9 ax_m9 aD_X11_rowBytes).all goodWord = true := by decide +kernel
theorem ok_X11_rowBytes : ax_okM ax_Ss ax_T ax_n9 ax_j9 ax_m9 aD_X11_rowBytes := ax_okM_of (fun q h => of_decide_eq_true (List.all_eq_true.mp k1_X11_rowBytes q h)) k2_X11_rowBytes (ax_W_of _ k3_X11_rowBytes k4_X11_rowBytes) (by decide +kernel) (fun pc q h => by cases h)
theorem k1_X11_signedBytes : (at_X11_signedBytes).all (fun q => decide (decode cX11_signedBytes q.1 = .ok (q.2.1, q.2.2.1))) = true := by decide +kernel
theorem k2_X11_signedBytes : ax_chks ax_T aD_X11_signedBytes = true := by decide +kernel
theorem k3_X11_signedBytes : ax_needs ax_T ax_n9 ax_j9 ax_m9 aD_X11_signedBytes = [1532, 1533, 1531].filterMap (fun i => ax_big[i]?) := by decide +kernel
theorem k4_X11_signedBytes : (ax_needs ax_T ax_n9 ax_j9 ax_m9 aD_X11_signedBytes).all goodWord = true := by decide +kernel
theorem ok_X11_signedBytes : ax_okM ax_Ss ax_T ax_n9 ax_j9 ax_m9 aD_X11_signedBytes := ax_okM_of (fun q h => of_decide_eq_true (List.all_eq_true.mp k1_X11_signedBytes q h)) k2_X11_signedBytes (ax_W_of _ k3_X11_signedBytes k4_X11_signedBytes) (by decide +kernel) (fun pc q h => by cases h)
theorem k1_X11_sizeOf : (at_X11_sizeOf).all (fun q => decide (decode cX11_sizeOf q.1 = .ok (q.2.1, q.2.2.1))) = true := by decide +kernel
theorem k2_X11_sizeOf : ax_chks ax_T aD_X11_sizeOf = true := by decide +kernel
theorem k3_X11_sizeOf : ax_needs ax_T ax_n9 ax_j9 ax_m9 aD_X11_sizeOf = [1227, 1228, 1530, 98, 1529, 1228, 1521, 98, 1520, 1230, 1249, 1218, 1528].filterMap (fun i => ax_big[i]?) := by decide +kernel
theorem k4_X11_sizeOf : (ax_needs ax_T ax_n9 ax_j9 ax_m9 aD_X11_sizeOf).all goodWord = true := by decide +kernel
theorem ok_X11_sizeOf : ax_okM ax_Ss ax_T ax_n9 ax_j9 ax_m9 aD_X11_sizeOf := ax_okM_of (fun q h => of_decide_eq_true (List.all_eq_true.mp k1_X11_sizeOf q h)) k2_X11_sizeOf (ax_W_of _ k3_X11_sizeOf k4_X11_sizeOf) (by decide +kernel) (fun pc q h => by cases h)
theorem k1_X11_reckon : (at_X11_reckon).all (fun q => decide (decode cX11_reckon q.1 = .ok (q.2.1, q.2.2.1))) = true := by decide +kernel
theorem k2_X11_reckon : ax_chks ax_T aD_X11_reckon = true := by decide +kernel
theorem k3_X11_reckon : ax_needs ax_T ax_n9 ax_j9 ax_m9 aD_X11_reckon = [1238, 1239, 1412, 1414, 40, 98, 1223, 1248, 1242, 1521, 98, 1520, 1225, 1525, 1527, 57, 98, 1240, 1250, 1224, 1519].filterMap (fun i => ax_big[i]?) := by decide +kernel
theorem k4_X11_reckon : (ax_needs ax_T ax_n9 ax_j9 ax_m9 aD_X11_reckon).all goodWord = true := by decide +kernel
theorem ok_X11_reckon : ax_okM ax_Ss ax_T ax_n9 ax_j9 ax_m9 aD_X11_reckon := ax_okM_of (fun q h => of_decide_eq_true (List.all_eq_true.mp k1_X11_reckon q h)) k2_X11_reckon (ax_W_of _ k3_X11_reckon k4_X11_reckon) (by decide +kernel) (fun pc q h => by cases h)
theorem k1_X11_layOut : (at_X11_layOut).all (fun q => decide (decode cX11_layOut q.1 = .ok (q.2.1, q.2.2.1))) = true := by decide +kernel
theorem k2_X11_layOut : ax_chks ax_T aD_X11_layOut = true := by decide +kernel
theorem k3_X11_layOut : ax_needs ax_T ax_n9 ax_j9 ax_m9 aD_X11_layOut = [1484, 1486, 48, 98, 1496, 1498, 51, 98, 1504, 1506, 53, 98, 1249, 1516, 1518, 56, 98, 1219, 1218, 1412, 1414, 40, 98, 1225, 1227, 1248, 1228, 1521, 98, 1520, 1218, 1249, 1249, 1249, 1249, 1483].filterMap (fun i => ax_big[i]?) := by decide +kernel
theorem k4_X11_layOut : (ax_needs ax_T ax_n9 ax_j9 ax_m9 aD_X11_layOut).all goodWord = true := by decide +kernel
theorem ok_X11_layOut : ax_okM ax_Ss ax_T ax_n9 ax_j9 ax_m9 aD_X11_layOut := ax_okM_of (fun q h => of_decide_eq_true (List.all_eq_true.mp k1_X11_layOut q h)) k2_X11_layOut (ax_W_of _ k3_X11_layOut k4_X11_layOut) (by decide +kernel) (fun pc q h => by cases h)
theorem k1_X11_put : (at_X11_put).all (fun q => decide (decode cX11_put q.1 = .ok (q.2.1, q.2.2.1))) = true := by decide +kernel
theorem k2_X11_put : ax_chks ax_T aD_X11_put = true := by decide +kernel
theorem k3_X11_put : ax_needs ax_T ax_n9 ax_j9 ax_m9 aD_X11_put = [1234, 1251, 1251, 1251, 1551].filterMap (fun i => ax_big[i]?) := by decide +kernel
theorem k4_X11_put : (ax_needs ax_T ax_n9 ax_j9 ax_m9 aD_X11_put).all goodWord = true := by decide +kernel
theorem ok_X11_put : ax_okM ax_Ss ax_T ax_n9 ax_j9 ax_m9 aD_X11_put := ax_okM_of (fun q h => of_decide_eq_true (List.all_eq_true.mp k1_X11_put q h)) k2_X11_put (ax_W_of _ k3_X11_put k4_X11_put) (by decide +kernel) (fun pc q h => by cases h)
theorem k1_X11_putRow : (at_X11_putRow).all (fun q => decide (decode cX11_putRow q.1 = .ok (q.2.1, q.2.2.1))) = true := by decide +kernel
theorem k2_X11_putRow : ax_chks ax_T aD_X11_putRow = true := by decide +kernel
theorem k3_X11_putRow : ax_needs ax_T ax_n9 ax_j9 ax_m9 aD_X11_putRow = [1523, 1524, 1548, 1550, 60, 98, 1524, 1548, 1550, 60, 98, 1555].filterMap (fun i => ax_big[i]?) := by decide +kernel
theorem k4_X11_putRow : (ax_needs ax_T ax_n9 ax_j9 ax_m9 aD_X11_putRow).all goodWord = true := by decide +kernel
theorem ok_X11_putRow : ax_okM ax_Ss ax_T ax_n9 ax_j9 ax_m9 aD_X11_putRow := ax_okM_of (fun q h => of_decide_eq_true (List.all_eq_true.mp k1_X11_putRow q h)) k2_X11_putRow (ax_W_of _ k3_X11_putRow k4_X11_putRow) (by decide +kernel) (fun pc q h => by cases h)
theorem k1_X11_putSigned : (at_X11_putSigned).all (fun q => decide (decode cX11_putSigned q.1 = .ok (q.2.1, q.2.2.1))) = true := by decide +kernel
theorem k2_X11_putSigned : ax_chks ax_T aD_X11_putSigned = true := by decide +kernel
theorem k3_X11_putSigned : ax_needs ax_T ax_n9 ax_j9 ax_m9 aD_X11_putSigned = [1532, 1533, 1523, 1548, 1550, 60, 98, 1523, 1548, 1550, 60, 98, 1568].filterMap (fun i => ax_big[i]?) := by decide +kernel
theorem k4_X11_putSigned : (ax_needs ax_T ax_n9 ax_j9 ax_m9 aD_X11_putSigned).all goodWord = true := by decide +kernel
theorem ok_X11_putSigned : ax_okM ax_Ss ax_T ax_n9 ax_j9 ax_m9 aD_X11_putSigned := ax_okM_of (fun q h => of_decide_eq_true (List.all_eq_true.mp k1_X11_putSigned q h)) k2_X11_putSigned (ax_W_of _ k3_X11_putSigned k4_X11_putSigned) (by decide +kernel) (fun pc q h => by cases h)
theorem k1_X11_putNumber : (at_X11_putNumber).all (fun q => decide (decode cX11_putNumber q.1 = .ok (q.2.1, q.2.2.1))) = true := by decide +kernel
theorem k2_X11_putNumber : ax_chks ax_T aD_X11_putNumber = true := by decide +kernel
theorem k3_X11_putNumber : ax_needs ax_T ax_n9 ax_j9 ax_m9 aD_X11_putNumber = [1548, 1550, 60, 98, 1559].filterMap (fun i => ax_big[i]?) := by decide +kernel
theorem k4_X11_putNumber : (ax_needs ax_T ax_n9 ax_j9 ax_m9 aD_X11_putNumber).all goodWord = true := by decide +kernel
theorem ok_X11_putNumber : ax_okM ax_Ss ax_T ax_n9 ax_j9 ax_m9 aD_X11_putNumber := ax_okM_of (fun q h => of_decide_eq_true (List.all_eq_true.mp k1_X11_putNumber q h)) k2_X11_putNumber (ax_W_of _ k3_X11_putNumber k4_X11_putNumber) (by decide +kernel) (fun pc q h => by cases h)
theorem k1_X11_putText : (at_X11_putText).all (fun q => decide (decode cX11_putText q.1 = .ok (q.2.1, q.2.2.1))) = true := by decide +kernel
theorem k2_X11_putText : ax_chks ax_T aD_X11_putText = true := by decide +kernel
theorem k3_X11_putText : ax_needs ax_T ax_n9 ax_j9 ax_m9 aD_X11_putText = [1230, 1233, 1229, 1548, 1550, 60, 98, 1547].filterMap (fun i => ax_big[i]?) := by decide +kernel
theorem k4_X11_putText : (ax_needs ax_T ax_n9 ax_j9 ax_m9 aD_X11_putText).all goodWord = true := by decide +kernel
theorem ok_X11_putText : ax_okM ax_Ss ax_T ax_n9 ax_j9 ax_m9 aD_X11_putText := ax_okM_of (fun q h => of_decide_eq_true (List.all_eq_true.mp k1_X11_putText q h)) k2_X11_putText (ax_W_of _ k3_X11_putText k4_X11_putText) (by decide +kernel) (fun pc q h => by cases h)
theorem k1_X11_putValue : (at_X11_putValue).all (fun q => decide (decode cX11_putValue q.1 = .ok (q.2.1, q.2.2.1))) = true := by decide +kernel
theorem k2_X11_putValue : ax_chks ax_T aD_X11_putValue = true := by decide +kernel
theorem k3_X11_putValue : ax_needs ax_T ax_n9 ax_j9 ax_m9 aD_X11_putValue = [1227, 1228, 1565, 1567, 64, 98, 1228, 1552, 1554, 61, 98, 1544, 1546, 59, 98, 1548, 1550, 60, 98, 1246, 1508, 1510, 54, 98, 1556, 1558, 62, 98, 1230, 1548, 1550, 60, 98, 1544, 1546, 59, 98, 1248, 1228, 1556, 1558, 62, 98, 1248, 1228, 1552, 1554, 61, 98, 1228, 1525, 1527, 57, 98, 1556, 1558, 62, 98, 1564].filterMap (fun i => ax_big[i]?) := by decide +kernel
theorem k4_X11_putValue : (ax_needs ax_T ax_n9 ax_j9 ax_m9 aD_X11_putValue).all goodWord = true := by decide +kernel
theorem ok_X11_putValue : ax_okM ax_Ss ax_T ax_n9 ax_j9 ax_m9 aD_X11_putValue := ax_okM_of (fun q h => of_decide_eq_true (List.all_eq_true.mp k1_X11_putValue q h)) k2_X11_putValue (ax_W_of _ k3_X11_putValue k4_X11_putValue) (by decide +kernel) (fun pc q h => by cases h)
theorem k1_X11_shapeBytes : (at_X11_shapeBytes).all (fun q => decide (decode cX11_shapeBytes q.1 = .ok (q.2.1, q.2.2.1))) = true := by decide +kernel
theorem k2_X11_shapeBytes : ax_chks ax_T aD_X11_shapeBytes = true := by decide +kernel
theorem k3_X11_shapeBytes : ax_needs ax_T ax_n9 ax_j9 ax_m9 aD_X11_shapeBytes = [1241, 1243, 1412, 1414, 40, 98, 1521, 98, 1520, 1222, 1521, 98, 1520, 1225, 1226, 1521, 98, 1520, 1227, 1521, 98, 1520, 1537].filterMap (fun i => ax_big[i]?) := by decide +kernel
theorem k4_X11_shapeBytes : (ax_needs ax_T ax_n9 ax_j9 ax_m9 aD_X11_shapeBytes).all goodWord = true := by decide +kernel
theorem ok_X11_shapeBytes : ax_okM ax_Ss ax_T ax_n9 ax_j9 ax_m9 aD_X11_shapeBytes := ax_okM_of (fun q h => of_decide_eq_true (List.all_eq_true.mp k1_X11_shapeBytes q h)) k2_X11_shapeBytes (ax_W_of _ k3_X11_shapeBytes k4_X11_shapeBytes) (by decide +kernel) (fun pc q h => by cases h)
theorem k1_X11_isSection : (at_X11_isSection).all (fun q => decide (decode cX11_isSection q.1 = .ok (q.2.1, q.2.2.1))) = true := by decide +kernel
theorem k2_X11_isSection : ax_chks ax_T aD_X11_isSection = true := by decide +kernel
theorem k3_X11_isSection : ax_needs ax_T ax_n9 ax_j9 ax_m9 aD_X11_isSection = [1576, 1398, 98, 1397, 1575].filterMap (fun i => ax_big[i]?) := by decide +kernel
theorem k4_X11_isSection : (ax_needs ax_T ax_n9 ax_j9 ax_m9 aD_X11_isSection).all goodWord = true := by decide +kernel
theorem ok_X11_isSection : ax_okM ax_Ss ax_T ax_n9 ax_j9 ax_m9 aD_X11_isSection := ax_okM_of (fun q h => of_decide_eq_true (List.all_eq_true.mp k1_X11_isSection q h)) k2_X11_isSection (ax_W_of _ k3_X11_isSection k4_X11_isSection) (by decide +kernel) (fun pc q h => by cases h)
theorem k1_X11_size : (at_X11_size).all (fun q => decide (decode cX11_size q.1 = .ok (q.2.1, q.2.2.1))) = true := by decide +kernel
theorem k2_X11_size : ax_chks ax_T aD_X11_size = true := by decide +kernel
theorem k3_X11_size : ax_needs ax_T ax_n9 ax_j9 ax_m9 aD_X11_size = [1574, 98, 1573, 1389, 1391, 38, 98, 1235, 1572].filterMap (fun i => ax_big[i]?) := by decide +kernel
theorem k4_X11_size : (ax_needs ax_T ax_n9 ax_j9 ax_m9 aD_X11_size).all goodWord = true := by decide +kernel
theorem ok_X11_size : ax_okM ax_Ss ax_T ax_n9 ax_j9 ax_m9 aD_X11_size := ax_okM_of (fun q h => of_decide_eq_true (List.all_eq_true.mp k1_X11_size q h)) k2_X11_size (ax_W_of _ k3_X11_size k4_X11_size) (by decide +kernel) (fun pc q h => by cases h)
theorem k1_X11_isOctet : (at_X11_isOctet).all (fun q => decide (decode cX11_isOctet q.1 = .ok (q.2.1, q.2.2.1))) = true := by decide +kernel
theorem k2_X11_isOctet : ax_chks ax_T aD_X11_isOctet = true := by decide +kernel
theorem k3_X11_isOctet : ax_needs ax_T ax_n9 ax_j9 ax_m9 aD_X11_isOctet = [1574, 98, 1573, 1235, 1398, 98, 1397, 1584].filterMap (fun i => ax_big[i]?) := by decide +kernel
theorem k4_X11_isOctet : (ax_needs ax_T ax_n9 ax_j9 ax_m9 aD_X11_isOctet).all goodWord = true := by decide +kernel
theorem ok_X11_isOctet : ax_okM ax_Ss ax_T ax_n9 ax_j9 ax_m9 aD_X11_isOctet := ax_okM_of (fun q h => of_decide_eq_true (List.all_eq_true.mp k1_X11_isOctet q h)) k2_X11_isOctet (ax_W_of _ k3_X11_isOctet k4_X11_isOctet) (by decide +kernel) (fun pc q h => by cases h)
theorem k1_X11_octet : (at_X11_octet).all (fun q => decide (decode cX11_octet q.1 = .ok (q.2.1, q.2.2.1))) = true := by decide +kernel
theorem k2_X11_octet : ax_chks ax_T aD_X11_octet = true := by decide +kernel
theorem k3_X11_octet : ax_needs ax_T ax_n9 ax_j9 ax_m9 aD_X11_octet = [1581, 1583, 65, 98, 1389, 1391, 38, 98, 1234, 1542, 98, 1541, 1580].filterMap (fun i => ax_big[i]?) := by decide +kernel
theorem k4_X11_octet : (ax_needs ax_T ax_n9 ax_j9 ax_m9 aD_X11_octet).all goodWord = true := by decide +kernel
theorem ok_X11_octet : ax_okM ax_Ss ax_T ax_n9 ax_j9 ax_m9 aD_X11_octet := ax_okM_of (fun q h => of_decide_eq_true (List.all_eq_true.mp k1_X11_octet q h)) k2_X11_octet (ax_W_of _ k3_X11_octet k4_X11_octet) (by decide +kernel) (fun pc q h => by cases h)
theorem k1_X11_load : (at_X11_load).all (fun q => decide (decode cX11_load q.1 = .ok (q.2.1, q.2.2.1))) = true := by decide +kernel
theorem k2_X11_load : ax_chks ax_T aD_X11_load = true := by decide +kernel
theorem k3_X11_load : ax_needs ax_T ax_n9 ax_j9 ax_m9 aD_X11_load = [1574, 98, 1573, 1217, 1539, 98, 1538, 1215, 1215, 1217, 1234, 1542, 98, 1541, 1216, 1235, 1217, 1217, 1235, 1588].filterMap (fun i => ax_big[i]?) := by decide +kernel
theorem k4_X11_load : (ax_needs ax_T ax_n9 ax_j9 ax_m9 aD_X11_load).all goodWord = true := by decide +kernel
theorem ok_X11_load : ax_okM ax_Ss ax_T ax_n9 ax_j9 ax_m9 aD_X11_load := ax_okM_of (fun q h => of_decide_eq_true (List.all_eq_true.mp k1_X11_load q h)) k2_X11_load (ax_W_of _ k3_X11_load k4_X11_load) (by decide +kernel) (fun pc q h => by cases h)
theorem k1_X11_alter : (at_X11_alter).all (fun q => decide (decode cX11_alter q.1 = .ok (q.2.1, q.2.2.1))) = true := by decide +kernel
theorem k2_X11_alter : ax_chks ax_T aD_X11_alter = true := by decide +kernel
theorem k3_X11_alter : ax_needs ax_T ax_n9 ax_j9 ax_m9 aD_X11_alter = [1581, 1583, 65, 98, 1389, 1391, 38, 98, 1542, 98, 1541, 1234, 1234, 1234, 1592].filterMap (fun i => ax_big[i]?) := by decide +kernel
theorem k4_X11_alter : (ax_needs ax_T ax_n9 ax_j9 ax_m9 aD_X11_alter).all goodWord = true := by decide +kernel
theorem ok_X11_alter : ax_okM ax_Ss ax_T ax_n9 ax_j9 ax_m9 aD_X11_alter := ax_okM_of (fun q h => of_decide_eq_true (List.all_eq_true.mp k1_X11_alter q h)) k2_X11_alter (ax_W_of _ k3_X11_alter k4_X11_alter) (by decide +kernel) (fun pc q h => by cases h)
theorem k1_X11_bad : (at_X11_bad).all (fun q => decide (decode cX11_bad q.1 = .ok (q.2.1, q.2.2.1))) = true := by decide +kernel
theorem k2_X11_bad : ax_chks ax_T aD_X11_bad = true := by decide +kernel
theorem k3_X11_bad : ax_needs ax_T ax_n9 ax_j9 ax_m9 aD_X11_bad = [1252, 1252, 1253, 1254, 1608].filterMap (fun i => ax_big[i]?) := by decide +kernel
theorem k4_X11_bad : (ax_needs ax_T ax_n9 ax_j9 ax_m9 aD_X11_bad).all goodWord = true := by decide +kernel
theorem ok_X11_bad : ax_okM ax_Ss ax_T ax_n9 ax_j9 ax_m9 aD_X11_bad := ax_okM_of (fun q h => of_decide_eq_true (List.all_eq_true.mp k1_X11_bad q h)) k2_X11_bad (ax_W_of _ k3_X11_bad k4_X11_bad) (by decide +kernel) (fun pc q h => by cases h)
theorem k1_X11_byteAt : (at_X11_byteAt).all (fun q => decide (decode cX11_byteAt q.1 = .ok (q.2.1, q.2.2.1))) = true := by decide +kernel
theorem k2_X11_byteAt : ax_chks ax_T aD_X11_byteAt = true := by decide +kernel
theorem k3_X11_byteAt : ax_needs ax_T ax_n9 ax_j9 ax_m9 aD_X11_byteAt = [1234, 1257, 1542, 98, 1541, 1620].filterMap (fun i => ax_big[i]?) := by decide +kernel
theorem k4_X11_byteAt : (ax_needs ax_T ax_n9 ax_j9 ax_m9 aD_X11_byteAt).all goodWord = true := by decide +kernel
theorem ok_X11_byteAt : ax_okM ax_Ss ax_T ax_n9 ax_j9 ax_m9 aD_X11_byteAt := ax_okM_of (fun q h => of_decide_eq_true (List.all_eq_true.mp k1_X11_byteAt q h)) k2_X11_byteAt (ax_W_of _ k3_X11_byteAt k4_X11_byteAt) (by decide +kernel) (fun pc q h => by cases h)
theorem k1_X11_has : (at_X11_has).all (fun q => decide (decode cX11_has q.1 = .ok (q.2.1, q.2.2.1))) = true := by decide +kernel
theorem k2_X11_has : ax_chks ax_T aD_X11_has = true := by decide +kernel
theorem k3_X11_has : ax_needs ax_T ax_n9 ax_j9 ax_m9 aD_X11_has = [1252, 1255, 1256, 1257, 1256, 1605, 1607, 68, 98, 1252, 1616].filterMap (fun i => ax_big[i]?) := by decide +kernel
theorem k4_X11_has : (ax_needs ax_T ax_n9 ax_j9 ax_m9 aD_X11_has).all goodWord = true := by decide +kernel
theorem ok_X11_has : ax_okM ax_Ss ax_T ax_n9 ax_j9 ax_m9 aD_X11_has := ax_okM_of (fun q h => of_decide_eq_true (List.all_eq_true.mp k1_X11_has q h)) k2_X11_has (ax_W_of _ k3_X11_has k4_X11_has) (by decide +kernel) (fun pc q h => by cases h)
theorem k1_X11_fixed : (at_X11_fixed).all (fun q => decide (decode cX11_fixed q.1 = .ok (q.2.1, q.2.2.1))) = true := by decide +kernel
theorem k2_X11_fixed : ax_chks ax_T aD_X11_fixed = true := by decide +kernel
theorem k3_X11_fixed : ax_needs ax_T ax_n9 ax_j9 ax_m9 aD_X11_fixed = [1613, 1615, 70, 98, 1255, 1617, 1619, 71, 98, 1255, 1255, 1612].filterMap (fun i => ax_big[i]?) := by decide +kernel
theorem k4_X11_fixed : (ax_needs ax_T ax_n9 ax_j9 ax_m9 aD_X11_fixed).all goodWord = true := by decide +kernel
theorem ok_X11_fixed : ax_okM ax_Ss ax_T ax_n9 ax_j9 ax_m9 aD_X11_fixed := ax_okM_of (fun q h => of_decide_eq_true (List.all_eq_true.mp k1_X11_fixed q h)) k2_X11_fixed (ax_W_of _ k3_X11_fixed k4_X11_fixed) (by decide +kernel) (fun pc q h => by cases h)
theorem k1_X11_row : (at_X11_row).all (fun q => decide (decode cX11_row q.1 = .ok (q.2.1, q.2.2.1))) = true := by decide +kernel
theorem k2_X11_row : ax_chks ax_T aD_X11_row = true := by decide +kernel
theorem k3_X11_row : ax_needs ax_T ax_n9 ax_j9 ax_m9 aD_X11_row = [1255, 1613, 1615, 70, 98, 1255, 1617, 1619, 71, 98, 1255, 1255, 1257, 1605, 1607, 68, 98, 1523, 1635, 1257, 1605, 1607, 68, 98, 1257, 1605, 1607, 68, 98, 1634].filterMap (fun i => ax_big[i]?) := by decide +kernel
theorem k4_X11_row : (ax_needs ax_T ax_n9 ax_j9 ax_m9 aD_X11_row).all goodWord = true := by decide +kernel
theorem ok_X11_row : ax_okM ax_Ss ax_T ax_n9 ax_j9 ax_m9 aD_X11_row := ax_okM_of (fun q h => of_decide_eq_true (List.all_eq_true.mp k1_X11_row q h)) k2_X11_row (ax_W_of _ k3_X11_row k4_X11_row) (by decide +kernel) (fun pc q h => by cases h)
theorem k1_X11_shapeNumbered : (at_X11_shapeNumbered).all (fun q => decide (decode cX11_shapeNumbered q.1 = .ok (q.2.1, q.2.2.1))) = true := by decide +kernel
theorem k2_X11_shapeNumbered : ax_chks ax_T aD_X11_shapeNumbered = true := by decide +kernel
theorem k3_X11_shapeNumbered : ax_needs ax_T ax_n9 ax_j9 ax_m9 aD_X11_shapeNumbered = [1258, 1259, 1656].filterMap (fun i => ax_big[i]?) := by decide +kernel
theorem k4_X11_shapeNumbered : (ax_needs ax_T ax_n9 ax_j9 ax_m9 aD_X11_shapeNumbered).all goodWord = true := by decide +kernel
theorem ok_X11_shapeNumbered : ax_okM ax_Ss ax_T ax_n9 ax_j9 ax_m9 aD_X11_shapeNumbered := ax_okM_of (fun q h => of_decide_eq_true (List.all_eq_true.mp k1_X11_shapeNumbered q h)) k2_X11_shapeNumbered (ax_W_of _ k3_X11_shapeNumbered k4_X11_shapeNumbered) (by decide +kernel) (fun pc q h => by cases h)
theorem k1_X11_textIs : (at_X11_textIs).all (fun q => decide (decode cX11_textIs q.1 = .ok (q.2.1, q.2.2.1))) = true := by decide +kernel
theorem k2_X11_textIs : ax_chks ax_T aD_X11_textIs = true := by decide +kernel
theorem k3_X11_textIs : ax_needs ax_T ax_n9 ax_j9 ax_m9 aD_X11_textIs = [1229, 1230, 1669].filterMap (fun i => ax_big[i]?) := by decide +kernel
theorem k4_X11_textIs : (ax_needs ax_T ax_n9 ax_j9 ax_m9 aD_X11_textIs).all goodWord = true := by decide +kernel
theorem ok_X11_textIs : ax_okM ax_Ss ax_T ax_n9 ax_j9 ax_m9 aD_X11_textIs := ax_okM_of (fun q h => of_decide_eq_true (List.all_eq_true.mp k1_X11_textIs q h)) k2_X11_textIs (ax_W_of _ k3_X11_textIs k4_X11_textIs) (by decide +kernel) (fun pc q h => by cases h)
theorem k1_X11_keep : (at_X11_keep).all (fun q => decide (decode cX11_keep q.1 = .ok (q.2.1, q.2.2.1))) = true := by decide +kernel
theorem k2_X11_keep : ax_chks ax_T aD_X11_keep = true := by decide +kernel
theorem k3_X11_keep : ax_needs ax_T ax_n9 ax_j9 ax_m9 aD_X11_keep = [1464, 1218, 1232, 1218, 1233, 1234, 1232, 1218, 1232, 1218, 1600].filterMap (fun i => ax_big[i]?) := by decide +kernel
theorem k4_X11_keep : (ax_needs ax_T ax_n9 ax_j9 ax_m9 aD_X11_keep).all goodWord = true := by decide +kernel
theorem ok_X11_keep : ax_okM ax_Ss ax_T ax_n9 ax_j9 ax_m9 aD_X11_keep := ax_okM_of (fun q h => of_decide_eq_true (List.all_eq_true.mp k1_X11_keep q h)) k2_X11_keep (ax_W_of _ k3_X11_keep k4_X11_keep) (by decide +kernel) (fun pc q h => by cases h)
theorem k1_X11_resolve : (at_X11_resolve).all (fun q => decide (decode cX11_resolve q.1 = .ok (q.2.1, q.2.2.1))) = true := by decide +kernel
theorem k2_X11_resolve : ax_chks ax_T aD_X11_resolve = true := by decide +kernel
theorem k3_X11_resolve : ax_needs ax_T ax_n9 ax_j9 ax_m9 aD_X11_resolve = [1412, 1414, 40, 98, 1225, 1227, 1470, 98, 1469, 1219, 1218, 1265, 1228, 1266, 1218, 1605, 1607, 68, 98, 1228, 1677].filterMap (fun i => ax_big[i]?) := by decide +kernel
theorem k4_X11_resolve : (ax_needs ax_T ax_n9 ax_j9 ax_m9 aD_X11_resolve).all goodWord = true := by decide +kernel
theorem ok_X11_resolve : ax_okM ax_Ss ax_T ax_n9 ax_j9 ax_m9 aD_X11_resolve := ax_okM_of (fun q h => of_decide_eq_true (List.all_eq_true.mp k1_X11_resolve q h)) k2_X11_resolve (ax_W_of _ k3_X11_resolve k4_X11_resolve) (by decide +kernel) (fun pc q h => by cases h)
theorem k1_X11_fault : (at_X11_fault).all (fun q => decide (decode cX11_fault q.1 = .ok (q.2.1, q.2.2.1))) = true := by decide +kernel
theorem k2_X11_fault : ax_chks ax_T aD_X11_fault = true := by decide +kernel
theorem k3_X11_fault : ax_needs ax_T ax_n9 ax_j9 ax_m9 aD_X11_fault = [1398, 98, 1397, 1389, 1391, 38, 98, 1236, 1237, 1681].filterMap (fun i => ax_big[i]?) := by decide +kernel
theorem k4_X11_fault : (ax_needs ax_T ax_n9 ax_j9 ax_m9 aD_X11_fault).all goodWord = true := by decide +kernel
theorem ok_X11_fault : ax_okM ax_Ss ax_T ax_n9 ax_j9 ax_m9 aD_X11_fault := ax_okM_of (fun q h => of_decide_eq_true (List.all_eq_true.mp k1_X11_fault q h)) k2_X11_fault (ax_W_of _ k3_X11_fault k4_X11_fault) (by decide +kernel) (fun pc q h => by cases h)
theorem k1_X11_count : (at_X11_count).all (fun q => decide (decode cX11_count q.1 = .ok (q.2.1, q.2.2.1))) = true := by decide +kernel
theorem k2_X11_count : ax_chks ax_T aD_X11_count = true := by decide +kernel
theorem k3_X11_count : ax_needs ax_T ax_n9 ax_j9 ax_m9 aD_X11_count = [1686, 1398, 98, 1397, 1389, 1391, 38, 98, 1219, 1218, 1220, 1218, 1480, 1482, 47, 98, 1241, 1244, 1685].filterMap (fun i => ax_big[i]?) := by decide +kernel
theorem k4_X11_count : (ax_needs ax_T ax_n9 ax_j9 ax_m9 aD_X11_count).all goodWord = true := by decide +kernel
theorem ok_X11_count : ax_okM ax_Ss ax_T ax_n9 ax_j9 ax_m9 aD_X11_count := ax_okM_of (fun q h => of_decide_eq_true (List.all_eq_true.mp k1_X11_count q h)) k2_X11_count (ax_W_of _ k3_X11_count k4_X11_count) (by decide +kernel) (fun pc q h => by cases h)
theorem k1_X11_about : (at_X11_about).all (fun q => decide (decode cX11_about q.1 = .ok (q.2.1, q.2.2.1))) = true := by decide +kernel
theorem k2_X11_about : ax_chks ax_T aD_X11_about = true := by decide +kernel
theorem k3_X11_about : ax_needs ax_T ax_n9 ax_j9 ax_m9 aD_X11_about = [1420, 1422, 41, 98, 1691, 1398, 98, 1397, 1389, 1391, 38, 98, 1412, 1414, 40, 98, 1222, 1223, 1224, 1219, 1218, 1223, 1412, 1414, 40, 98, 1225, 1480, 1482, 47, 98, 1248, 1690].filterMap (fun i => ax_big[i]?) := by decide +kernel
theorem k4_X11_about : (ax_needs ax_T ax_n9 ax_j9 ax_m9 aD_X11_about).all goodWord = true := by decide +kernel
theorem ok_X11_about : ax_okM ax_Ss ax_T ax_n9 ax_j9 ax_m9 aD_X11_about := ax_okM_of (fun q h => of_decide_eq_true (List.all_eq_true.mp k1_X11_about q h)) k2_X11_about (ax_W_of _ k3_X11_about k4_X11_about) (by decide +kernel) (fun pc q h => by cases h)
theorem k1_X11_child : (at_X11_child).all (fun q => decide (decode cX11_child q.1 = .ok (q.2.1, q.2.2.1))) = true := by decide +kernel
theorem k2_X11_child : ax_chks ax_T aD_X11_child = true := by decide +kernel
theorem k3_X11_child : ax_needs ax_T ax_n9 ax_j9 ax_m9 aD_X11_child = [1420, 1422, 41, 98, 1389, 1391, 38, 98, 1219, 1218, 1223, 1412, 1414, 40, 98, 1695].filterMap (fun i => ax_big[i]?) := by decide +kernel
theorem k4_X11_child : (ax_needs ax_T ax_n9 ax_j9 ax_m9 aD_X11_child).all goodWord = true := by decide +kernel
theorem ok_X11_child : ax_okM ax_Ss ax_T ax_n9 ax_j9 ax_m9 aD_X11_child := ax_okM_of (fun q h => of_decide_eq_true (List.all_eq_true.mp k1_X11_child q h)) k2_X11_child (ax_W_of _ k3_X11_child k4_X11_child) (by decide +kernel) (fun pc q h => by cases h)
theorem k1_X11_root : (at_X11_root).all (fun q => decide (decode cX11_root q.1 = .ok (q.2.1, q.2.2.1))) = true := by decide +kernel
theorem k2_X11_root : ax_chks ax_T aD_X11_root = true := by decide +kernel
theorem k3_X11_root : ax_needs ax_T ax_n9 ax_j9 ax_m9 aD_X11_root = [1220, 1218, 1398, 98, 1397, 1389, 1391, 38, 98, 1221, 1218, 1699].filterMap (fun i => ax_big[i]?) := by decide +kernel
theorem k4_X11_root : (ax_needs ax_T ax_n9 ax_j9 ax_m9 aD_X11_root).all goodWord = true := by decide +kernel
theorem ok_X11_root : ax_okM ax_Ss ax_T ax_n9 ax_j9 ax_m9 aD_X11_root := ax_okM_of (fun q h => of_decide_eq_true (List.all_eq_true.mp k1_X11_root q h)) k2_X11_root (ax_W_of _ k3_X11_root k4_X11_root) (by decide +kernel) (fun pc q h => by cases h)
theorem k1_X11_isAttribute : (at_X11_isAttribute).all (fun q => decide (decode cX11_isAttribute q.1 = .ok (q.2.1, q.2.2.1))) = true := by decide +kernel
theorem k2_X11_isAttribute : ax_chks ax_T aD_X11_isAttribute = true := by decide +kernel
theorem k3_X11_isAttribute : ax_needs ax_T ax_n9 ax_j9 ax_m9 aD_X11_isAttribute = [1420, 1422, 41, 98, 1225, 1412, 1414, 40, 98, 1398, 98, 1397, 1707].filterMap (fun i => ax_big[i]?) := by decide +kernel
theorem k4_X11_isAttribute : (ax_needs ax_T ax_n9 ax_j9 ax_m9 aD_X11_isAttribute).all goodWord = true := by decide +kernel
theorem ok_X11_isAttribute : ax_okM ax_Ss ax_T ax_n9 ax_j9 ax_m9 aD_X11_isAttribute := ax_okM_of (fun q h => of_decide_eq_true (List.all_eq_true.mp k1_X11_isAttribute q h)) k2_X11_isAttribute (ax_W_of _ k3_X11_isAttribute k4_X11_isAttribute) (by decide +kernel) (fun pc q h => by cases h)
theorem k1_X11_attribute : (at_X11_attribute).all (fun q => decide (decode cX11_attribute q.1 = .ok (q.2.1, q.2.2.1))) = true := by decide +kernel
theorem k2_X11_attribute : ax_chks ax_T aD_X11_attribute = true := by decide +kernel
theorem k3_X11_attribute : ax_needs ax_T ax_n9 ax_j9 ax_m9 aD_X11_attribute = [1704, 1706, 84, 98, 1576, 1398, 98, 1397, 1389, 1391, 38, 98, 1412, 1414, 40, 98, 1226, 1227, 1230, 1703].filterMap (fun i => ax_big[i]?) := by decide +kernel
theorem k4_X11_attribute : (ax_needs ax_T ax_n9 ax_j9 ax_m9 aD_X11_attribute).all goodWord = true := by decide +kernel
theorem ok_X11_attribute : ax_okM ax_Ss ax_T ax_n9 ax_j9 ax_m9 aD_X11_attribute := ax_okM_of (fun q h => of_decide_eq_true (List.all_eq_true.mp k1_X11_attribute q h)) k2_X11_attribute (ax_W_of _ k3_X11_attribute k4_X11_attribute) (by decide +kernel) (fun pc q h => by cases h)
theorem k1_X11_value : (at_X11_value).all (fun q => decide (decode cX11_value q.1 = .ok (q.2.1, q.2.2.1))) = true := by decide +kernel
theorem k2_X11_value : ax_chks ax_T aD_X11_value = true := by decide +kernel
theorem k3_X11_value : ax_needs ax_T ax_n9 ax_j9 ax_m9 aD_X11_value = [1704, 1706, 84, 98, 1389, 1391, 38, 98, 1412, 1414, 40, 98, 1227, 1458, 98, 1457, 1227, 1228, 1711].filterMap (fun i => ax_big[i]?) := by decide +kernel
theorem k4_X11_value : (ax_needs ax_T ax_n9 ax_j9 ax_m9 aD_X11_value).all goodWord = true := by decide +kernel
theorem ok_X11_value : ax_okM ax_Ss ax_T ax_n9 ax_j9 ax_m9 aD_X11_value := ax_okM_of (fun q h => of_decide_eq_true (List.all_eq_true.mp k1_X11_value q h)) k2_X11_value (ax_W_of _ k3_X11_value k4_X11_value) (by decide +kernel) (fun pc q h => by cases h)
theorem k1_X11_letter : (at_X11_letter).all (fun q => decide (decode cX11_letter q.1 = .ok (q.2.1, q.2.2.1))) = true := by decide +kernel
theorem k2_X11_letter : ax_chks ax_T aD_X11_letter = true := by decide +kernel
theorem k3_X11_letter : ax_needs ax_T ax_n9 ax_j9 ax_m9 aD_X11_letter = [1704, 1706, 84, 98, 1230, 1412, 1414, 40, 98, 1398, 98, 1397, 1389, 1391, 38, 98, 1233, 1229, 1412, 1414, 40, 98, 1715].filterMap (fun i => ax_big[i]?) := by decide +kernel
theorem k4_X11_letter : (ax_needs ax_T ax_n9 ax_j9 ax_m9 aD_X11_letter).all goodWord = true := by decide +kernel
theorem ok_X11_letter : ax_okM ax_Ss ax_T ax_n9 ax_j9 ax_m9 aD_X11_letter := ax_okM_of (fun q h => of_decide_eq_true (List.all_eq_true.mp k1_X11_letter q h)) k2_X11_letter (ax_W_of _ k3_X11_letter k4_X11_letter) (by decide +kernel) (fun pc q h => by cases h)
theorem k1_X11_isNamed : (at_X11_isNamed).all (fun q => decide (decode cX11_isNamed q.1 = .ok (q.2.1, q.2.2.1))) = true := by decide +kernel
theorem k2_X11_isNamed : ax_chks ax_T aD_X11_isNamed = true := by decide +kernel
theorem k3_X11_isNamed : ax_needs ax_T ax_n9 ax_j9 ax_m9 aD_X11_isNamed = [1412, 1414, 40, 98, 1225, 1226, 1227, 1458, 98, 1457, 1230, 1233, 1229, 1216, 1723].filterMap (fun i => ax_big[i]?) := by decide +kernel
theorem k4_X11_isNamed : (ax_needs ax_T ax_n9 ax_j9 ax_m9 aD_X11_isNamed).all goodWord = true := by decide +kernel
theorem ok_X11_isNamed : ax_okM ax_Ss ax_T ax_n9 ax_j9 ax_m9 aD_X11_isNamed := ax_okM_of (fun q h => of_decide_eq_true (List.all_eq_true.mp k1_X11_isNamed q h)) k2_X11_isNamed (ax_W_of _ k3_X11_isNamed k4_X11_isNamed) (by decide +kernel) (fun pc q h => by cases h)
theorem k1_X11_find : (at_X11_find).all (fun q => decide (decode cX11_find q.1 = .ok (q.2.1, q.2.2.1))) = true := by decide +kernel
theorem k2_X11_find : ax_chks ax_T aD_X11_find = true := by decide +kernel
theorem k3_X11_find : ax_needs ax_T ax_n9 ax_j9 ax_m9 aD_X11_find = [1420, 1422, 41, 98, 1389, 1391, 38, 98, 1217, 1217, 1219, 1218, 1223, 1412, 1414, 40, 98, 1720, 1722, 85, 98, 1719].filterMap (fun i => ax_big[i]?) := by decide +kernel
theorem k4_X11_find : (ax_needs ax_T ax_n9 ax_j9 ax_m9 aD_X11_find).all goodWord = true := by decide +kernel
theorem ok_X11_find : ax_okM ax_Ss ax_T ax_n9 ax_j9 ax_m9 aD_X11_find := ax_okM_of (fun q h => of_decide_eq_true (List.all_eq_true.mp k1_X11_find q h)) k2_X11_find (ax_W_of _ k3_X11_find k4_X11_find) (by decide +kernel) (fun pc q h => by cases h)
theorem k1_X11_numberNamed : (at_X11_numberNamed).all (fun q => decide (decode cX11_numberNamed q.1 = .ok (q.2.1, q.2.2.1))) = true := by decide +kernel
theorem k2_X11_numberNamed : ax_chks ax_T aD_X11_numberNamed = true := by decide +kernel
theorem k3_X11_numberNamed : ax_needs ax_T ax_n9 ax_j9 ax_m9 aD_X11_numberNamed = [1412, 1414, 40, 98, 1225, 1226, 1227, 1433, 98, 1432, 1731].filterMap (fun i => ax_big[i]?) := by decide +kernel
theorem k4_X11_numberNamed : (ax_needs ax_T ax_n9 ax_j9 ax_m9 aD_X11_numberNamed).all goodWord = true := by decide +kernel
theorem ok_X11_numberNamed : ax_okM ax_Ss ax_T ax_n9 ax_j9 ax_m9 aD_X11_numberNamed := ax_okM_of (fun q h => of_decide_eq_true (List.all_eq_true.mp k1_X11_numberNamed q h)) k2_X11_numberNamed (ax_W_of _ k3_X11_numberNamed k4_X11_numberNamed) (by decide +kernel) (fun pc q h => by cases h)
theorem k1_X11_isBelow : (at_X11_isBelow).all (fun q => decide (decode cX11_isBelow q.1 = .ok (q.2.1, q.2.2.1))) = true := by decide +kernel
theorem k2_X11_isBelow : ax_chks ax_T aD_X11_isBelow = true := by decide +kernel
theorem k3_X11_isBelow : ax_needs ax_T ax_n9 ax_j9 ax_m9 aD_X11_isBelow = [1735, 1735, 1734].filterMap (fun i => ax_big[i]?) := by decide +kernel
theorem k4_X11_isBelow : (ax_needs ax_T ax_n9 ax_j9 ax_m9 aD_X11_isBelow).all goodWord = true := by decide +kernel
theorem ok_X11_isBelow : ax_okM ax_Ss ax_T ax_n9 ax_j9 ax_m9 aD_X11_isBelow := ax_okM_of (fun q h => of_decide_eq_true (List.all_eq_true.mp k1_X11_isBelow q h)) k2_X11_isBelow (ax_W_of _ k3_X11_isBelow k4_X11_isBelow) (by decide +kernel) (fun pc q h => by cases h)
theorem k1_X11_covers : (at_X11_covers).all (fun q => decide (decode cX11_covers q.1 = .ok (q.2.1, q.2.2.1))) = true := by decide +kernel
theorem k2_X11_covers : ax_chks ax_T aD_X11_covers = true := by decide +kernel
theorem k3_X11_covers : ax_needs ax_T ax_n9 ax_j9 ax_m9 aD_X11_covers = [1215, 1219, 1218, 1728, 1730, 86, 98, 1728, 1730, 86, 98, 1228, 1733, 98, 1732, 1228, 1733, 98, 1732, 1424, 1426, 42, 98, 1424, 1426, 42, 98, 1727].filterMap (fun i => ax_big[i]?) := by decide +kernel
theorem k4_X11_covers : (ax_needs ax_T ax_n9 ax_j9 ax_m9 aD_X11_covers).all goodWord = true := by decide +kernel
theorem ok_X11_covers : ax_okM ax_Ss ax_T ax_n9 ax_j9 ax_m9 aD_X11_covers := ax_okM_of (fun q h => of_decide_eq_true (List.all_eq_true.mp k1_X11_covers q h)) k2_X11_covers (ax_W_of _ k3_X11_covers k4_X11_covers) (by decide +kernel) (fun pc q h => by cases h)
end
end
section
section
theorem k1_X11_write_0 : (((at_X11_write).drop 0).take 100).all (fun q => decide (decode cX11_write q.1 = .ok (q.2.1, q.2.2.1))) = true := by decide +kernel
theorem k1_X11_write_1 : (((at_X11_write).drop 100).take 100).all (fun q => decide (decode cX11_write q.1 = .ok (q.2.1, q.2.2.1))) = true := by decide +kernel
theorem k1_X11_write_2 : (((at_X11_write).drop 200).take 100).all (fun q => decide (decode cX11_write q.1 = .ok (q.2.1, q.2.2.1))) = true := by decide +kernel
theorem k1_X11_write : (at_X11_write).all (fun q => decide (decode cX11_write q.1 = .ok (q.2.1, q.2.2.1))) = true := ax_alln 3 (fun i hi => match i, hi with | 0, _ => k1_X11_write_0 | 1, _ => k1_X11_write_1 | 2, _ => k1_X11_write_2 | n + 3, h => absurd h (by omega)) (by decide +kernel)
theorem k2_X11_write : ax_chks ax_T aD_X11_write = true := by decide +kernel
theorem k3_X11_write : ax_needs ax_T ax_n9 ax_j9 ax_m9 aD_X11_write = [1215, 1480, 1482, 47, 98, 1220, 1218, 1250, 1534, 1536, 58, 98, 1539, 98, 1538, 1539, 98, 1538, 1247, 1539, 98, 1538, 1235, 1235, 1235, 1247, 1542, 98, 1541, 1251, 1244, 1245, 1544, 1546, 59, 98, 1548, 1550, 60, 98, 1542, 98, 1541, 1251, 1241, 1243, 1412, 1414, 40, 98, 1552, 1554, 61, 98, 1222, 1552, 1554, 61, 98, 1243, 1488, 1490, 49, 98, 1548, 1550, 60, 98, 1225, 1226, 1552, 1554, 61, 98, 1227, 1552, 1554, 61, 98, 1548, 1550, 60, 98, 1548, 1550, 60, 98, 1548, 1550, 60, 98, 1251, 1238, 1239, 1412, 1414, 40, 98, 1223, 1250, 1224, 1556, 1558, 62, 98, 1560, 1556, 1558, 62, 98, 1556, 1558, 62, 98, 1548, 1550, 60, 98, 1242, 1552, 1554, 61, 98, 1225, 1561, 1563, 63, 98, 1240, 1548, 1550, 60, 98, 1235, 1235, 1235, 1479].filterMap (fun i => ax_big[i]?) := by decide +kernel
theorem k4_X11_write : (ax_needs ax_T ax_n9 ax_j9 ax_m9 aD_X11_write).all goodWord = true := by decide +kernel
theorem ok_X11_write : ax_okM ax_Ss ax_T ax_n9 ax_j9 ax_m9 aD_X11_write := ax_okM_of (fun q h => of_decide_eq_true (List.all_eq_true.mp k1_X11_write q h)) k2_X11_write (ax_W_of _ k3_X11_write k4_X11_write) (by decide +kernel) (fun pc q h => by cases h)
theorem k1_X11_readTable : (at_X11_readTable).all (fun q => decide (decode cX11_readTable q.1 = .ok (q.2.1, q.2.2.1))) = true := by decide +kernel
theorem k2_X11_readTable : ax_chks ax_T aD_X11_readTable = true := by decide +kernel
theorem k3_X11_readTable : ax_needs ax_T ax_n9 ax_j9 ax_m9 aD_X11_readTable = [1257, 1255, 1235, 1256, 1258, 1252, 1626, 1628, 73, 98, 1625].filterMap (fun i => ax_big[i]?) := by decide +kernel
theorem k4_X11_readTable : (ax_needs ax_T ax_n9 ax_j9 ax_m9 aD_X11_readTable).all goodWord = true := by decide +kernel
theorem ok_X11_readTable : ax_okM ax_Ss ax_T ax_n9 ax_j9 ax_m9 aD_X11_readTable := ax_okM_of (fun q h => of_decide_eq_true (List.all_eq_true.mp k1_X11_readTable q h)) k2_X11_readTable (ax_W_of _ k3_X11_readTable k4_X11_readTable) (by decide +kernel) (fun pc q h => by cases h)
theorem k1_X11_readShape_0 : (((at_X11_readShape).drop 0).take 100).all (fun q => decide (decode cX11_readShape q.1 = .ok (q.2.1, q.2.2.1))) = true := by decide +kernel
theorem k1_X11_readShape_1 : (((at_X11_readShape).drop 100).take 100).all (fun q => decide (decode cX11_readShape q.1 = .ok (q.2.1, q.2.2.1))) = true := by decide +kernel
theorem k1_X11_readShape : (at_X11_readShape).all (fun q => decide (decode cX11_readShape q.1 = .ok (q.2.1, q.2.2.1))) = true := ax_alln 2 (fun i hi => match i, hi with | 0, _ => k1_X11_readShape_0 | 1, _ => k1_X11_readShape_1 | n + 2, h => absurd h (by omega)) (by decide +kernel)
theorem k2_X11_readShape : ax_chks ax_T aD_X11_readShape = true := by decide +kernel
theorem k3_X11_readShape : ax_needs ax_T ax_n9 ax_j9 ax_m9 aD_X11_readShape = [1255, 1630, 1631, 1633, 74, 98, 1252, 1258, 1259, 1605, 1607, 68, 98, 1258, 1605, 1607, 68, 98, 1252, 1259, 1258, 1255, 1630, 1631, 1633, 74, 98, 1252, 1405, 98, 1404, 1605, 1607, 68, 98, 1260, 1258, 1255, 1609, 1611, 69, 98, 1252, 1605, 1607, 68, 98, 1261, 1258, 1262, 1258, 1252, 1636, 1638, 75, 98, 1258, 1258, 1629].filterMap (fun i => ax_big[i]?) := by decide +kernel
theorem k4_X11_readShape : (ax_needs ax_T ax_n9 ax_j9 ax_m9 aD_X11_readShape).all goodWord = true := by decide +kernel
theorem ok_X11_readShape : ax_okM ax_Ss ax_T ax_n9 ax_j9 ax_m9 aD_X11_readShape := ax_okM_of (fun q h => of_decide_eq_true (List.all_eq_true.mp k1_X11_readShape q h)) k2_X11_readShape (ax_W_of _ k3_X11_readShape k4_X11_readShape) (by decide +kernel) (fun pc q h => by cases h)
theorem k1_X11_readPair_0 : (((at_X11_readPair).drop 0).take 100).all (fun q => decide (decode cX11_readPair q.1 = .ok (q.2.1, q.2.2.1))) = true := by decide +kernel
theorem k1_X11_readPair_1 : (((at_X11_readPair).drop 100).take 100).all (fun q => decide (decode cX11_readPair q.1 = .ok (q.2.1, q.2.2.1))) = true := by decide +kernel
theorem k1_X11_readPair : (at_X11_readPair).all (fun q => decide (decode cX11_readPair q.1 = .ok (q.2.1, q.2.2.1))) = true := ax_alln 2 (fun i hi => match i, hi with | 0, _ => k1_X11_readPair_0 | 1, _ => k1_X11_readPair_1 | n + 2, h => absurd h (by omega)) (by decide +kernel)
theorem k2_X11_readPair : ax_chks ax_T aD_X11_readPair = true := by decide +kernel
theorem k3_X11_readPair : ax_needs ax_T ax_n9 ax_j9 ax_m9 aD_X11_readPair = [1255, 1630, 1631, 1633, 74, 98, 1252, 1262, 1258, 1263, 1258, 1605, 1607, 68, 98, 1605, 1607, 68, 98, 1252, 1255, 1630, 1631, 1633, 74, 98, 1252, 1605, 1607, 68, 98, 1641, 98, 1640, 1605, 1607, 68, 98, 1252, 1263, 1258, 1264, 1258, 1262, 1258, 1639].filterMap (fun i => ax_big[i]?) := by decide +kernel
theorem k4_X11_readPair : (ax_needs ax_T ax_n9 ax_j9 ax_m9 aD_X11_readPair).all goodWord = true := by decide +kernel
theorem ok_X11_readPair : ax_okM ax_Ss ax_T ax_n9 ax_j9 ax_m9 aD_X11_readPair := ax_okM_of (fun q h => of_decide_eq_true (List.all_eq_true.mp k1_X11_readPair q h)) k2_X11_readPair (ax_W_of _ k3_X11_readPair k4_X11_readPair) (by decide +kernel) (fun pc q h => by cases h)
theorem k1_X11_readText8 : (at_X11_readText8).all (fun q => decide (decode cX11_readText8 q.1 = .ok (q.2.1, q.2.2.1))) = true := by decide +kernel
theorem k2_X11_readText8 : ax_chks ax_T aD_X11_readText8 = true := by decide +kernel
theorem k3_X11_readText8 : ax_needs ax_T ax_n9 ax_j9 ax_m9 aD_X11_readText8 = [1255, 1252, 1613, 1615, 70, 98, 1255, 1617, 1619, 71, 98, 1605, 1607, 68, 98, 1542, 98, 1541, 1597, 1599, 66, 98, 1666, 1668, 81, 98, 1255, 1255, 1255, 1255, 1665].filterMap (fun i => ax_big[i]?) := by decide +kernel
theorem k4_X11_readText8 : (ax_needs ax_T ax_n9 ax_j9 ax_m9 aD_X11_readText8).all goodWord = true := by decide +kernel
theorem ok_X11_readText8 : ax_okM ax_Ss ax_T ax_n9 ax_j9 ax_m9 aD_X11_readText8 := ax_okM_of (fun q h => of_decide_eq_true (List.all_eq_true.mp k1_X11_readText8 q h)) k2_X11_readText8 (ax_W_of _ k3_X11_readText8 k4_X11_readText8) (by decide +kernel) (fun pc q h => by cases h)
theorem k1_X11_readText14 : (at_X11_readText14).all (fun q => decide (decode cX11_readText14 q.1 = .ok (q.2.1, q.2.2.1))) = true := by decide +kernel
theorem k2_X11_readText14 : ax_chks ax_T aD_X11_readText14 = true := by decide +kernel
theorem k3_X11_readText14 : ax_needs ax_T ax_n9 ax_j9 ax_m9 aD_X11_readText14 = [1255, 1609, 1611, 69, 98, 1252, 1235, 1234, 1542, 98, 1541, 1235, 1605, 1607, 68, 98, 1464, 1218, 1666, 1668, 81, 98, 1673].filterMap (fun i => ax_big[i]?) := by decide +kernel
theorem k4_X11_readText14 : (ax_needs ax_T ax_n9 ax_j9 ax_m9 aD_X11_readText14).all goodWord = true := by decide +kernel
theorem ok_X11_readText14 : ax_okM ax_Ss ax_T ax_n9 ax_j9 ax_m9 aD_X11_readText14 := ax_okM_of (fun q h => of_decide_eq_true (List.all_eq_true.mp k1_X11_readText14 q h)) k2_X11_readText14 (ax_W_of _ k3_X11_readText14 k4_X11_readText14) (by decide +kernel) (fun pc q h => by cases h)
theorem k1_X11_readValue_0 : (((at_X11_readValue).drop 0).take 100).all (fun q => decide (decode cX11_readValue q.1 = .ok (q.2.1, q.2.2.1))) = true := by decide +kernel
theorem k1_X11_readValue_1 : (((at_X11_readValue).drop 100).take 100).all (fun q => decide (decode cX11_readValue q.1 = .ok (q.2.1, q.2.2.1))) = true := by decide +kernel
theorem k1_X11_readValue : (at_X11_readValue).all (fun q => decide (decode cX11_readValue q.1 = .ok (q.2.1, q.2.2.1))) = true := ax_alln 2 (fun i hi => match i, hi with | 0, _ => k1_X11_readValue_0 | 1, _ => k1_X11_readValue_1 | n + 2, h => absurd h (by omega)) (by decide +kernel)
theorem k2_X11_readValue : ax_chks ax_T aD_X11_readValue = true := by decide +kernel
theorem k3_X11_readValue : ax_needs ax_T ax_n9 ax_j9 ax_m9 aD_X11_readValue = [1255, 1227, 1228, 1609, 1611, 69, 98, 1228, 1609, 1611, 69, 98, 1228, 1609, 1611, 69, 98, 1228, 1609, 1611, 69, 98, 1228, 1609, 1611, 69, 98, 1228, 1605, 1607, 68, 98, 1228, 1631, 1633, 74, 98, 1228, 1661, 1631, 1633, 74, 98, 1228, 1662, 1664, 80, 98, 1670, 1672, 82, 98, 1609, 1611, 69, 98, 1613, 1615, 70, 98, 1542, 98, 1541, 1255, 1597, 1599, 66, 98, 1666, 1668, 81, 98, 1255, 1255, 1266, 1218, 1255, 1228, 1227, 1609, 1611, 69, 98, 1630, 1631, 1633, 74, 98, 1660].filterMap (fun i => ax_big[i]?) := by decide +kernel
theorem k4_X11_readValue : (ax_needs ax_T ax_n9 ax_j9 ax_m9 aD_X11_readValue).all goodWord = true := by decide +kernel
theorem ok_X11_readValue : ax_okM ax_Ss ax_T ax_n9 ax_j9 ax_m9 aD_X11_readValue := ax_okM_of (fun q h => of_decide_eq_true (List.all_eq_true.mp k1_X11_readValue q h)) k2_X11_readValue (ax_W_of _ k3_X11_readValue k4_X11_readValue) (by decide +kernel) (fun pc q h => by cases h)
theorem k1_X11_readEntry_0 : (((at_X11_readEntry).drop 0).take 100).all (fun q => decide (decode cX11_readEntry q.1 = .ok (q.2.1, q.2.2.1))) = true := by decide +kernel
theorem k1_X11_readEntry_1 : (((at_X11_readEntry).drop 100).take 100).all (fun q => decide (decode cX11_readEntry q.1 = .ok (q.2.1, q.2.2.1))) = true := by decide +kernel
theorem k1_X11_readEntry : (at_X11_readEntry).all (fun q => decide (decode cX11_readEntry q.1 = .ok (q.2.1, q.2.2.1))) = true := ax_alln 2 (fun i hi => match i, hi with | 0, _ => k1_X11_readEntry_0 | 1, _ => k1_X11_readEntry_1 | n + 2, h => absurd h (by omega)) (by decide +kernel)
theorem k2_X11_readEntry : ax_chks ax_T aD_X11_readEntry = true := by decide +kernel
theorem k3_X11_readEntry : ax_needs ax_T ax_n9 ax_j9 ax_m9 aD_X11_readEntry = [1255, 1630, 1631, 1633, 74, 98, 1252, 1605, 1607, 68, 98, 1653, 1655, 78, 98, 1605, 1607, 68, 98, 1219, 1218, 1605, 1607, 68, 98, 1252, 1260, 1220, 1218, 1408, 1410, 39, 98, 1265, 1267, 1262, 1252, 1263, 1264, 1449, 1451, 45, 98, 1412, 1414, 40, 98, 1255, 1657, 1659, 79, 98, 1231, 1218, 1231, 1218, 1230, 1252, 1231, 1218, 1605, 1607, 68, 98, 1261, 1268, 1652].filterMap (fun i => ax_big[i]?) := by decide +kernel
theorem k4_X11_readEntry : (ax_needs ax_T ax_n9 ax_j9 ax_m9 aD_X11_readEntry).all goodWord = true := by decide +kernel
theorem ok_X11_readEntry : ax_okM ax_Ss ax_T ax_n9 ax_j9 ax_m9 aD_X11_readEntry := ax_okM_of (fun q h => of_decide_eq_true (List.all_eq_true.mp k1_X11_readEntry q h)) k2_X11_readEntry (ax_W_of _ k3_X11_readEntry k4_X11_readEntry) (by decide +kernel) (fun pc q h => by cases h)
theorem k1_X11_readEntries : (at_X11_readEntries).all (fun q => decide (decode cX11_readEntries q.1 = .ok (q.2.1, q.2.2.1))) = true := by decide +kernel
theorem k2_X11_readEntries : ax_chks ax_T aD_X11_readEntries = true := by decide +kernel
theorem k3_X11_readEntries : ax_needs ax_T ax_n9 ax_j9 ax_m9 aD_X11_readEntries = [1219, 1218, 1252, 1649, 1651, 77, 98, 1252, 1223, 1412, 1414, 40, 98, 1223, 1412, 1414, 40, 98, 1221, 1218, 1220, 1218, 1268, 1252, 1255, 1256, 1255, 1605, 1607, 68, 98, 1219, 1218, 1252, 1674, 1676, 83, 98, 1648].filterMap (fun i => ax_big[i]?) := by decide +kernel
theorem k4_X11_readEntries : (ax_needs ax_T ax_n9 ax_j9 ax_m9 aD_X11_readEntries).all goodWord = true := by decide +kernel
theorem ok_X11_readEntries : ax_okM ax_Ss ax_T ax_n9 ax_j9 ax_m9 aD_X11_readEntries := ax_okM_of (fun q h => of_decide_eq_true (List.all_eq_true.mp k1_X11_readEntries q h)) k2_X11_readEntries (ax_W_of _ k3_X11_readEntries k4_X11_readEntries) (by decide +kernel) (fun pc q h => by cases h)
theorem k1_X11_readUnit_0 : (((at_X11_readUnit).drop 0).take 100).all (fun q => decide (decode cX11_readUnit q.1 = .ok (q.2.1, q.2.2.1))) = true := by decide +kernel
theorem k1_X11_readUnit_1 : (((at_X11_readUnit).drop 100).take 100).all (fun q => decide (decode cX11_readUnit q.1 = .ok (q.2.1, q.2.2.1))) = true := by decide +kernel
theorem k1_X11_readUnit : (at_X11_readUnit).all (fun q => decide (decode cX11_readUnit q.1 = .ok (q.2.1, q.2.2.1))) = true := ax_alln 2 (fun i hi => match i, hi with | 0, _ => k1_X11_readUnit_0 | 1, _ => k1_X11_readUnit_1 | n + 2, h => absurd h (by omega)) (by decide +kernel)
theorem k2_X11_readUnit : ax_chks ax_T aD_X11_readUnit = true := by decide +kernel
theorem k3_X11_readUnit : ax_needs ax_T ax_n9 ax_j9 ax_m9 aD_X11_readUnit = [1267, 1257, 1235, 1256, 1255, 1220, 1218, 1605, 1607, 68, 98, 1609, 1611, 69, 98, 1252, 1560, 1235, 1605, 1607, 68, 98, 1252, 1256, 1609, 1611, 69, 98, 1560, 1605, 1607, 68, 98, 1609, 1611, 69, 98, 1252, 1235, 1605, 1607, 68, 98, 1609, 1611, 69, 98, 1621, 1605, 1607, 68, 98, 1252, 1220, 1218, 1269, 1622, 1624, 72, 98, 1269, 1252, 1220, 1218, 1257, 1255, 1256, 1645, 1647, 76, 98, 1255, 1604].filterMap (fun i => ax_big[i]?) := by decide +kernel
theorem k4_X11_readUnit : (ax_needs ax_T ax_n9 ax_j9 ax_m9 aD_X11_readUnit).all goodWord = true := by decide +kernel
theorem ok_X11_readUnit : ax_okM ax_Ss ax_T ax_n9 ax_j9 ax_m9 aD_X11_readUnit := ax_okM_of (fun q h => of_decide_eq_true (List.all_eq_true.mp k1_X11_readUnit q h)) k2_X11_readUnit (ax_W_of _ k3_X11_readUnit k4_X11_readUnit) (by decide +kernel) (fun pc q h => by cases h)
theorem k1_X11_read : (at_X11_read).all (fun q => decide (decode cX11_read q.1 = .ok (q.2.1, q.2.2.1))) = true := by decide +kernel
theorem k2_X11_read : ax_chks ax_T aD_X11_read = true := by decide +kernel
theorem k3_X11_read : ax_needs ax_T ax_n9 ax_j9 ax_m9 aD_X11_read = [1215, 1218, 1218, 1219, 1218, 1220, 1218, 1232, 1218, 1231, 1218, 1252, 1542, 98, 1541, 1235, 1597, 1599, 66, 98, 1252, 1235, 1601, 1603, 67, 98, 1255, 1252, 1218, 1218, 1253, 1236, 1254, 1237, 1252, 1236, 1237, 1219, 1218, 1596].filterMap (fun i => ax_big[i]?) := by decide +kernel
theorem k4_X11_read : (ax_needs ax_T ax_n9 ax_j9 ax_m9 aD_X11_read).all goodWord = true := by decide +kernel
theorem ok_X11_read : ax_okM ax_Ss ax_T ax_n9 ax_j9 ax_m9 aD_X11_read := ax_okM_of (fun q h => of_decide_eq_true (List.all_eq_true.mp k1_X11_read q h)) k2_X11_read (ax_W_of _ k3_X11_read k4_X11_read) (by decide +kernel) (fun pc q h => by cases h)
end
end
section
section
theorem k1_J7_fill_53178 : (at_J7_fill_53178).all (fun q => decide (decode cJ7_fill_53178 q.1 = .ok (q.2.1, q.2.2.1))) = true := by decide +kernel
theorem k2_J7_fill_53178 : ax_chks ax_T aD_J7_fill_53178 = true := by decide +kernel
theorem k3_J7_fill_53178 : ax_needs ax_T ax_n9 ax_j9 ax_m9 aD_J7_fill_53178 = [522].filterMap (fun i => ax_big[i]?) := by decide +kernel
theorem k4_J7_fill_53178 : (ax_needs ax_T ax_n9 ax_j9 ax_m9 aD_J7_fill_53178).all goodWord = true := by decide +kernel
theorem ok_J7_fill_53178 : ax_okM ax_Ss ax_T ax_n9 ax_j9 ax_m9 aD_J7_fill_53178 := ax_okM_of (fun q h => of_decide_eq_true (List.all_eq_true.mp k1_J7_fill_53178 q h)) k2_J7_fill_53178 (ax_W_of _ k3_J7_fill_53178 k4_J7_fill_53178) (by decide +kernel) (fun pc q h => by cases h)
theorem k1_L_feed : (at_L_feed).all (fun q => decide (decode cL_feed q.1 = .ok (q.2.1, q.2.2.1))) = true := by decide +kernel
theorem k2_L_feed : ax_chks ax_T aD_L_feed = true := by decide +kernel
theorem k3_L_feed : ax_needs ax_T ax_n9 ax_j9 ax_m9 aD_L_feed = [919, 920, 921, 88, 918, 917].filterMap (fun i => ax_big[i]?) := by decide +kernel
theorem k4_L_feed : (ax_needs ax_T ax_n9 ax_j9 ax_m9 aD_L_feed).all goodWord = true := by decide +kernel
theorem ok_L_feed : ax_okM ax_Ss ax_T ax_n9 ax_j9 ax_m9 aD_L_feed := ax_okM_of (fun q h => of_decide_eq_true (List.all_eq_true.mp k1_L_feed q h)) k2_L_feed (ax_W_of _ k3_L_feed k4_L_feed) (by decide +kernel) (fun pc q h => by cases h)
theorem k1_L_end : (at_L_end).all (fun q => decide (decode cL_end q.1 = .ok (q.2.1, q.2.2.1))) = true := by decide +kernel
theorem k2_L_end : ax_chks ax_T aD_L_end = true := by decide +kernel
theorem k3_L_end : ax_needs ax_T ax_n9 ax_j9 ax_m9 aD_L_end = [937, 938, 939, 88, 936, 935].filterMap (fun i => ax_big[i]?) := by decide +kernel
theorem k4_L_end : (ax_needs ax_T ax_n9 ax_j9 ax_m9 aD_L_end).all goodWord = true := by decide +kernel
theorem ok_L_end : ax_okM ax_Ss ax_T ax_n9 ax_j9 ax_m9 aD_L_end := ax_okM_of (fun q h => of_decide_eq_true (List.all_eq_true.mp k1_L_end q h)) k2_L_end (ax_W_of _ k3_L_end k4_L_end) (by decide +kernel) (fun pc q h => by cases h)
theorem k1_L_unit : (at_L_unit).all (fun q => decide (decode cL_unit q.1 = .ok (q.2.1, q.2.2.1))) = true := by decide +kernel
theorem k2_L_unit : ax_chks ax_T aD_L_unit = true := by decide +kernel
theorem k3_L_unit : ax_needs ax_T ax_n9 ax_j9 ax_m9 aD_L_unit = [961, 962, 963, 88, 936, 960, 959].filterMap (fun i => ax_big[i]?) := by decide +kernel
theorem k4_L_unit : (ax_needs ax_T ax_n9 ax_j9 ax_m9 aD_L_unit).all goodWord = true := by decide +kernel
theorem ok_L_unit : ax_okM ax_Ss ax_T ax_n9 ax_j9 ax_m9 aD_L_unit := ax_okM_of (fun q h => of_decide_eq_true (List.all_eq_true.mp k1_L_unit q h)) k2_L_unit (ax_W_of _ k3_L_unit k4_L_unit) (by decide +kernel) (fun pc q h => by cases h)
theorem k1_L_entry : (at_L_entry).all (fun q => decide (decode cL_entry q.1 = .ok (q.2.1, q.2.2.1))) = true := by decide +kernel
theorem k2_L_entry : ax_chks ax_T aD_L_entry = true := by decide +kernel
theorem k3_L_entry : ax_needs ax_T ax_n9 ax_j9 ax_m9 aD_L_entry = [992, 993, 994, 88, 991, 936, 960, 990].filterMap (fun i => ax_big[i]?) := by decide +kernel
theorem k4_L_entry : (ax_needs ax_T ax_n9 ax_j9 ax_m9 aD_L_entry).all goodWord = true := by decide +kernel
theorem ok_L_entry : ax_okM ax_Ss ax_T ax_n9 ax_j9 ax_m9 aD_L_entry := ax_okM_of (fun q h => of_decide_eq_true (List.all_eq_true.mp k1_L_entry q h)) k2_L_entry (ax_W_of _ k3_L_entry k4_L_entry) (by decide +kernel) (fun pc q h => by cases h)
theorem k1_L_number : (at_L_number).all (fun q => decide (decode cL_number q.1 = .ok (q.2.1, q.2.2.1))) = true := by decide +kernel
theorem k2_L_number : ax_chks ax_T aD_L_number = true := by decide +kernel
theorem k3_L_number : ax_needs ax_T ax_n9 ax_j9 ax_m9 aD_L_number = [1021, 1022, 1023, 88, 991, 936, 960, 1020].filterMap (fun i => ax_big[i]?) := by decide +kernel
theorem k4_L_number : (ax_needs ax_T ax_n9 ax_j9 ax_m9 aD_L_number).all goodWord = true := by decide +kernel
theorem ok_L_number : ax_okM ax_Ss ax_T ax_n9 ax_j9 ax_m9 aD_L_number := ax_okM_of (fun q h => of_decide_eq_true (List.all_eq_true.mp k1_L_number q h)) k2_L_number (ax_W_of _ k3_L_number k4_L_number) (by decide +kernel) (fun pc q h => by cases h)
theorem k1_L_bytes : (at_L_bytes).all (fun q => decide (decode cL_bytes q.1 = .ok (q.2.1, q.2.2.1))) = true := by decide +kernel
theorem k2_L_bytes : ax_chks ax_T aD_L_bytes = true := by decide +kernel
theorem k3_L_bytes : ax_needs ax_T ax_n9 ax_j9 ax_m9 aD_L_bytes = [1046, 1047, 1048, 88, 991, 936, 960, 1045].filterMap (fun i => ax_big[i]?) := by decide +kernel
theorem k4_L_bytes : (ax_needs ax_T ax_n9 ax_j9 ax_m9 aD_L_bytes).all goodWord = true := by decide +kernel
theorem ok_L_bytes : ax_okM ax_Ss ax_T ax_n9 ax_j9 ax_m9 aD_L_bytes := ax_okM_of (fun q h => of_decide_eq_true (List.all_eq_true.mp k1_L_bytes q h)) k2_L_bytes (ax_W_of _ k3_L_bytes k4_L_bytes) (by decide +kernel) (fun pc q h => by cases h)
theorem k1_L_reference : (at_L_reference).all (fun q => decide (decode cL_reference q.1 = .ok (q.2.1, q.2.2.1))) = true := by decide +kernel
theorem k2_L_reference : ax_chks ax_T aD_L_reference = true := by decide +kernel
theorem k3_L_reference : ax_needs ax_T ax_n9 ax_j9 ax_m9 aD_L_reference = [1060, 1061, 1062, 88, 991, 918, 936, 960, 1059].filterMap (fun i => ax_big[i]?) := by decide +kernel
theorem k4_L_reference : (ax_needs ax_T ax_n9 ax_j9 ax_m9 aD_L_reference).all goodWord = true := by decide +kernel
theorem ok_L_reference : ax_okM ax_Ss ax_T ax_n9 ax_j9 ax_m9 aD_L_reference := ax_okM_of (fun q h => of_decide_eq_true (List.all_eq_true.mp k1_L_reference q h)) k2_L_reference (ax_W_of _ k3_L_reference k4_L_reference) (by decide +kernel) (fun pc q h => by cases h)
theorem k1_L_size : (at_L_size).all (fun q => decide (decode cL_size q.1 = .ok (q.2.1, q.2.2.1))) = true := by decide +kernel
theorem k2_L_size : ax_chks ax_T aD_L_size = true := by decide +kernel
theorem k3_L_size : ax_needs ax_T ax_n9 ax_j9 ax_m9 aD_L_size = [1070, 1071, 1072, 88, 991, 1069].filterMap (fun i => ax_big[i]?) := by decide +kernel
theorem k4_L_size : (ax_needs ax_T ax_n9 ax_j9 ax_m9 aD_L_size).all goodWord = true := by decide +kernel
theorem ok_L_size : ax_okM ax_Ss ax_T ax_n9 ax_j9 ax_m9 aD_L_size := ax_okM_of (fun q h => of_decide_eq_true (List.all_eq_true.mp k1_L_size q h)) k2_L_size (ax_W_of _ k3_L_size k4_L_size) (by decide +kernel) (fun pc q h => by cases h)
theorem k1_L_octet : (at_L_octet).all (fun q => decide (decode cL_octet q.1 = .ok (q.2.1, q.2.2.1))) = true := by decide +kernel
theorem k2_L_octet : ax_chks ax_T aD_L_octet = true := by decide +kernel
theorem k3_L_octet : ax_needs ax_T ax_n9 ax_j9 ax_m9 aD_L_octet = [1083, 1084, 1085, 88, 991, 1082].filterMap (fun i => ax_big[i]?) := by decide +kernel
theorem k4_L_octet : (ax_needs ax_T ax_n9 ax_j9 ax_m9 aD_L_octet).all goodWord = true := by decide +kernel
theorem ok_L_octet : ax_okM ax_Ss ax_T ax_n9 ax_j9 ax_m9 aD_L_octet := ax_okM_of (fun q h => of_decide_eq_true (List.all_eq_true.mp k1_L_octet q h)) k2_L_octet (ax_W_of _ k3_L_octet k4_L_octet) (by decide +kernel) (fun pc q h => by cases h)
theorem k1_L_load : (at_L_load).all (fun q => decide (decode cL_load q.1 = .ok (q.2.1, q.2.2.1))) = true := by decide +kernel
theorem k2_L_load : ax_chks ax_T aD_L_load = true := by decide +kernel
theorem k3_L_load : ax_needs ax_T ax_n9 ax_j9 ax_m9 aD_L_load = [1096, 1097, 1098, 88, 991, 960, 1095].filterMap (fun i => ax_big[i]?) := by decide +kernel
theorem k4_L_load : (ax_needs ax_T ax_n9 ax_j9 ax_m9 aD_L_load).all goodWord = true := by decide +kernel
theorem ok_L_load : ax_okM ax_Ss ax_T ax_n9 ax_j9 ax_m9 aD_L_load := ax_okM_of (fun q h => of_decide_eq_true (List.all_eq_true.mp k1_L_load q h)) k2_L_load (ax_W_of _ k3_L_load k4_L_load) (by decide +kernel) (fun pc q h => by cases h)
theorem k1_L_alter : (at_L_alter).all (fun q => decide (decode cL_alter q.1 = .ok (q.2.1, q.2.2.1))) = true := by decide +kernel
theorem k2_L_alter : ax_chks ax_T aD_L_alter = true := by decide +kernel
theorem k3_L_alter : ax_needs ax_T ax_n9 ax_j9 ax_m9 aD_L_alter = [1108, 1109, 1110, 88, 991, 1107].filterMap (fun i => ax_big[i]?) := by decide +kernel
theorem k4_L_alter : (ax_needs ax_T ax_n9 ax_j9 ax_m9 aD_L_alter).all goodWord = true := by decide +kernel
theorem ok_L_alter : ax_okM ax_Ss ax_T ax_n9 ax_j9 ax_m9 aD_L_alter := ax_okM_of (fun q h => of_decide_eq_true (List.all_eq_true.mp k1_L_alter q h)) k2_L_alter (ax_W_of _ k3_L_alter k4_L_alter) (by decide +kernel) (fun pc q h => by cases h)
theorem k1_L_fault : (at_L_fault).all (fun q => decide (decode cL_fault q.1 = .ok (q.2.1, q.2.2.1))) = true := by decide +kernel
theorem k2_L_fault : ax_chks ax_T aD_L_fault = true := by decide +kernel
theorem k3_L_fault : ax_needs ax_T ax_n9 ax_j9 ax_m9 aD_L_fault = [1119, 1120, 1121, 88, 991, 1118].filterMap (fun i => ax_big[i]?) := by decide +kernel
theorem k4_L_fault : (ax_needs ax_T ax_n9 ax_j9 ax_m9 aD_L_fault).all goodWord = true := by decide +kernel
theorem ok_L_fault : ax_okM ax_Ss ax_T ax_n9 ax_j9 ax_m9 aD_L_fault := ax_okM_of (fun q h => of_decide_eq_true (List.all_eq_true.mp k1_L_fault q h)) k2_L_fault (ax_W_of _ k3_L_fault k4_L_fault) (by decide +kernel) (fun pc q h => by cases h)
theorem k1_L_count : (at_L_count).all (fun q => decide (decode cL_count q.1 = .ok (q.2.1, q.2.2.1))) = true := by decide +kernel
theorem k2_L_count : ax_chks ax_T aD_L_count = true := by decide +kernel
theorem k3_L_count : ax_needs ax_T ax_n9 ax_j9 ax_m9 aD_L_count = [1127, 1128, 1129, 88, 991, 1126].filterMap (fun i => ax_big[i]?) := by decide +kernel
theorem k4_L_count : (ax_needs ax_T ax_n9 ax_j9 ax_m9 aD_L_count).all goodWord = true := by decide +kernel
theorem ok_L_count : ax_okM ax_Ss ax_T ax_n9 ax_j9 ax_m9 aD_L_count := ax_okM_of (fun q h => of_decide_eq_true (List.all_eq_true.mp k1_L_count q h)) k2_L_count (ax_W_of _ k3_L_count k4_L_count) (by decide +kernel) (fun pc q h => by cases h)
theorem k1_L_about : (at_L_about).all (fun q => decide (decode cL_about q.1 = .ok (q.2.1, q.2.2.1))) = true := by decide +kernel
theorem k2_L_about : ax_chks ax_T aD_L_about = true := by decide +kernel
theorem k3_L_about : ax_needs ax_T ax_n9 ax_j9 ax_m9 aD_L_about = [1135, 1136, 1137, 88, 991, 1134].filterMap (fun i => ax_big[i]?) := by decide +kernel
theorem k4_L_about : (ax_needs ax_T ax_n9 ax_j9 ax_m9 aD_L_about).all goodWord = true := by decide +kernel
theorem ok_L_about : ax_okM ax_Ss ax_T ax_n9 ax_j9 ax_m9 aD_L_about := ax_okM_of (fun q h => of_decide_eq_true (List.all_eq_true.mp k1_L_about q h)) k2_L_about (ax_W_of _ k3_L_about k4_L_about) (by decide +kernel) (fun pc q h => by cases h)
theorem k1_L_child : (at_L_child).all (fun q => decide (decode cL_child q.1 = .ok (q.2.1, q.2.2.1))) = true := by decide +kernel
theorem k2_L_child : ax_chks ax_T aD_L_child = true := by decide +kernel
theorem k3_L_child : ax_needs ax_T ax_n9 ax_j9 ax_m9 aD_L_child = [1143, 1144, 1145, 88, 991, 1142].filterMap (fun i => ax_big[i]?) := by decide +kernel
theorem k4_L_child : (ax_needs ax_T ax_n9 ax_j9 ax_m9 aD_L_child).all goodWord = true := by decide +kernel
theorem ok_L_child : ax_okM ax_Ss ax_T ax_n9 ax_j9 ax_m9 aD_L_child := ax_okM_of (fun q h => of_decide_eq_true (List.all_eq_true.mp k1_L_child q h)) k2_L_child (ax_W_of _ k3_L_child k4_L_child) (by decide +kernel) (fun pc q h => by cases h)
theorem k1_L_root : (at_L_root).all (fun q => decide (decode cL_root q.1 = .ok (q.2.1, q.2.2.1))) = true := by decide +kernel
theorem k2_L_root : ax_chks ax_T aD_L_root = true := by decide +kernel
theorem k3_L_root : ax_needs ax_T ax_n9 ax_j9 ax_m9 aD_L_root = [1154, 1155, 1156, 88, 991, 1153].filterMap (fun i => ax_big[i]?) := by decide +kernel
theorem k4_L_root : (ax_needs ax_T ax_n9 ax_j9 ax_m9 aD_L_root).all goodWord = true := by decide +kernel
theorem ok_L_root : ax_okM ax_Ss ax_T ax_n9 ax_j9 ax_m9 aD_L_root := ax_okM_of (fun q h => of_decide_eq_true (List.all_eq_true.mp k1_L_root q h)) k2_L_root (ax_W_of _ k3_L_root k4_L_root) (by decide +kernel) (fun pc q h => by cases h)
theorem k1_L_attribute : (at_L_attribute).all (fun q => decide (decode cL_attribute q.1 = .ok (q.2.1, q.2.2.1))) = true := by decide +kernel
theorem k2_L_attribute : ax_chks ax_T aD_L_attribute = true := by decide +kernel
theorem k3_L_attribute : ax_needs ax_T ax_n9 ax_j9 ax_m9 aD_L_attribute = [1162, 1163, 1164, 88, 991, 1161].filterMap (fun i => ax_big[i]?) := by decide +kernel
theorem k4_L_attribute : (ax_needs ax_T ax_n9 ax_j9 ax_m9 aD_L_attribute).all goodWord = true := by decide +kernel
theorem ok_L_attribute : ax_okM ax_Ss ax_T ax_n9 ax_j9 ax_m9 aD_L_attribute := ax_okM_of (fun q h => of_decide_eq_true (List.all_eq_true.mp k1_L_attribute q h)) k2_L_attribute (ax_W_of _ k3_L_attribute k4_L_attribute) (by decide +kernel) (fun pc q h => by cases h)
theorem k1_L_value : (at_L_value).all (fun q => decide (decode cL_value q.1 = .ok (q.2.1, q.2.2.1))) = true := by decide +kernel
theorem k2_L_value : ax_chks ax_T aD_L_value = true := by decide +kernel
theorem k3_L_value : ax_needs ax_T ax_n9 ax_j9 ax_m9 aD_L_value = [1175, 1176, 1177, 88, 991, 1174].filterMap (fun i => ax_big[i]?) := by decide +kernel
theorem k4_L_value : (ax_needs ax_T ax_n9 ax_j9 ax_m9 aD_L_value).all goodWord = true := by decide +kernel
theorem ok_L_value : ax_okM ax_Ss ax_T ax_n9 ax_j9 ax_m9 aD_L_value := ax_okM_of (fun q h => of_decide_eq_true (List.all_eq_true.mp k1_L_value q h)) k2_L_value (ax_W_of _ k3_L_value k4_L_value) (by decide +kernel) (fun pc q h => by cases h)
theorem k1_L_letter : (at_L_letter).all (fun q => decide (decode cL_letter q.1 = .ok (q.2.1, q.2.2.1))) = true := by decide +kernel
theorem k2_L_letter : ax_chks ax_T aD_L_letter = true := by decide +kernel
theorem k3_L_letter : ax_needs ax_T ax_n9 ax_j9 ax_m9 aD_L_letter = [1182, 1183, 1184, 88, 991, 1181].filterMap (fun i => ax_big[i]?) := by decide +kernel
theorem k4_L_letter : (ax_needs ax_T ax_n9 ax_j9 ax_m9 aD_L_letter).all goodWord = true := by decide +kernel
theorem ok_L_letter : ax_okM ax_Ss ax_T ax_n9 ax_j9 ax_m9 aD_L_letter := ax_okM_of (fun q h => of_decide_eq_true (List.all_eq_true.mp k1_L_letter q h)) k2_L_letter (ax_W_of _ k3_L_letter k4_L_letter) (by decide +kernel) (fun pc q h => by cases h)
theorem k1_L_find : (at_L_find).all (fun q => decide (decode cL_find q.1 = .ok (q.2.1, q.2.2.1))) = true := by decide +kernel
theorem k2_L_find : ax_chks ax_T aD_L_find = true := by decide +kernel
theorem k3_L_find : ax_needs ax_T ax_n9 ax_j9 ax_m9 aD_L_find = [1190, 1191, 1192, 88, 991, 1189].filterMap (fun i => ax_big[i]?) := by decide +kernel
theorem k4_L_find : (ax_needs ax_T ax_n9 ax_j9 ax_m9 aD_L_find).all goodWord = true := by decide +kernel
theorem ok_L_find : ax_okM ax_Ss ax_T ax_n9 ax_j9 ax_m9 aD_L_find := ax_okM_of (fun q h => of_decide_eq_true (List.all_eq_true.mp k1_L_find q h)) k2_L_find (ax_W_of _ k3_L_find k4_L_find) (by decide +kernel) (fun pc q h => by cases h)
end
end
section
section
theorem ax_chunk {α : Type} {l : List α} {q : α} {m : Nat} (h : q ∈ l) (hl : l.length ≤ 100 * m) : ∃ i, i < m ∧ q ∈ (l.drop (100 * i)).take 100 := by
  obtain ⟨n, hn⟩ := List.mem_iff_getElem?.mp h
  have hn2 : n < l.length := (List.getElem?_eq_some_iff.mp hn).1
  refine ⟨n / 100, by omega, List.mem_iff_getElem?.mpr ⟨n % 100, ?_⟩⟩
  rw [List.getElem?_take, if_pos (by omega), List.getElem?_drop, show 100 * (n / 100) + n % 100 = n by omega]
  exact hn
theorem k1_L_law_0 : (((at_L_law).drop 0).take 100).all (fun q => decide (decode cL_law q.1 = .ok (q.2.1, q.2.2.1))) = true := by decide +kernel
theorem k1_L_law_1 : (((at_L_law).drop 100).take 100).all (fun q => decide (decode cL_law q.1 = .ok (q.2.1, q.2.2.1))) = true := by decide +kernel
theorem k1_L_law_2 : (((at_L_law).drop 200).take 100).all (fun q => decide (decode cL_law q.1 = .ok (q.2.1, q.2.2.1))) = true := by decide +kernel
theorem k1_L_law_3 : (((at_L_law).drop 300).take 100).all (fun q => decide (decode cL_law q.1 = .ok (q.2.1, q.2.2.1))) = true := by decide +kernel
theorem k1_L_law_4 : (((at_L_law).drop 400).take 100).all (fun q => decide (decode cL_law q.1 = .ok (q.2.1, q.2.2.1))) = true := by decide +kernel
theorem k1_L_law_5 : (((at_L_law).drop 500).take 100).all (fun q => decide (decode cL_law q.1 = .ok (q.2.1, q.2.2.1))) = true := by decide +kernel
theorem k1_L_law_6 : (((at_L_law).drop 600).take 100).all (fun q => decide (decode cL_law q.1 = .ok (q.2.1, q.2.2.1))) = true := by decide +kernel
theorem k1_L_law_7 : (((at_L_law).drop 700).take 100).all (fun q => decide (decode cL_law q.1 = .ok (q.2.1, q.2.2.1))) = true := by decide +kernel
theorem k1_L_law_8 : (((at_L_law).drop 800).take 100).all (fun q => decide (decode cL_law q.1 = .ok (q.2.1, q.2.2.1))) = true := by decide +kernel
theorem k1_L_law_9 : (((at_L_law).drop 900).take 100).all (fun q => decide (decode cL_law q.1 = .ok (q.2.1, q.2.2.1))) = true := by decide +kernel
theorem k1_L_law_10 : (((at_L_law).drop 1000).take 100).all (fun q => decide (decode cL_law q.1 = .ok (q.2.1, q.2.2.1))) = true := by decide +kernel
theorem k1_L_law : (at_L_law).all (fun q => decide (decode cL_law q.1 = .ok (q.2.1, q.2.2.1))) = true := ax_alln 11 (fun i hi => match i, hi with | 0, _ => k1_L_law_0 | 1, _ => k1_L_law_1 | 2, _ => k1_L_law_2 | 3, _ => k1_L_law_3 | 4, _ => k1_L_law_4 | 5, _ => k1_L_law_5 | 6, _ => k1_L_law_6 | 7, _ => k1_L_law_7 | 8, _ => k1_L_law_8 | 9, _ => k1_L_law_9 | 10, _ => k1_L_law_10 | n + 11, h => absurd h (by omega)) (by decide +kernel)
theorem k2_L_law : ax_chks ax_T aD_L_law = true := by decide +kernel
theorem k3_L_law_0 : (((at_L_law).drop (100 * 0)).take 100).flatMap (fun q => ax_need (ax_dy aD_L_law).cls q.2 ++ ax_needc ax_T ax_n9 ax_j9 ax_m9 (ax_dy aD_L_law).cls q.2) = [109, 110, 88, 111, 112, 88, 1207, 1208, 98, 1209, 1210, 98, 359, 916, 87, 915, 1385, 1386, 1387, 98, 1381, 1382, 1383, 98].filterMap (fun i => ax_big[i]?) := by decide +kernel
theorem k4_L_law_0 : ((((at_L_law).drop (100 * 0)).take 100).flatMap (fun q => ax_need (ax_dy aD_L_law).cls q.2 ++ ax_needc ax_T ax_n9 ax_j9 ax_m9 (ax_dy aD_L_law).cls q.2)).all goodWord = true := by decide +kernel
theorem k3_L_law_1 : (((at_L_law).drop (100 * 1)).take 100).flatMap (fun q => ax_need (ax_dy aD_L_law).cls q.2 ++ ax_needc ax_T ax_n9 ax_j9 ax_m9 (ax_dy aD_L_law).cls q.2) = [934, 87, 933, 1393, 1394, 1395, 98, 1381, 1382, 1383, 98, 958, 87, 957, 1400, 1401, 1402, 98, 1381, 1382, 1383, 98, 989, 87, 988, 1416, 1417, 1418, 98, 1381, 1382, 1383, 98].filterMap (fun i => ax_big[i]?) := by decide +kernel
theorem k4_L_law_1 : ((((at_L_law).drop (100 * 1)).take 100).flatMap (fun q => ax_need (ax_dy aD_L_law).cls q.2 ++ ax_needc ax_T ax_n9 ax_j9 ax_m9 (ax_dy aD_L_law).cls q.2)).all goodWord = true := by decide +kernel
theorem k3_L_law_2 : (((at_L_law).drop (100 * 2)).take 100).flatMap (fun q => ax_need (ax_dy aD_L_law).cls q.2 ++ ax_needc ax_T ax_n9 ax_j9 ax_m9 (ax_dy aD_L_law).cls q.2) = [1736, 1019, 87, 1018, 1736, 1428, 1429, 1430, 98, 1381, 1382, 1383, 98].filterMap (fun i => ax_big[i]?) := by decide +kernel
theorem k4_L_law_2 : ((((at_L_law).drop (100 * 2)).take 100).flatMap (fun q => ax_need (ax_dy aD_L_law).cls q.2 ++ ax_needc ax_T ax_n9 ax_j9 ax_m9 (ax_dy aD_L_law).cls q.2)).all goodWord = true := by decide +kernel
theorem k3_L_law_3 : (((at_L_law).drop (100 * 3)).take 100).flatMap (fun q => ax_need (ax_dy aD_L_law).cls q.2 ++ ax_needc ax_T ax_n9 ax_j9 ax_m9 (ax_dy aD_L_law).cls q.2) = [1044, 87, 1043, 1453, 1454, 1455, 98, 1381, 1382, 1383, 98, 1058, 87, 1057, 1465, 1466, 1467, 98, 1381, 1382, 1383, 98].filterMap (fun i => ax_big[i]?) := by decide +kernel
theorem k4_L_law_3 : ((((at_L_law).drop (100 * 3)).take 100).flatMap (fun q => ax_need (ax_dy aD_L_law).cls q.2 ++ ax_needc ax_T ax_n9 ax_j9 ax_m9 (ax_dy aD_L_law).cls q.2)).all goodWord = true := by decide +kernel
theorem k3_L_law_4 : (((at_L_law).drop (100 * 4)).take 100).flatMap (fun q => ax_need (ax_dy aD_L_law).cls q.2 ++ ax_needc ax_T ax_n9 ax_j9 ax_m9 (ax_dy aD_L_law).cls q.2) = [480, 481, 482, 88, 1472, 1473, 1474, 98, 496, 497, 498, 88, 1476, 1477, 1478, 98, 1068, 87, 1067, 1569, 1570, 1571, 98, 1381, 1382, 1383, 98, 1081, 87, 1080, 1577, 1578, 1579, 98, 1381, 1382, 1383, 98].filterMap (fun i => ax_big[i]?) := by decide +kernel
theorem k4_L_law_4 : ((((at_L_law).drop (100 * 4)).take 100).flatMap (fun q => ax_need (ax_dy aD_L_law).cls q.2 ++ ax_needc ax_T ax_n9 ax_j9 ax_m9 (ax_dy aD_L_law).cls q.2)).all goodWord = true := by decide +kernel
theorem k3_L_law_5 : (((at_L_law).drop (100 * 5)).take 100).flatMap (fun q => ax_need (ax_dy aD_L_law).cls q.2 ++ ax_needc ax_T ax_n9 ax_j9 ax_m9 (ax_dy aD_L_law).cls q.2) = [1094, 87, 1093, 1585, 1586, 1587, 98, 1381, 1382, 1383, 98, 1106, 87, 1105, 1589, 1590, 1591, 98, 1381, 1382, 1383, 98, 660, 661, 662, 88, 1593, 1594, 1595, 98].filterMap (fun i => ax_big[i]?) := by decide +kernel
theorem k4_L_law_5 : ((((at_L_law).drop (100 * 5)).take 100).flatMap (fun q => ax_need (ax_dy aD_L_law).cls q.2 ++ ax_needc ax_T ax_n9 ax_j9 ax_m9 (ax_dy aD_L_law).cls q.2)).all goodWord = true := by decide +kernel
theorem k3_L_law_6 : (((at_L_law).drop (100 * 6)).take 100).flatMap (fun q => ax_need (ax_dy aD_L_law).cls q.2 ++ ax_needc ax_T ax_n9 ax_j9 ax_m9 (ax_dy aD_L_law).cls q.2) = [1117, 87, 1116, 1678, 1679, 1680, 98, 1381, 1382, 1383, 98, 1125, 87, 1124, 1682, 1683, 1684, 98, 1381, 1382, 1383, 98, 1133, 87, 1132, 1687, 1688, 1689, 98].filterMap (fun i => ax_big[i]?) := by decide +kernel
theorem k4_L_law_6 : ((((at_L_law).drop (100 * 6)).take 100).flatMap (fun q => ax_need (ax_dy aD_L_law).cls q.2 ++ ax_needc ax_T ax_n9 ax_j9 ax_m9 (ax_dy aD_L_law).cls q.2)).all goodWord = true := by decide +kernel
theorem k3_L_law_7 : (((at_L_law).drop (100 * 7)).take 100).flatMap (fun q => ax_need (ax_dy aD_L_law).cls q.2 ++ ax_needc ax_T ax_n9 ax_j9 ax_m9 (ax_dy aD_L_law).cls q.2) = [1381, 1382, 1383, 98, 1141, 87, 1140, 1692, 1693, 1694, 98, 1381, 1382, 1383, 98, 1152, 87, 1151, 1696, 1697, 1698, 98, 1381, 1382, 1383, 98].filterMap (fun i => ax_big[i]?) := by decide +kernel
theorem k4_L_law_7 : ((((at_L_law).drop (100 * 7)).take 100).flatMap (fun q => ax_need (ax_dy aD_L_law).cls q.2 ++ ax_needc ax_T ax_n9 ax_j9 ax_m9 (ax_dy aD_L_law).cls q.2)).all goodWord = true := by decide +kernel
theorem k3_L_law_8 : (((at_L_law).drop (100 * 8)).take 100).flatMap (fun q => ax_need (ax_dy aD_L_law).cls q.2 ++ ax_needc ax_T ax_n9 ax_j9 ax_m9 (ax_dy aD_L_law).cls q.2) = [1160, 87, 1159, 1700, 1701, 1702, 98, 1381, 1382, 1383, 98, 1173, 87, 1172, 1708, 1709, 1710, 98, 1381, 1382, 1383, 98].filterMap (fun i => ax_big[i]?) := by decide +kernel
theorem k4_L_law_8 : ((((at_L_law).drop (100 * 8)).take 100).flatMap (fun q => ax_need (ax_dy aD_L_law).cls q.2 ++ ax_needc ax_T ax_n9 ax_j9 ax_m9 (ax_dy aD_L_law).cls q.2)).all goodWord = true := by decide +kernel
theorem k3_L_law_9 : (((at_L_law).drop (100 * 9)).take 100).flatMap (fun q => ax_need (ax_dy aD_L_law).cls q.2 ++ ax_needc ax_T ax_n9 ax_j9 ax_m9 (ax_dy aD_L_law).cls q.2) = [1180, 87, 1179, 1712, 1713, 1714, 98, 1381, 1382, 1383, 98, 1188, 87, 1187, 1716, 1717, 1718, 98, 1381, 1382, 1383, 98].filterMap (fun i => ax_big[i]?) := by decide +kernel
theorem k4_L_law_9 : ((((at_L_law).drop (100 * 9)).take 100).flatMap (fun q => ax_need (ax_dy aD_L_law).cls q.2 ++ ax_needc ax_T ax_n9 ax_j9 ax_m9 (ax_dy aD_L_law).cls q.2)).all goodWord = true := by decide +kernel
theorem k3_L_law_10 : (((at_L_law).drop (100 * 10)).take 100).flatMap (fun q => ax_need (ax_dy aD_L_law).cls q.2 ++ ax_needc ax_T ax_n9 ax_j9 ax_m9 (ax_dy aD_L_law).cls q.2) = [1736, 898, 899, 900, 88, 1736, 1724, 1725, 1726, 98].filterMap (fun i => ax_big[i]?) := by decide +kernel
theorem k4_L_law_10 : ((((at_L_law).drop (100 * 10)).take 100).flatMap (fun q => ax_need (ax_dy aD_L_law).cls q.2 ++ ax_needc ax_T ax_n9 ax_j9 ax_m9 (ax_dy aD_L_law).cls q.2)).all goodWord = true := by decide +kernel
end
end
section
section
theorem k3_L_law : ∀ w ∈ ax_needs ax_T ax_n9 ax_j9 ax_m9 aD_L_law, w ∈ ax_W := by
  intro w hw
  unfold ax_needs at hw
  rcases List.mem_append.mp hw with hw | hw
  · rcases List.mem_append.mp hw with hw | hw
    · obtain ⟨q, hq, hw⟩ := List.mem_flatMap.mp hw
      obtain ⟨i, hi, hqi⟩ := ax_chunk (m := 11) (show q ∈ at_L_law from hq) (show (at_L_law).length ≤ _ by decide +kernel)
      have hc : i = 0 ∨ i = 1 ∨ i = 2 ∨ i = 3 ∨ i = 4 ∨ i = 5 ∨ i = 6 ∨ i = 7 ∨ i = 8 ∨ i = 9 ∨ i = 10 := by omega
      rcases hc with rfl | rfl | rfl | rfl | rfl | rfl | rfl | rfl | rfl | rfl | rfl
      · exact ax_W_of _ k3_L_law_0 k4_L_law_0 w (List.mem_flatMap.mpr ⟨q, hqi, hw⟩)
      · exact ax_W_of _ k3_L_law_1 k4_L_law_1 w (List.mem_flatMap.mpr ⟨q, hqi, hw⟩)
      · exact ax_W_of _ k3_L_law_2 k4_L_law_2 w (List.mem_flatMap.mpr ⟨q, hqi, hw⟩)
      · exact ax_W_of _ k3_L_law_3 k4_L_law_3 w (List.mem_flatMap.mpr ⟨q, hqi, hw⟩)
      · exact ax_W_of _ k3_L_law_4 k4_L_law_4 w (List.mem_flatMap.mpr ⟨q, hqi, hw⟩)
      · exact ax_W_of _ k3_L_law_5 k4_L_law_5 w (List.mem_flatMap.mpr ⟨q, hqi, hw⟩)
      · exact ax_W_of _ k3_L_law_6 k4_L_law_6 w (List.mem_flatMap.mpr ⟨q, hqi, hw⟩)
      · exact ax_W_of _ k3_L_law_7 k4_L_law_7 w (List.mem_flatMap.mpr ⟨q, hqi, hw⟩)
      · exact ax_W_of _ k3_L_law_8 k4_L_law_8 w (List.mem_flatMap.mpr ⟨q, hqi, hw⟩)
      · exact ax_W_of _ k3_L_law_9 k4_L_law_9 w (List.mem_flatMap.mpr ⟨q, hqi, hw⟩)
      · exact ax_W_of _ k3_L_law_10 k4_L_law_10 w (List.mem_flatMap.mpr ⟨q, hqi, hw⟩)
    · cases hw
  · rw [List.mem_singleton.mp hw]
    exact List.mem_filter.mpr ⟨List.mem_cons_self, rfl⟩
theorem ok_L_law : ax_okM ax_Ss ax_T ax_n9 ax_j9 ax_m9 aD_L_law := ax_okM_of (fun q h => of_decide_eq_true (List.all_eq_true.mp k1_L_law q h)) k2_L_law k3_L_law (by decide +kernel) (fun pc q h => by cases h)
set_option maxRecDepth 100000 in
theorem ax_Tok : ∀ j, ax_okM ax_Ss ax_T ax_n9 ax_j9 ax_m9 (ax_T j) := by
  have h : ∀ D ∈ ax_Ts, ax_okM ax_Ss ax_T ax_n9 ax_j9 ax_m9 D := by
    unfold ax_Ts
    exact List.forall_mem_cons.mpr ⟨ok_X0_init, List.forall_mem_cons.mpr ⟨ok_X0_forget, List.forall_mem_cons.mpr ⟨ok_X0_first, List.forall_mem_cons.mpr ⟨ok_X0_after, List.forall_mem_cons.mpr ⟨ok_X0_add, List.forall_mem_cons.mpr ⟨ok_X0_bucket, List.forall_mem_cons.mpr ⟨ok_X1_init, List.forall_mem_cons.mpr ⟨ok_X1_over, List.forall_mem_cons.mpr ⟨ok_X1_forgetFault, List.forall_mem_cons.mpr ⟨ok_X1_refuse, List.forall_mem_cons.mpr ⟨ok_X1_lowFirst, List.forall_mem_cons.mpr ⟨ok_X1_row, List.forall_mem_cons.mpr ⟨ok_X1_smallRow, List.forall_mem_cons.mpr ⟨ok_X1_textLength, List.forall_mem_cons.mpr ⟨ok_X1_skip, List.forall_mem_cons.mpr ⟨ok_X2_isText, List.forall_mem_cons.mpr ⟨ok_X2_isLetters, List.forall_mem_cons.mpr ⟨ok_X2_isReference, List.forall_mem_cons.mpr ⟨ok_X2_isNumber, List.forall_mem_cons.mpr ⟨ok_X2_isForm, List.forall_mem_cons.mpr ⟨ok_X2_holds, List.forall_mem_cons.mpr ⟨ok_X2_width, List.forall_mem_cons.mpr ⟨ok_X3_init, List.forall_mem_cons.mpr ⟨ok_X3_forget, List.forall_mem_cons.mpr ⟨ok_X3_reckon, List.forall_mem_cons.mpr ⟨ok_X3_orderEntries, List.forall_mem_cons.mpr ⟨ok_X3_climb, List.forall_mem_cons.mpr ⟨ok_X3_numberShapes, List.forall_mem_cons.mpr ⟨ok_X3_knownShape, List.forall_mem_cons.mpr ⟨ok_X3_shapeHash, List.forall_mem_cons.mpr ⟨ok_X3_sameShape, List.forall_mem_cons.mpr ⟨ok_X3_shapeSize, List.forall_mem_cons.mpr ⟨ok_X3_placeTexts, List.forall_mem_cons.mpr ⟨ok_X3_placeText, List.forall_mem_cons.mpr ⟨ok_X3_knownText, List.forall_mem_cons.mpr ⟨ok_X3_placeEntries, List.forall_mem_cons.mpr ⟨ok_X3_moveEntries, List.forall_mem_cons.mpr ⟨ok_X3_referenceRowBytes, List.forall_mem_cons.mpr ⟨ok_X3_steadyValueBytes, List.forall_mem_cons.mpr ⟨ok_X4_init, List.forall_mem_cons.mpr ⟨ok_X4_readUnits, List.forall_mem_cons.mpr ⟨ok_X4_readHeader, List.forall_mem_cons.mpr ⟨ok_X4_readTable, List.forall_mem_cons.mpr ⟨ok_X4_readEntries, List.forall_mem_cons.mpr ⟨ok_X4_readEntry, List.forall_mem_cons.mpr ⟨ok_X4_readNumber, List.forall_mem_cons.mpr ⟨ok_X4_readLetters, List.forall_mem_cons.mpr ⟨ok_X4_keptLength, List.forall_mem_cons.mpr ⟨ok_X4_resolveReferences, List.forall_mem_cons.mpr ⟨ok_X4_entryAt, List.forall_mem_cons.mpr ⟨ok_X5_init, List.forall_mem_cons.mpr ⟨ok_X5_of, List.forall_mem_cons.mpr ⟨ok_X6_init, List.forall_mem_cons.mpr ⟨ok_X6_used, List.forall_mem_cons.mpr ⟨ok_X6_most, List.forall_mem_cons.mpr ⟨ok_X6_room, List.forall_mem_cons.mpr ⟨ok_X6_at, List.forall_mem_cons.mpr ⟨ok_X6_change, List.forall_mem_cons.mpr ⟨ok_X6_cut, List.forall_mem_cons.mpr ⟨ok_X6_add, List.forall_mem_cons.mpr ⟨ok_X6_addHighFirst, List.forall_mem_cons.mpr ⟨ok_X6_addLowFirst, List.forall_mem_cons.mpr ⟨ok_X6_addRow, List.forall_mem_cons.mpr ⟨ok_X6_addSignedRow, List.forall_mem_cons.mpr ⟨ok_X6_addSevens, List.forall_mem_cons.mpr ⟨ok_X6_addFrom, List.forall_mem_cons.mpr ⟨ok_X6_same, List.forall_mem_cons.mpr ⟨ok_X6_hash, List.forall_mem_cons.mpr ⟨ok_X6_zeroFrom, List.forall_mem_cons.mpr ⟨ok_X6_rowSize, List.forall_mem_cons.mpr ⟨ok_X6_signedRowSize, List.forall_mem_cons.mpr ⟨ok_X7_init, List.forall_mem_cons.mpr ⟨ok_X7_indexOf, List.forall_mem_cons.mpr ⟨ok_X7_readFrom, List.forall_mem_cons.mpr ⟨ok_X7_readShape, List.forall_mem_cons.mpr ⟨ok_X7_readAttribute, List.forall_mem_cons.mpr ⟨ok_X7_mayFollow, List.forall_mem_cons.mpr ⟨ok_X8_init, List.forall_mem_cons.mpr ⟨ok_X8_slotAt, List.forall_mem_cons.mpr ⟨ok_X8_forget, List.forall_mem_cons.mpr ⟨ok_X8_addRoot, List.forall_mem_cons.mpr ⟨ok_X8_addChild, List.forall_mem_cons.mpr ⟨ok_X8_addEntry, List.forall_mem_cons.mpr ⟨ok_X8_addAttribute, List.forall_mem_cons.mpr ⟨ok_X8_slotOf, List.forall_mem_cons.mpr ⟨ok_X8_start, List.forall_mem_cons.mpr ⟨ok_X8_childAt, List.forall_mem_cons.mpr ⟨ok_X9_writeUnits, List.forall_mem_cons.mpr ⟨ok_X9_writeEntry, List.forall_mem_cons.mpr ⟨ok_X9_writeValue, List.forall_mem_cons.mpr ⟨ok_X9_writeShapes, List.forall_mem_cons.mpr ⟨ok_X9_writeTexts, List.forall_mem_cons.mpr ⟨ok_X10_init, List.forall_mem_cons.mpr ⟨ok_X10_feed, List.forall_mem_cons.mpr ⟨ok_X10_end, List.forall_mem_cons.mpr ⟨ok_X10_unit, List.forall_mem_cons.mpr ⟨ok_X10_entry, List.forall_mem_cons.mpr ⟨ok_X10_number, List.forall_mem_cons.mpr ⟨ok_X10_bytes, List.forall_mem_cons.mpr ⟨ok_X10_reference, List.forall_mem_cons.mpr ⟨ok_X10_clear, List.forall_mem_cons.mpr ⟨ok_X10_write, List.forall_mem_cons.mpr ⟨ok_X10_size, List.forall_mem_cons.mpr ⟨ok_X10_octet, List.forall_mem_cons.mpr ⟨ok_X10_load, List.forall_mem_cons.mpr ⟨ok_X10_alter, List.forall_mem_cons.mpr ⟨ok_X10_read, List.forall_mem_cons.mpr ⟨ok_X10_fault, List.forall_mem_cons.mpr ⟨ok_X10_count, List.forall_mem_cons.mpr ⟨ok_X10_about, List.forall_mem_cons.mpr ⟨ok_X10_child, List.forall_mem_cons.mpr ⟨ok_X10_root, List.forall_mem_cons.mpr ⟨ok_X10_attribute, List.forall_mem_cons.mpr ⟨ok_X10_value, List.forall_mem_cons.mpr ⟨ok_X10_letter, List.forall_mem_cons.mpr ⟨ok_X10_find, List.forall_mem_cons.mpr ⟨ok_X10_covers, List.forall_mem_cons.mpr ⟨ok_X10_needEntry, List.forall_mem_cons.mpr ⟨ok_X10_needCode, List.forall_mem_cons.mpr ⟨ok_X10_needNewName, List.forall_mem_cons.mpr ⟨ok_X10_needLetters, List.forall_mem_cons.mpr ⟨ok_X10_needRoom, List.forall_mem_cons.mpr ⟨ok_X10_needSection, List.forall_mem_cons.mpr ⟨ok_X10_needByte, List.forall_mem_cons.mpr ⟨ok_X10_neededSlot, List.forall_mem_cons.mpr ⟨ok_X10_keepLetters, List.forall_mem_cons.mpr ⟨ok_X10_rootNamedByTape, List.forall_mem_cons.mpr ⟨ok_X10_childNamedByTape, List.forall_mem_cons.mpr ⟨ok_X10_isNamedByTape, List.forall_mem_cons.mpr ⟨ok_X10_coversAddress, List.forall_mem_cons.mpr ⟨ok_X10_isBelow, List.forall_mem_cons.mpr ⟨ok_X10_isCode, List.forall_mem_cons.mpr ⟨ok_X11_init, List.forall_mem_cons.mpr ⟨ok_X11_thrown, List.forall_mem_cons.mpr ⟨ok_X11_in, List.forall_mem_cons.mpr ⟨ok_X11_goes, List.forall_mem_cons.mpr ⟨ok_X11_from, List.forall_mem_cons.mpr ⟨ok_X11_most, List.forall_mem_cons.mpr ⟨ok_X11_feed, List.forall_mem_cons.mpr ⟨ok_X11_end, List.forall_mem_cons.mpr ⟨ok_X11_isName, List.forall_mem_cons.mpr ⟨ok_X11_at, List.forall_mem_cons.mpr ⟨ok_X11_isEntry, List.forall_mem_cons.mpr ⟨ok_X11_make, List.forall_mem_cons.mpr ⟨ok_X11_unit, List.forall_mem_cons.mpr ⟨ok_X11_depth, List.forall_mem_cons.mpr ⟨ok_X11_entry, List.forall_mem_cons.mpr ⟨ok_X11_isNumber, List.forall_mem_cons.mpr ⟨ok_X11_isText, List.forall_mem_cons.mpr ⟨ok_X11_isReference, List.forall_mem_cons.mpr ⟨ok_X11_isForm, List.forall_mem_cons.mpr ⟨ok_X11_fits, List.forall_mem_cons.mpr ⟨ok_X11_isTold, List.forall_mem_cons.mpr ⟨ok_X11_add, List.forall_mem_cons.mpr ⟨ok_X11_isFull, List.forall_mem_cons.mpr ⟨ok_X11_number, List.forall_mem_cons.mpr ⟨ok_X11_areBytes, List.forall_mem_cons.mpr ⟨ok_X11_bytes, List.forall_mem_cons.mpr ⟨ok_X11_reference, List.forall_mem_cons.mpr ⟨ok_X11_clear, List.forall_mem_cons.mpr ⟨ok_X11_firstChild, List.forall_mem_cons.mpr ⟨ok_X11_nextChild, List.forall_mem_cons.mpr ⟨ok_X11_goThrough, List.forall_mem_cons.mpr ⟨ok_X11_sameShape, List.forall_mem_cons.mpr ⟨ok_X11_findShapes, List.forall_mem_cons.mpr ⟨ok_X11_sameText, List.forall_mem_cons.mpr ⟨ok_X11_textOf, List.forall_mem_cons.mpr ⟨ok_X11_findTexts, List.forall_mem_cons.mpr ⟨ok_X11_rowBytes, List.forall_mem_cons.mpr ⟨ok_X11_signedBytes, List.forall_mem_cons.mpr ⟨ok_X11_sizeOf, List.forall_mem_cons.mpr ⟨ok_X11_reckon, List.forall_mem_cons.mpr ⟨ok_X11_layOut, List.forall_mem_cons.mpr ⟨ok_X11_put, List.forall_mem_cons.mpr ⟨ok_X11_putRow, List.forall_mem_cons.mpr ⟨ok_X11_putSigned, List.forall_mem_cons.mpr ⟨ok_X11_putNumber, List.forall_mem_cons.mpr ⟨ok_X11_putText, List.forall_mem_cons.mpr ⟨ok_X11_putValue, List.forall_mem_cons.mpr ⟨ok_X11_shapeBytes, List.forall_mem_cons.mpr ⟨ok_X11_write, List.forall_mem_cons.mpr ⟨ok_X11_isSection, List.forall_mem_cons.mpr ⟨ok_X11_size, List.forall_mem_cons.mpr ⟨ok_X11_isOctet, List.forall_mem_cons.mpr ⟨ok_X11_octet, List.forall_mem_cons.mpr ⟨ok_X11_load, List.forall_mem_cons.mpr ⟨ok_X11_alter, List.forall_mem_cons.mpr ⟨ok_X11_bad, List.forall_mem_cons.mpr ⟨ok_X11_byteAt, List.forall_mem_cons.mpr ⟨ok_X11_has, List.forall_mem_cons.mpr ⟨ok_X11_fixed, List.forall_mem_cons.mpr ⟨ok_X11_row, List.forall_mem_cons.mpr ⟨ok_X11_readTable, List.forall_mem_cons.mpr ⟨ok_X11_readShape, List.forall_mem_cons.mpr ⟨ok_X11_readPair, List.forall_mem_cons.mpr ⟨ok_X11_shapeNumbered, List.forall_mem_cons.mpr ⟨ok_X11_textIs, List.forall_mem_cons.mpr ⟨ok_X11_keep, List.forall_mem_cons.mpr ⟨ok_X11_readText8, List.forall_mem_cons.mpr ⟨ok_X11_readText14, List.forall_mem_cons.mpr ⟨ok_X11_readValue, List.forall_mem_cons.mpr ⟨ok_X11_readEntry, List.forall_mem_cons.mpr ⟨ok_X11_readEntries, List.forall_mem_cons.mpr ⟨ok_X11_resolve, List.forall_mem_cons.mpr ⟨ok_X11_readUnit, List.forall_mem_cons.mpr ⟨ok_X11_read, List.forall_mem_cons.mpr ⟨ok_X11_fault, List.forall_mem_cons.mpr ⟨ok_X11_count, List.forall_mem_cons.mpr ⟨ok_X11_about, List.forall_mem_cons.mpr ⟨ok_X11_child, List.forall_mem_cons.mpr ⟨ok_X11_root, List.forall_mem_cons.mpr ⟨ok_X11_isAttribute, List.forall_mem_cons.mpr ⟨ok_X11_attribute, List.forall_mem_cons.mpr ⟨ok_X11_value, List.forall_mem_cons.mpr ⟨ok_X11_letter, List.forall_mem_cons.mpr ⟨ok_X11_isNamed, List.forall_mem_cons.mpr ⟨ok_X11_find, List.forall_mem_cons.mpr ⟨ok_X11_numberNamed, List.forall_mem_cons.mpr ⟨ok_X11_isBelow, List.forall_mem_cons.mpr ⟨ok_X11_covers, List.forall_mem_cons.mpr ⟨ok_J7_fill_53178, List.forall_mem_cons.mpr ⟨ok_L_feed, List.forall_mem_cons.mpr ⟨ok_L_end, List.forall_mem_cons.mpr ⟨ok_L_unit, List.forall_mem_cons.mpr ⟨ok_L_entry, List.forall_mem_cons.mpr ⟨ok_L_number, List.forall_mem_cons.mpr ⟨ok_L_bytes, List.forall_mem_cons.mpr ⟨ok_L_reference, List.forall_mem_cons.mpr ⟨ok_L_size, List.forall_mem_cons.mpr ⟨ok_L_octet, List.forall_mem_cons.mpr ⟨ok_L_load, List.forall_mem_cons.mpr ⟨ok_L_alter, List.forall_mem_cons.mpr ⟨ok_L_fault, List.forall_mem_cons.mpr ⟨ok_L_count, List.forall_mem_cons.mpr ⟨ok_L_about, List.forall_mem_cons.mpr ⟨ok_L_child, List.forall_mem_cons.mpr ⟨ok_L_root, List.forall_mem_cons.mpr ⟨ok_L_attribute, List.forall_mem_cons.mpr ⟨ok_L_value, List.forall_mem_cons.mpr ⟨ok_L_letter, List.forall_mem_cons.mpr ⟨ok_L_find, List.forall_mem_cons.mpr ⟨ok_L_law, fun _ h => absurd h List.not_mem_nil⟩⟩⟩⟩⟩⟩⟩⟩⟩⟩⟩⟩⟩⟩⟩⟩⟩⟩⟩⟩⟩⟩⟩⟩⟩⟩⟩⟩⟩⟩⟩⟩⟩⟩⟩⟩⟩⟩⟩⟩⟩⟩⟩⟩⟩⟩⟩⟩⟩⟩⟩⟩⟩⟩⟩⟩⟩⟩⟩⟩⟩⟩⟩⟩⟩⟩⟩⟩⟩⟩⟩⟩⟩⟩⟩⟩⟩⟩⟩⟩⟩⟩⟩⟩⟩⟩⟩⟩⟩⟩⟩⟩⟩⟩⟩⟩⟩⟩⟩⟩⟩⟩⟩⟩⟩⟩⟩⟩⟩⟩⟩⟩⟩⟩⟩⟩⟩⟩⟩⟩⟩⟩⟩⟩⟩⟩⟩⟩⟩⟩⟩⟩⟩⟩⟩⟩⟩⟩⟩⟩⟩⟩⟩⟩⟩⟩⟩⟩⟩⟩⟩⟩⟩⟩⟩⟩⟩⟩⟩⟩⟩⟩⟩⟩⟩⟩⟩⟩⟩⟩⟩⟩⟩⟩⟩⟩⟩⟩⟩⟩⟩⟩⟩⟩⟩⟩⟩⟩⟩⟩⟩⟩⟩⟩⟩⟩⟩⟩⟩⟩⟩⟩⟩⟩⟩⟩⟩⟩⟩⟩⟩⟩⟩⟩⟩⟩⟩⟩⟩⟩⟩⟩⟩⟩⟩⟩⟩⟩⟩⟩⟩⟩⟩⟩⟩⟩⟩⟩⟩⟩⟩⟩
  intro j
  unfold ax_T
  rw [List.getD_eq_getElem?_getD]
  cases hj : ax_Ts[j]? with
  | none => exact ok_X0_init
  | some D => exact h D (List.mem_of_getElem? hj)
end
end
section
/-! THE HEAP AS NUMBERS: behind the constructors every cell has a fixed shape; its values are told by Int -/
section BA
abbrev bM : Type := Nat → Nat → Int
abbrev bR (a : Int) : Prop := -2147483648 ≤ a ∧ a ≤ 2147483647
abbrev bRL (a : Int) : Prop := -9223372036854775808 ≤ a ∧ a ≤ 9223372036854775807
abbrev bI (a : Int) : Value := .int (Int32.ofInt a)
abbrev bLg (a : Int) : Value := .long (Int64.ofInt a)
def bset (μ : bM) (q k : Nat) (v : Int) : bM := fun q' k' => if q' = q ∧ k' = k then v else μ q' k'
/-- the cells: 0 to 3 rows of bytes, ints, longs, booleans with their length; 10 + c an object of kind c with its number of fields -/
def bShs : List (Nat × Nat) := [(18, 6), (15, 2), (0, 12000), (15, 2), (0, 30000), (14, 3), (15, 2), (0, 24000), (15, 2), (0, 8000), (15, 2), (0, 8000), (12, 19), (1, 400), (1, 7), (1, 6), (1, 400), (1, 400), (1, 400), (1, 400), (1, 400), (1, 3200), (1, 3200), (10, 2), (1, 256), (1, 400), (10, 2), (1, 256), (1, 3200), (13, 7), (17, 16), (1, 6), (1, 400), (1, 400), (1, 400), (1, 400), (1, 400), (1, 400), (1, 400), (1, 400), (1, 400), (1, 3200), (1, 3200), (2, 3200), (1, 3200), (11, 7), (15, 2), (0, 0), (16, 8), (1, 200), (3, 200), (1, 200), (1, 1600), (1, 1600), (1, 200), (10, 2), (1, 256), (1, 200), (1, 400), (1, 3200), (17, 16), (1, 6), (1, 400), (1, 400), (1, 400), (1, 400), (1, 400), (1, 400), (1, 400), (1, 400), (1, 400), (1, 3200), (1, 3200), (2, 3200), (1, 3200), (19, 55), (0, 12000), (1, 2), (1, 2), (1, 12), (1, 800), (1, 800), (1, 800), (1, 800), (1, 6400), (1, 6400), (2, 6400), (1, 6400), (1, 6400), (1, 2), (1, 2), (0, 180000), (0, 40000), (1, 3), (1, 400), (1, 400), (1, 400), (1, 400), (1, 3200), (1, 3200), (1, 400), (1, 3200), (1, 6), (1, 200), (1, 200), (3, 200), (1, 200), (1, 1600), (1, 1600), (1, 400), (1, 3200), (2, 1)]
def bSh (q : Nat) : Nat × Nat := match q with
  | 0 => (99, 0)
  | j + 1 => bShs.getD j (99, 0)
/-- what a field holds: 0 an int, 1 a boolean, 2 a long, 3 any tree, 4 any store, 5 + n the cell n behind its own -/
def bPfs : List (List Nat) := [[6, 7], [0, 0, 0, 0, 0, 0, 4], [0, 0, 0, 0, 0, 0, 1, 6, 7, 8, 9, 10, 11, 12, 13, 14, 15, 16, 19], [3, 21, 24, 0, 0, 34, 35], [6, 8, 10], [6, 0], [6, 7, 8, 9, 10, 0, 11, 12], [0, 0, 6, 7, 8, 9, 10, 11, 12, 13, 14, 15, 16, 17, 18, 19], [6, 8, 10, 17, 34, 3], [0, 6, 0, 0, 7, 8, 9, 10, 11, 12, 13, 14, 15, 16, 17, 18, 19, 20, 21, 22, 23, 0, 0, 0, 24, 25, 0, 26, 27, 0, 28, 29, 0, 30, 31, 32, 0, 0, 0, 0, 0, 0, 0, 0, 33, 34, 35, 36, 37, 38, 39, 40, 0, 1, 2]]
def bPf (ci k : Nat) : Nat := (bPfs.getD ci []).getD k 0
abbrev bStore (q : Nat) : Prop := bSh q = (15, 2)
abbrev bTree (q : Nat) : Prop := bSh q = (17, 16)
abbrev bChn (q : Nat) : Prop := bSh q = (10, 2)
def bIn (q k : Nat) (e : Int) : Prop := match (bSh q).1 with
  | 0 => -128 ≤ e ∧ e ≤ 127
  | 1 => bR e
  | 2 => bRL e
  | 3 => 0 ≤ e ∧ e ≤ 1
  | s => match bPf (s - 10) k with
    | 0 => bR e
    | 1 => 0 ≤ e ∧ e ≤ 1
    | 2 => bRL e
    | 3 => bTree e.toNat
    | 4 => bStore e.toNat
    | n + 5 => e = (q : Int) + n
/-- every cell of the memory holds what its type allows, and the pointers that never change -/
def bOk (μ : bM) : Prop := ∀ q k, bIn q k (μ q k)
theorem bOk_set {μ : bM} {q k : Nat} {e : Int} (h : bOk μ) (he : bIn q k e) : bOk (bset μ q k e) := by
  intro q' k'
  unfold bset
  by_cases c : q' = q ∧ k' = k
  · rw [if_pos c, c.1, c.2]; exact he
  · rw [if_neg c]; exact h q' k'
theorem bIn_i {q k n : Nat} {e : Int} (hq : bSh q = (1, n)) : bIn q k e ↔ bR e := by unfold bIn; rw [hq]
theorem bIn_b {q k n : Nat} {e : Int} (hq : bSh q = (0, n)) : bIn q k e ↔ (-128 ≤ e ∧ e ≤ 127) := by unfold bIn; rw [hq]
theorem bIn_l {q k n : Nat} {e : Int} (hq : bSh q = (2, n)) : bIn q k e ↔ bRL e := by unfold bIn; rw [hq]
theorem bIn_z {q k n : Nat} {e : Int} (hq : bSh q = (3, n)) : bIn q k e ↔ (0 ≤ e ∧ e ≤ 1) := by unfold bIn; rw [hq]
theorem bIn_f {q k n ci p : Nat} {e : Int} (hq : bSh q = (ci + 10, n)) (hp : bPf ci k = p) : bIn q k e ↔ (match p with
    | 0 => bR e
    | 1 => 0 ≤ e ∧ e ≤ 1
    | 2 => bRL e
    | 3 => bTree e.toNat
    | 4 => bStore e.toNat
    | n + 5 => e = (q : Int) + n) := by
  unfold bIn
  rw [hq]
  show (match bPf (ci + 10 - 10) k with
    | 0 => bR e
    | 1 => 0 ≤ e ∧ e ≤ 1
    | 2 => bRL e
    | 3 => bTree e.toNat
    | 4 => bStore e.toNat
    | n + 5 => e = (q : Int) + n) ↔ _
  rw [Nat.add_sub_cancel, hp]
section
variable {μ : bM} {q k n ci : Nat}
theorem bO_i (h : bOk μ) (hq : bSh q = (1, n)) : bR (μ q k) := (bIn_i hq).mp (h q k)
theorem bO_b (h : bOk μ) (hq : bSh q = (0, n)) : -128 ≤ μ q k ∧ μ q k ≤ 127 := (bIn_b hq).mp (h q k)
theorem bO_br (h : bOk μ) (hq : bSh q = (0, n)) : bR (μ q k) := by have := bO_b (k := k) h hq; constructor <;> omega
theorem bO_l (h : bOk μ) (hq : bSh q = (2, n)) : bRL (μ q k) := (bIn_l hq).mp (h q k)
theorem bO_z (h : bOk μ) (hq : bSh q = (3, n)) : 0 ≤ μ q k ∧ μ q k ≤ 1 := (bIn_z hq).mp (h q k)
theorem bO_zr (h : bOk μ) (hq : bSh q = (3, n)) : bR (μ q k) := by have := bO_z (k := k) h hq; constructor <;> omega
theorem bO_f (h : bOk μ) (hq : bSh q = (ci + 10, n)) (hp : bPf ci k = 0) : bR (μ q k) := (bIn_f hq hp).mp (h q k)
theorem bO_fz (h : bOk μ) (hq : bSh q = (ci + 10, n)) (hp : bPf ci k = 1) : 0 ≤ μ q k ∧ μ q k ≤ 1 := (bIn_f hq hp).mp (h q k)
theorem bO_fzr (h : bOk μ) (hq : bSh q = (ci + 10, n)) (hp : bPf ci k = 1) : bR (μ q k) := by have := bO_fz h hq hp; constructor <;> omega
theorem bO_fl (h : bOk μ) (hq : bSh q = (ci + 10, n)) (hp : bPf ci k = 2) : bRL (μ q k) := (bIn_f hq hp).mp (h q k)
theorem bO_ft (h : bOk μ) (hq : bSh q = (ci + 10, n)) (hp : bPf ci k = 3) : bTree (μ q k).toNat := (bIn_f hq hp).mp (h q k)
theorem bO_fs (h : bOk μ) (hq : bSh q = (ci + 10, n)) (hp : bPf ci k = 4) : bStore (μ q k).toNat := (bIn_f hq hp).mp (h q k)
theorem bO_fp {j : Nat} (h : bOk μ) (hq : bSh q = (ci + 10, n)) (hp : bPf ci k = j + 5) : (μ q k).toNat = q + j := by
  have := (bIn_f hq hp).mp (h q k)
  simp only at this
  omega
end
theorem bSh_lt {q : Nat} (h : (bSh q).1 ≠ 99) : 1 ≤ q ∧ q < 113 := by
  match q, h with
  | 0, h => exact absurd rfl h
  | j + 1, h =>
    refine ⟨by omega, ?_⟩
    by_cases c : j < 112
    · omega
    · exfalso
      apply h
      show (bShs.getD j (99, 0)).1 = 99
      rw [List.getD_eq_getElem?_getD, List.getElem?_eq_none (by show 112 ≤ j; omega)]
      rfl
theorem bStore_all : ∀ q, q < 113 → bStore q → q = 2 ∨ q = 4 ∨ q = 7 ∨ q = 9 ∨ q = 11 ∨ q = 47 := by decide +kernel
theorem bTree_all : ∀ q, q < 113 → bTree q → q = 31 ∨ q = 61 := by decide +kernel
theorem bChn_all : ∀ q, q < 113 → bChn q → q = 24 ∨ q = 27 ∨ q = 56 := by decide +kernel
theorem bStore_is {q : Nat} (h : bStore q) : q = 2 ∨ q = 4 ∨ q = 7 ∨ q = 9 ∨ q = 11 ∨ q = 47 := bStore_all q (bSh_lt (by rw [show bSh q = _ from h]; decide)).2 h
theorem bTree_is {q : Nat} (h : bTree q) : q = 31 ∨ q = 61 := bTree_all q (bSh_lt (by rw [show bSh q = _ from h]; decide)).2 h
theorem bChn_is {q : Nat} (h : bChn q) : q = 24 ∨ q = 27 ∨ q = 56 := bChn_all q (bSh_lt (by rw [show bSh q = _ from h]; decide)).2 h
def bN (q : Nat) : Nat := (bSh q).2
theorem bStore_d {q : Nat} (h : bStore q) : bSh (q + 1) = (0, bN (q + 1)) := by rcases bStore_is h with rfl | rfl | rfl | rfl | rfl | rfl <;> rfl
theorem bChn_h {q : Nat} (h : bChn q) : bSh (q + 1) = (1, 256) := by rcases bChn_is h with rfl | rfl | rfl <;> rfl
theorem bChn_n {q : Nat} (h : bChn q) : bSh (q + 2) = (1, bN (q + 2)) := by rcases bChn_is h with rfl | rfl | rfl <;> rfl
theorem bTree_r {q : Nat} (h : bTree q) : bSh (q + 1) = (1, 6) := by rcases bTree_is h with rfl | rfl <;> rfl
theorem bTree_e {q : Nat} (h : bTree q) (k : Nat) (hk : 2 ≤ k ∧ k ≤ 10) : bSh (q + k) = (1, 400) := by
  have : k = 2 ∨ k = 3 ∨ k = 4 ∨ k = 5 ∨ k = 6 ∨ k = 7 ∨ k = 8 ∨ k = 9 ∨ k = 10 := by omega
  rcases bTree_is h with rfl | rfl <;> rcases this with rfl | rfl | rfl | rfl | rfl | rfl | rfl | rfl | rfl <;> rfl
theorem bTree_n {q : Nat} (h : bTree q) : bSh (q + 11) = (1, 3200) := by rcases bTree_is h with rfl | rfl <;> rfl
theorem bTree_f {q : Nat} (h : bTree q) : bSh (q + 12) = (1, 3200) := by rcases bTree_is h with rfl | rfl <;> rfl
theorem bTree_v {q : Nat} (h : bTree q) : bSh (q + 13) = (2, 3200) := by rcases bTree_is h with rfl | rfl <;> rfl
theorem bTree_l {q : Nat} (h : bTree q) : bSh (q + 14) = (1, 3200) := by rcases bTree_is h with rfl | rfl <;> rfl
/-- a field's value as the machine's -/
def bV (t : FieldType) (e : Int) : Value := match t with
  | .long => bLg e
  | .object _ => .ref e.toNat
  | .array _ => .ref e.toNat
  | _ => bI e
def bCell (s : Nat × Nat) (g : Nat → Int) : ax_C :=
  if s.1 < 10 then (if s.1 = 2 then .inl (2, s.2, .inr (.inl fun k => Int64.ofInt (g k))) else .inl (s.1, s.2, .inl fun k => Int32.ofInt (g k)))
  else .inr (s.1 - 10, (List.range (ax_cn (s.1 - 10))).map fun k => bV (ax_ty (s.1 - 10) k) (g k))
def bH (μ : bM) : ax_H := fun q => bCell (bSh q) (μ q)
theorem bH_i {μ : bM} {q n : Nat} (h : bSh q = (1, n)) : bH μ q = .inl (1, n, .inl fun k => Int32.ofInt (μ q k)) := by unfold bH; rw [h]; rfl
theorem bH_b {μ : bM} {q n : Nat} (h : bSh q = (0, n)) : bH μ q = .inl (0, n, .inl fun k => Int32.ofInt (μ q k)) := by unfold bH; rw [h]; rfl
theorem bH_z {μ : bM} {q n : Nat} (h : bSh q = (3, n)) : bH μ q = .inl (3, n, .inl fun k => Int32.ofInt (μ q k)) := by unfold bH; rw [h]; rfl
theorem bH_l {μ : bM} {q n : Nat} (h : bSh q = (2, n)) : bH μ q = .inl (2, n, .inr (.inl fun k => Int64.ofInt (μ q k))) := by unfold bH; rw [h]; rfl
theorem bH_o {μ : bM} {q n ci : Nat} (h : bSh q = (ci + 10, n)) : bH μ q = .inr (ci, (List.range (ax_cn ci)).map fun k => bV (ax_ty ci k) (μ q k)) := by
  unfold bH bCell
  rw [h]
  have h1 : ¬ (ci + 10 < 10) := by omega
  simp only [h1, if_false, Nat.add_sub_cancel]
/-- a cell's update -/
theorem bH_set {μ : bM} {q k : Nat} {e : Int} {x : ax_C} (h : bCell (bSh q) (bset μ q k e q) = x) : ax_up (bH μ) q x = bH (bset μ q k e) := by
  funext q'
  unfold ax_up
  by_cases c : q' = q
  · rw [if_pos c, c, ← h]; rfl
  · rw [if_neg c]
    unfold bH
    congr 1
    funext k'
    unfold bset
    rw [if_neg (fun hh => c hh.1)]
theorem bset_row {μ : bM} {q k : Nat} {e : Int} (j : Nat) : bset μ q k e q j = if j = k then e else μ q j := by
  unfold bset
  by_cases c : j = k
  · rw [if_pos ⟨rfl, c⟩, if_pos c]
  · rw [if_neg (fun h => c h.2), if_neg c]
end BA
end
section
theorem zz_last : True := trivial
end
