section
-- ===== PART A: goes FIRST, ahead of the names: the tables' words, and 'selects' of the private methods out of them =====
/-- a private method of a class that the tables say can be made, by its rows of tables_1 -/
def lw_okq (q : MethodName × Nat) : Prop := (q.1.cls ≠ "java/lang/invoke/MethodHandle" ∧ q.1.cls ≠ "java/lang/invoke/VarHandle") ∧ Cond.instantiable q.1.cls q.2 ∈ tables_1 ∧ Cond.privateMethod q.1 ∈ tables_1 ∧ Cond.instanceMethod q.1 ∈ tables_1
theorem lw_p0 : lw_okq (⟨"SeenPages$Table", "isToTakeOut", "(II)Z"⟩, 6) := ⟨⟨by decide +kernel, by decide +kernel⟩, List.mem_of_getElem? (i := 34) (by decide +kernel), List.mem_of_getElem? (i := 220) (by decide +kernel), List.mem_of_getElem? (i := 221) (by decide +kernel)⟩
theorem lw_p1 : lw_okq (⟨"SeenPages$Table", "empty", "(I)V"⟩, 6) := ⟨⟨by decide +kernel, by decide +kernel⟩, List.mem_of_getElem? (i := 34) (by decide +kernel), List.mem_of_getElem? (i := 224) (by decide +kernel), List.mem_of_getElem? (i := 225) (by decide +kernel)⟩
theorem lw_p2 : lw_okq (⟨"SeenPages$Table", "isSeenByAll", "(II)Z"⟩, 6) := ⟨⟨by decide +kernel, by decide +kernel⟩, List.mem_of_getElem? (i := 34) (by decide +kernel), List.mem_of_getElem? (i := 228) (by decide +kernel), List.mem_of_getElem? (i := 229) (by decide +kernel)⟩
theorem lw_p3 : lw_okq (⟨"SeenPages$Text", "readSign", "(C)Z"⟩, 6) := ⟨⟨by decide +kernel, by decide +kernel⟩, List.mem_of_getElem? (i := 138) (by decide +kernel), List.mem_of_getElem? (i := 264) (by decide +kernel), List.mem_of_getElem? (i := 265) (by decide +kernel)⟩
theorem lw_p4 : lw_okq (⟨"SeenPages$Text", "readDigit", "(I)Z"⟩, 6) := ⟨⟨by decide +kernel, by decide +kernel⟩, List.mem_of_getElem? (i := 138) (by decide +kernel), List.mem_of_getElem? (i := 272) (by decide +kernel), List.mem_of_getElem? (i := 273) (by decide +kernel)⟩
theorem lw_p5 : lw_okq (⟨"SeenPages$Text", "digitHere", "()I"⟩, 6) := ⟨⟨by decide +kernel, by decide +kernel⟩, List.mem_of_getElem? (i := 138) (by decide +kernel), List.mem_of_getElem? (i := 276) (by decide +kernel), List.mem_of_getElem? (i := 277) (by decide +kernel)⟩
theorem lw_p6 : lw_okq (⟨"SeenPages$Text", "readPlace", "()Z"⟩, 6) := ⟨⟨by decide +kernel, by decide +kernel⟩, List.mem_of_getElem? (i := 138) (by decide +kernel), List.mem_of_getElem? (i := 280) (by decide +kernel), List.mem_of_getElem? (i := 281) (by decide +kernel)⟩
theorem lw_p7 : lw_okq (⟨"SeenPages", "mostHolding", "()I"⟩, 3) := ⟨⟨by decide +kernel, by decide +kernel⟩, List.mem_of_getElem? (i := 20) (by decide +kernel), List.mem_of_getElem? (i := 288) (by decide +kernel), List.mem_of_getElem? (i := 289) (by decide +kernel)⟩
theorem lw_p8 : lw_okq (⟨"SeenPages", "markedShare", "()D"⟩, 3) := ⟨⟨by decide +kernel, by decide +kernel⟩, List.mem_of_getElem? (i := 20) (by decide +kernel), List.mem_of_getElem? (i := 301) (by decide +kernel), List.mem_of_getElem? (i := 302) (by decide +kernel)⟩
theorem lw_p9 : lw_okq (⟨"SeenPages", "countNumber", "(I)I"⟩, 3) := ⟨⟨by decide +kernel, by decide +kernel⟩, List.mem_of_getElem? (i := 20) (by decide +kernel), List.mem_of_getElem? (i := 311) (by decide +kernel), List.mem_of_getElem? (i := 312) (by decide +kernel)⟩
theorem lw_p10 : lw_okq (⟨"SeenPages", "mixParts", "(J)J"⟩, 3) := ⟨⟨by decide +kernel, by decide +kernel⟩, List.mem_of_getElem? (i := 20) (by decide +kernel), List.mem_of_getElem? (i := 331) (by decide +kernel), List.mem_of_getElem? (i := 332) (by decide +kernel)⟩
theorem lw_p11 : lw_okq (⟨"SeenPages", "slotNumber", "(II)I"⟩, 3) := ⟨⟨by decide +kernel, by decide +kernel⟩, List.mem_of_getElem? (i := 20) (by decide +kernel), List.mem_of_getElem? (i := 335) (by decide +kernel), List.mem_of_getElem? (i := 336) (by decide +kernel)⟩
theorem lw_p12 : lw_okq (⟨"SeenPages", "pageNumber", "(II)I"⟩, 3) := ⟨⟨by decide +kernel, by decide +kernel⟩, List.mem_of_getElem? (i := 20) (by decide +kernel), List.mem_of_getElem? (i := 343) (by decide +kernel), List.mem_of_getElem? (i := 344) (by decide +kernel)⟩
theorem lw_p13 : lw_okq (⟨"SeenPages", "askerNumber", "(II)I"⟩, 3) := ⟨⟨by decide +kernel, by decide +kernel⟩, List.mem_of_getElem? (i := 20) (by decide +kernel), List.mem_of_getElem? (i := 348) (by decide +kernel), List.mem_of_getElem? (i := 349) (by decide +kernel)⟩
theorem lw_p14 : lw_okq (⟨"SeenPages", "mixValue", "(JI)J"⟩, 3) := ⟨⟨by decide +kernel, by decide +kernel⟩, List.mem_of_getElem? (i := 20) (by decide +kernel), List.mem_of_getElem? (i := 352) (by decide +kernel), List.mem_of_getElem? (i := 353) (by decide +kernel)⟩
theorem lw_p15 : lw_okq (⟨"SeenPages$Table", "indexHas", "(II)Z"⟩, 6) := ⟨⟨by decide +kernel, by decide +kernel⟩, List.mem_of_getElem? (i := 34) (by decide +kernel), List.mem_of_getElem? (i := 368) (by decide +kernel), List.mem_of_getElem? (i := 369) (by decide +kernel)⟩
def lw_privs_1 : List (MethodName × Nat) := [(⟨"SeenPages$Table", "isToTakeOut", "(II)Z"⟩, 6), (⟨"SeenPages$Table", "empty", "(I)V"⟩, 6), (⟨"SeenPages$Table", "isSeenByAll", "(II)Z"⟩, 6), (⟨"SeenPages$Text", "readSign", "(C)Z"⟩, 6), (⟨"SeenPages$Text", "readDigit", "(I)Z"⟩, 6), (⟨"SeenPages$Text", "digitHere", "()I"⟩, 6), (⟨"SeenPages$Text", "readPlace", "()Z"⟩, 6), (⟨"SeenPages", "mostHolding", "()I"⟩, 3), (⟨"SeenPages", "markedShare", "()D"⟩, 3), (⟨"SeenPages", "countNumber", "(I)I"⟩, 3), (⟨"SeenPages", "mixParts", "(J)J"⟩, 3), (⟨"SeenPages", "slotNumber", "(II)I"⟩, 3), (⟨"SeenPages", "pageNumber", "(II)I"⟩, 3), (⟨"SeenPages", "askerNumber", "(II)I"⟩, 3), (⟨"SeenPages", "mixValue", "(JI)J"⟩, 3), (⟨"SeenPages$Table", "indexHas", "(II)Z"⟩, 6)]
theorem lw_r1 : ∀ q ∈ lw_privs_1, lw_okq q := List.forall_mem_cons.mpr ⟨lw_p0, List.forall_mem_cons.mpr ⟨lw_p1, List.forall_mem_cons.mpr ⟨lw_p2, List.forall_mem_cons.mpr ⟨lw_p3, List.forall_mem_cons.mpr ⟨lw_p4, List.forall_mem_cons.mpr ⟨lw_p5, List.forall_mem_cons.mpr ⟨lw_p6, List.forall_mem_cons.mpr ⟨lw_p7, List.forall_mem_cons.mpr ⟨lw_p8, List.forall_mem_cons.mpr ⟨lw_p9, List.forall_mem_cons.mpr ⟨lw_p10, List.forall_mem_cons.mpr ⟨lw_p11, List.forall_mem_cons.mpr ⟨lw_p12, List.forall_mem_cons.mpr ⟨lw_p13, List.forall_mem_cons.mpr ⟨lw_p14, List.forall_mem_cons.mpr ⟨lw_p15, fun _ h => absurd h List.not_mem_nil⟩⟩⟩⟩⟩⟩⟩⟩⟩⟩⟩⟩⟩⟩⟩⟩
theorem lw_p16 : lw_okq (⟨"java/lang/Throwable", "fillInStackTrace", "(I)Ljava/lang/Throwable;"⟩, 6) := ⟨⟨by decide +kernel, by decide +kernel⟩, List.mem_of_getElem? (i := 438) (by decide +kernel), List.mem_of_getElem? (i := 436) (by decide +kernel), List.mem_of_getElem? (i := 437) (by decide +kernel)⟩
theorem lw_p17 : lw_okq (⟨"SeenPages$Table", "come", "(II)V"⟩, 6) := ⟨⟨by decide +kernel, by decide +kernel⟩, List.mem_of_getElem? (i := 34) (by decide +kernel), List.mem_of_getElem? (i := 496) (by decide +kernel), List.mem_of_getElem? (i := 497) (by decide +kernel)⟩
theorem lw_p18 : lw_okq (⟨"SeenPages$Table", "go", "(I)V"⟩, 6) := ⟨⟨by decide +kernel, by decide +kernel⟩, List.mem_of_getElem? (i := 34) (by decide +kernel), List.mem_of_getElem? (i := 529) (by decide +kernel), List.mem_of_getElem? (i := 530) (by decide +kernel)⟩
theorem lw_p19 : lw_okq (⟨"SeenPages", "makeParts", "()I"⟩, 3) := ⟨⟨by decide +kernel, by decide +kernel⟩, List.mem_of_getElem? (i := 20) (by decide +kernel), List.mem_of_getElem? (i := 603) (by decide +kernel), List.mem_of_getElem? (i := 604) (by decide +kernel)⟩
theorem lw_p20 : lw_okq (⟨"SeenPagesModel", "fails", "(I)I"⟩, 11) := ⟨⟨by decide +kernel, by decide +kernel⟩, List.mem_of_getElem? (i := 685) (by decide +kernel), List.mem_of_getElem? (i := 736) (by decide +kernel), List.mem_of_getElem? (i := 737) (by decide +kernel)⟩
theorem lw_p21 : lw_okq (⟨"SeenPagesModel", "canChange", "(II)Z"⟩, 11) := ⟨⟨by decide +kernel, by decide +kernel⟩, List.mem_of_getElem? (i := 685) (by decide +kernel), List.mem_of_getElem? (i := 740) (by decide +kernel), List.mem_of_getElem? (i := 741) (by decide +kernel)⟩
theorem lw_p22 : lw_okq (⟨"SeenPagesModel", "isSeen", "(II)Z"⟩, 11) := ⟨⟨by decide +kernel, by decide +kernel⟩, List.mem_of_getElem? (i := 685) (by decide +kernel), List.mem_of_getElem? (i := 747) (by decide +kernel), List.mem_of_getElem? (i := 748) (by decide +kernel)⟩
theorem lw_p23 : lw_okq (⟨"SeenPagesModel", "isFull", "(I)Z"⟩, 11) := ⟨⟨by decide +kernel, by decide +kernel⟩, List.mem_of_getElem? (i := 685) (by decide +kernel), List.mem_of_getElem? (i := 751) (by decide +kernel), List.mem_of_getElem? (i := 752) (by decide +kernel)⟩
theorem lw_p24 : lw_okq (⟨"SeenPagesModel", "of", "(II)I"⟩, 11) := ⟨⟨by decide +kernel, by decide +kernel⟩, List.mem_of_getElem? (i := 685) (by decide +kernel), List.mem_of_getElem? (i := 755) (by decide +kernel), List.mem_of_getElem? (i := 756) (by decide +kernel)⟩
theorem lw_p25 : lw_okq (⟨"SeenPagesModel", "lowestEmpty", "()I"⟩, 11) := ⟨⟨by decide +kernel, by decide +kernel⟩, List.mem_of_getElem? (i := 685) (by decide +kernel), List.mem_of_getElem? (i := 759) (by decide +kernel), List.mem_of_getElem? (i := 760) (by decide +kernel)⟩
theorem lw_p26 : lw_okq (⟨"SeenPagesModel", "saves", "()V"⟩, 11) := ⟨⟨by decide +kernel, by decide +kernel⟩, List.mem_of_getElem? (i := 685) (by decide +kernel), List.mem_of_getElem? (i := 763) (by decide +kernel), List.mem_of_getElem? (i := 764) (by decide +kernel)⟩
theorem lw_p27 : lw_okq (⟨"SeenPagesModel", "changes", "(III)I"⟩, 11) := ⟨⟨by decide +kernel, by decide +kernel⟩, List.mem_of_getElem? (i := 685) (by decide +kernel), List.mem_of_getElem? (i := 767) (by decide +kernel), List.mem_of_getElem? (i := 768) (by decide +kernel)⟩
theorem lw_p28 : lw_okq (⟨"SeenPagesModel", "goes", "(I)V"⟩, 11) := ⟨⟨by decide +kernel, by decide +kernel⟩, List.mem_of_getElem? (i := 685) (by decide +kernel), List.mem_of_getElem? (i := 771) (by decide +kernel), List.mem_of_getElem? (i := 772) (by decide +kernel)⟩
theorem lw_p29 : lw_okq (⟨"SeenPagesModel", "unmarks", "(I)V"⟩, 11) := ⟨⟨by decide +kernel, by decide +kernel⟩, List.mem_of_getElem? (i := 685) (by decide +kernel), List.mem_of_getElem? (i := 775) (by decide +kernel), List.mem_of_getElem? (i := 776) (by decide +kernel)⟩
theorem lw_p30 : lw_okq (⟨"SeenPagesModel", "comes", "(II)V"⟩, 11) := ⟨⟨by decide +kernel, by decide +kernel⟩, List.mem_of_getElem? (i := 685) (by decide +kernel), List.mem_of_getElem? (i := 779) (by decide +kernel), List.mem_of_getElem? (i := 780) (by decide +kernel)⟩
theorem lw_p31 : lw_okq (⟨"SeenPagesModel", "lay", "(IIII)V"⟩, 11) := ⟨⟨by decide +kernel, by decide +kernel⟩, List.mem_of_getElem? (i := 685) (by decide +kernel), List.mem_of_getElem? (i := 783) (by decide +kernel), List.mem_of_getElem? (i := 784) (by decide +kernel)⟩
def lw_privs_2 : List (MethodName × Nat) := [(⟨"java/lang/Throwable", "fillInStackTrace", "(I)Ljava/lang/Throwable;"⟩, 6), (⟨"SeenPages$Table", "come", "(II)V"⟩, 6), (⟨"SeenPages$Table", "go", "(I)V"⟩, 6), (⟨"SeenPages", "makeParts", "()I"⟩, 3), (⟨"SeenPagesModel", "fails", "(I)I"⟩, 11), (⟨"SeenPagesModel", "canChange", "(II)Z"⟩, 11), (⟨"SeenPagesModel", "isSeen", "(II)Z"⟩, 11), (⟨"SeenPagesModel", "isFull", "(I)Z"⟩, 11), (⟨"SeenPagesModel", "of", "(II)I"⟩, 11), (⟨"SeenPagesModel", "lowestEmpty", "()I"⟩, 11), (⟨"SeenPagesModel", "saves", "()V"⟩, 11), (⟨"SeenPagesModel", "changes", "(III)I"⟩, 11), (⟨"SeenPagesModel", "goes", "(I)V"⟩, 11), (⟨"SeenPagesModel", "unmarks", "(I)V"⟩, 11), (⟨"SeenPagesModel", "comes", "(II)V"⟩, 11), (⟨"SeenPagesModel", "lay", "(IIII)V"⟩, 11)]
theorem lw_r2 : ∀ q ∈ lw_privs_2, lw_okq q := List.forall_mem_cons.mpr ⟨lw_p16, List.forall_mem_cons.mpr ⟨lw_p17, List.forall_mem_cons.mpr ⟨lw_p18, List.forall_mem_cons.mpr ⟨lw_p19, List.forall_mem_cons.mpr ⟨lw_p20, List.forall_mem_cons.mpr ⟨lw_p21, List.forall_mem_cons.mpr ⟨lw_p22, List.forall_mem_cons.mpr ⟨lw_p23, List.forall_mem_cons.mpr ⟨lw_p24, List.forall_mem_cons.mpr ⟨lw_p25, List.forall_mem_cons.mpr ⟨lw_p26, List.forall_mem_cons.mpr ⟨lw_p27, List.forall_mem_cons.mpr ⟨lw_p28, List.forall_mem_cons.mpr ⟨lw_p29, List.forall_mem_cons.mpr ⟨lw_p30, List.forall_mem_cons.mpr ⟨lw_p31, fun _ h => absurd h List.not_mem_nil⟩⟩⟩⟩⟩⟩⟩⟩⟩⟩⟩⟩⟩⟩⟩⟩
theorem lw_p32 : lw_okq (⟨"SeenPagesModel", "snapshotOf", "(I)I"⟩, 11) := ⟨⟨by decide +kernel, by decide +kernel⟩, List.mem_of_getElem? (i := 685) (by decide +kernel), List.mem_of_getElem? (i := 806) (by decide +kernel), List.mem_of_getElem? (i := 807) (by decide +kernel)⟩
theorem lw_p33 : lw_okq (⟨"SeenPagesModel", "sweeps", "(I)I"⟩, 11) := ⟨⟨by decide +kernel, by decide +kernel⟩, List.mem_of_getElem? (i := 685) (by decide +kernel), List.mem_of_getElem? (i := 817) (by decide +kernel), List.mem_of_getElem? (i := 818) (by decide +kernel)⟩
theorem lw_p34 : lw_okq (⟨"SeenPagesModel", "horizon", "()I"⟩, 11) := ⟨⟨by decide +kernel, by decide +kernel⟩, List.mem_of_getElem? (i := 685) (by decide +kernel), List.mem_of_getElem? (i := 821) (by decide +kernel), List.mem_of_getElem? (i := 822) (by decide +kernel)⟩
theorem lw_p35 : lw_okq (⟨"SeenPagesModel", "horizonBut", "(I)I"⟩, 11) := ⟨⟨by decide +kernel, by decide +kernel⟩, List.mem_of_getElem? (i := 685) (by decide +kernel), List.mem_of_getElem? (i := 825) (by decide +kernel), List.mem_of_getElem? (i := 826) (by decide +kernel)⟩
theorem lw_p36 : lw_okq (⟨"SeenPagesModel", "oldIn", "(II)I"⟩, 11) := ⟨⟨by decide +kernel, by decide +kernel⟩, List.mem_of_getElem? (i := 685) (by decide +kernel), List.mem_of_getElem? (i := 829) (by decide +kernel), List.mem_of_getElem? (i := 830) (by decide +kernel)⟩
theorem lw_p37 : lw_okq (⟨"SeenPagesModel", "isOld", "(II)Z"⟩, 11) := ⟨⟨by decide +kernel, by decide +kernel⟩, List.mem_of_getElem? (i := 685) (by decide +kernel), List.mem_of_getElem? (i := 833) (by decide +kernel), List.mem_of_getElem? (i := 834) (by decide +kernel)⟩
theorem lw_p38 : lw_okq (⟨"SeenPagesModel", "markedPages", "()I"⟩, 11) := ⟨⟨by decide +kernel, by decide +kernel⟩, List.mem_of_getElem? (i := 685) (by decide +kernel), List.mem_of_getElem? (i := 841) (by decide +kernel), List.mem_of_getElem? (i := 842) (by decide +kernel)⟩
theorem lw_p39 : lw_okq (⟨"SeenPagesModel", "ofPage", "(II)I"⟩, 11) := ⟨⟨by decide +kernel, by decide +kernel⟩, List.mem_of_getElem? (i := 685) (by decide +kernel), List.mem_of_getElem? (i := 845) (by decide +kernel), List.mem_of_getElem? (i := 846) (by decide +kernel)⟩
theorem lw_p40 : lw_okq (⟨"SeenPagesModel", "truly", "(II)I"⟩, 11) := ⟨⟨by decide +kernel, by decide +kernel⟩, List.mem_of_getElem? (i := 685) (by decide +kernel), List.mem_of_getElem? (i := 853) (by decide +kernel), List.mem_of_getElem? (i := 854) (by decide +kernel)⟩
theorem lw_p41 : lw_okq (⟨"SeenPagesModel", "greatestMark", "()I"⟩, 11) := ⟨⟨by decide +kernel, by decide +kernel⟩, List.mem_of_getElem? (i := 685) (by decide +kernel), List.mem_of_getElem? (i := 857) (by decide +kernel), List.mem_of_getElem? (i := 858) (by decide +kernel)⟩
theorem lw_p42 : lw_okq (⟨"SeenPagesModel", "costs", "(III)I"⟩, 11) := ⟨⟨by decide +kernel, by decide +kernel⟩, List.mem_of_getElem? (i := 685) (by decide +kernel), List.mem_of_getElem? (i := 861) (by decide +kernel), List.mem_of_getElem? (i := 862) (by decide +kernel)⟩
theorem lw_p43 : lw_okq (⟨"SeenPagesModel", "hasIn", "(II)Z"⟩, 11) := ⟨⟨by decide +kernel, by decide +kernel⟩, List.mem_of_getElem? (i := 685) (by decide +kernel), List.mem_of_getElem? (i := 865) (by decide +kernel), List.mem_of_getElem? (i := 866) (by decide +kernel)⟩
theorem lw_p44 : lw_okq (⟨"SeenPagesModel", "hasValue", "(II)Z"⟩, 11) := ⟨⟨by decide +kernel, by decide +kernel⟩, List.mem_of_getElem? (i := 685) (by decide +kernel), List.mem_of_getElem? (i := 869) (by decide +kernel), List.mem_of_getElem? (i := 870) (by decide +kernel)⟩
theorem lw_p45 : lw_okq (⟨"SeenPagesModel", "answers", "(III)I"⟩, 11) := ⟨⟨by decide +kernel, by decide +kernel⟩, List.mem_of_getElem? (i := 685) (by decide +kernel), List.mem_of_getElem? (i := 873) (by decide +kernel), List.mem_of_getElem? (i := 874) (by decide +kernel)⟩
theorem lw_p46 : lw_okq (⟨"SeenPagesModel", "readsAll", "()V"⟩, 11) := ⟨⟨by decide +kernel, by decide +kernel⟩, List.mem_of_getElem? (i := 685) (by decide +kernel), List.mem_of_getElem? (i := 889) (by decide +kernel), List.mem_of_getElem? (i := 890) (by decide +kernel)⟩
theorem lw_p47 : lw_okq (⟨"SeenPagesModel", "readsChange", "()V"⟩, 11) := ⟨⟨by decide +kernel, by decide +kernel⟩, List.mem_of_getElem? (i := 685) (by decide +kernel), List.mem_of_getElem? (i := 893) (by decide +kernel), List.mem_of_getElem? (i := 894) (by decide +kernel)⟩
def lw_privs_3 : List (MethodName × Nat) := [(⟨"SeenPagesModel", "snapshotOf", "(I)I"⟩, 11), (⟨"SeenPagesModel", "sweeps", "(I)I"⟩, 11), (⟨"SeenPagesModel", "horizon", "()I"⟩, 11), (⟨"SeenPagesModel", "horizonBut", "(I)I"⟩, 11), (⟨"SeenPagesModel", "oldIn", "(II)I"⟩, 11), (⟨"SeenPagesModel", "isOld", "(II)Z"⟩, 11), (⟨"SeenPagesModel", "markedPages", "()I"⟩, 11), (⟨"SeenPagesModel", "ofPage", "(II)I"⟩, 11), (⟨"SeenPagesModel", "truly", "(II)I"⟩, 11), (⟨"SeenPagesModel", "greatestMark", "()I"⟩, 11), (⟨"SeenPagesModel", "costs", "(III)I"⟩, 11), (⟨"SeenPagesModel", "hasIn", "(II)Z"⟩, 11), (⟨"SeenPagesModel", "hasValue", "(II)Z"⟩, 11), (⟨"SeenPagesModel", "answers", "(III)I"⟩, 11), (⟨"SeenPagesModel", "readsAll", "()V"⟩, 11), (⟨"SeenPagesModel", "readsChange", "()V"⟩, 11)]
theorem lw_r3 : ∀ q ∈ lw_privs_3, lw_okq q := List.forall_mem_cons.mpr ⟨lw_p32, List.forall_mem_cons.mpr ⟨lw_p33, List.forall_mem_cons.mpr ⟨lw_p34, List.forall_mem_cons.mpr ⟨lw_p35, List.forall_mem_cons.mpr ⟨lw_p36, List.forall_mem_cons.mpr ⟨lw_p37, List.forall_mem_cons.mpr ⟨lw_p38, List.forall_mem_cons.mpr ⟨lw_p39, List.forall_mem_cons.mpr ⟨lw_p40, List.forall_mem_cons.mpr ⟨lw_p41, List.forall_mem_cons.mpr ⟨lw_p42, List.forall_mem_cons.mpr ⟨lw_p43, List.forall_mem_cons.mpr ⟨lw_p44, List.forall_mem_cons.mpr ⟨lw_p45, List.forall_mem_cons.mpr ⟨lw_p46, List.forall_mem_cons.mpr ⟨lw_p47, fun _ h => absurd h List.not_mem_nil⟩⟩⟩⟩⟩⟩⟩⟩⟩⟩⟩⟩⟩⟩⟩⟩
theorem lw_p48 : lw_okq (⟨"SeenPagesModel", "sign", "()I"⟩, 11) := ⟨⟨by decide +kernel, by decide +kernel⟩, List.mem_of_getElem? (i := 685) (by decide +kernel), List.mem_of_getElem? (i := 897) (by decide +kernel), List.mem_of_getElem? (i := 898) (by decide +kernel)⟩
theorem lw_p49 : lw_okq (⟨"SeenPagesModel", "digit", "(I)I"⟩, 11) := ⟨⟨by decide +kernel, by decide +kernel⟩, List.mem_of_getElem? (i := 685) (by decide +kernel), List.mem_of_getElem? (i := 901) (by decide +kernel), List.mem_of_getElem? (i := 902) (by decide +kernel)⟩
theorem lw_p50 : lw_okq (⟨"SeenPagesModel", "placeRead", "()I"⟩, 11) := ⟨⟨by decide +kernel, by decide +kernel⟩, List.mem_of_getElem? (i := 685) (by decide +kernel), List.mem_of_getElem? (i := 905) (by decide +kernel), List.mem_of_getElem? (i := 906) (by decide +kernel)⟩
theorem lw_p51 : lw_okq (⟨"SeenPagesModel", "makes", "(I)Z"⟩, 11) := ⟨⟨by decide +kernel, by decide +kernel⟩, List.mem_of_getElem? (i := 685) (by decide +kernel), List.mem_of_getElem? (i := 913) (by decide +kernel), List.mem_of_getElem? (i := 914) (by decide +kernel)⟩
theorem lw_p52 : lw_okq (⟨"SeenPagesModel", "tellsSlot", "(II)I"⟩, 11) := ⟨⟨by decide +kernel, by decide +kernel⟩, List.mem_of_getElem? (i := 685) (by decide +kernel), List.mem_of_getElem? (i := 925) (by decide +kernel), List.mem_of_getElem? (i := 926) (by decide +kernel)⟩
theorem lw_p53 : lw_okq (⟨"SeenPagesModel", "tellsPage", "(II)I"⟩, 11) := ⟨⟨by decide +kernel, by decide +kernel⟩, List.mem_of_getElem? (i := 685) (by decide +kernel), List.mem_of_getElem? (i := 933) (by decide +kernel), List.mem_of_getElem? (i := 934) (by decide +kernel)⟩
theorem lw_p54 : lw_okq (⟨"SeenPagesModel", "versions", "(IIZI)I"⟩, 11) := ⟨⟨by decide +kernel, by decide +kernel⟩, List.mem_of_getElem? (i := 685) (by decide +kernel), List.mem_of_getElem? (i := 937) (by decide +kernel), List.mem_of_getElem? (i := 938) (by decide +kernel)⟩
theorem lw_p55 : lw_okq (⟨"SeenPagesModel", "tellsAsker", "(II)I"⟩, 11) := ⟨⟨by decide +kernel, by decide +kernel⟩, List.mem_of_getElem? (i := 685) (by decide +kernel), List.mem_of_getElem? (i := 945) (by decide +kernel), List.mem_of_getElem? (i := 946) (by decide +kernel)⟩
theorem lw_p56 : lw_okq (⟨"SeenPagesModel", "tellsCount", "(I)I"⟩, 11) := ⟨⟨by decide +kernel, by decide +kernel⟩, List.mem_of_getElem? (i := 685) (by decide +kernel), List.mem_of_getElem? (i := 953) (by decide +kernel), List.mem_of_getElem? (i := 954) (by decide +kernel)⟩
theorem lw_p57 : lw_okq (⟨"SeenPagesModel", "tellsLies", "(I)I"⟩, 11) := ⟨⟨by decide +kernel, by decide +kernel⟩, List.mem_of_getElem? (i := 685) (by decide +kernel), List.mem_of_getElem? (i := 965) (by decide +kernel), List.mem_of_getElem? (i := 966) (by decide +kernel)⟩
theorem lw_p58 : lw_okq (⟨"SeenPagesModel", "cheapestWay", "(I)I"⟩, 11) := ⟨⟨by decide +kernel, by decide +kernel⟩, List.mem_of_getElem? (i := 685) (by decide +kernel), List.mem_of_getElem? (i := 973) (by decide +kernel), List.mem_of_getElem? (i := 974) (by decide +kernel)⟩
theorem lw_p59 : lw_okq (⟨"SeenPagesModel", "holderNow", "()I"⟩, 11) := ⟨⟨by decide +kernel, by decide +kernel⟩, List.mem_of_getElem? (i := 685) (by decide +kernel), List.mem_of_getElem? (i := 981) (by decide +kernel), List.mem_of_getElem? (i := 982) (by decide +kernel)⟩
theorem lw_p60 : lw_okq (⟨"SeenPagesModel", "oldOnes", "(I)I"⟩, 11) := ⟨⟨by decide +kernel, by decide +kernel⟩, List.mem_of_getElem? (i := 685) (by decide +kernel), List.mem_of_getElem? (i := 985) (by decide +kernel), List.mem_of_getElem? (i := 986) (by decide +kernel)⟩
theorem lw_p61 : lw_okq (⟨"SeenPagesModel", "share", "()D"⟩, 11) := ⟨⟨by decide +kernel, by decide +kernel⟩, List.mem_of_getElem? (i := 685) (by decide +kernel), List.mem_of_getElem? (i := 993) (by decide +kernel), List.mem_of_getElem? (i := 994) (by decide +kernel)⟩
theorem lw_p62 : lw_okq (⟨"SeenPagesModel", "hashes", "(J)V"⟩, 11) := ⟨⟨by decide +kernel, by decide +kernel⟩, List.mem_of_getElem? (i := 685) (by decide +kernel), List.mem_of_getElem? (i := 1003) (by decide +kernel), List.mem_of_getElem? (i := 1004) (by decide +kernel)⟩
theorem lw_p63 : lw_okq (⟨"SeenPagesModel", "hashesValue", "(I)V"⟩, 11) := ⟨⟨by decide +kernel, by decide +kernel⟩, List.mem_of_getElem? (i := 685) (by decide +kernel), List.mem_of_getElem? (i := 1008) (by decide +kernel), List.mem_of_getElem? (i := 1009) (by decide +kernel)⟩
def lw_privs_4 : List (MethodName × Nat) := [(⟨"SeenPagesModel", "sign", "()I"⟩, 11), (⟨"SeenPagesModel", "digit", "(I)I"⟩, 11), (⟨"SeenPagesModel", "placeRead", "()I"⟩, 11), (⟨"SeenPagesModel", "makes", "(I)Z"⟩, 11), (⟨"SeenPagesModel", "tellsSlot", "(II)I"⟩, 11), (⟨"SeenPagesModel", "tellsPage", "(II)I"⟩, 11), (⟨"SeenPagesModel", "versions", "(IIZI)I"⟩, 11), (⟨"SeenPagesModel", "tellsAsker", "(II)I"⟩, 11), (⟨"SeenPagesModel", "tellsCount", "(I)I"⟩, 11), (⟨"SeenPagesModel", "tellsLies", "(I)I"⟩, 11), (⟨"SeenPagesModel", "cheapestWay", "(I)I"⟩, 11), (⟨"SeenPagesModel", "holderNow", "()I"⟩, 11), (⟨"SeenPagesModel", "oldOnes", "(I)I"⟩, 11), (⟨"SeenPagesModel", "share", "()D"⟩, 11), (⟨"SeenPagesModel", "hashes", "(J)V"⟩, 11), (⟨"SeenPagesModel", "hashesValue", "(I)V"⟩, 11)]
theorem lw_r4 : ∀ q ∈ lw_privs_4, lw_okq q := List.forall_mem_cons.mpr ⟨lw_p48, List.forall_mem_cons.mpr ⟨lw_p49, List.forall_mem_cons.mpr ⟨lw_p50, List.forall_mem_cons.mpr ⟨lw_p51, List.forall_mem_cons.mpr ⟨lw_p52, List.forall_mem_cons.mpr ⟨lw_p53, List.forall_mem_cons.mpr ⟨lw_p54, List.forall_mem_cons.mpr ⟨lw_p55, List.forall_mem_cons.mpr ⟨lw_p56, List.forall_mem_cons.mpr ⟨lw_p57, List.forall_mem_cons.mpr ⟨lw_p58, List.forall_mem_cons.mpr ⟨lw_p59, List.forall_mem_cons.mpr ⟨lw_p60, List.forall_mem_cons.mpr ⟨lw_p61, List.forall_mem_cons.mpr ⟨lw_p62, List.forall_mem_cons.mpr ⟨lw_p63, fun _ h => absurd h List.not_mem_nil⟩⟩⟩⟩⟩⟩⟩⟩⟩⟩⟩⟩⟩⟩⟩⟩
def lw_privs : List (MethodName × Nat) := lw_privs_1 ++ (lw_privs_2 ++ (lw_privs_3 ++ (lw_privs_4)))
def lw_tbl : List Cond := k2_sels lw_privs ++ tables_1
theorem lw_privs_ok : ∀ q ∈ lw_privs, lw_okq q := by
  show ∀ q ∈ lw_privs_1 ++ (lw_privs_2 ++ (lw_privs_3 ++ (lw_privs_4))), lw_okq q
  exact List.forall_mem_append.mpr ⟨lw_r1, List.forall_mem_append.mpr ⟨lw_r2, List.forall_mem_append.mpr ⟨lw_r3, lw_r4⟩⟩⟩
/-- the streams that the claim lets the run draw from -/
abbrev lw_cs : List Choice := [Jvm.Choice.named "NaN.bits"]
theorem lw_bits : nanBits ∈ lw_cs := by first | decide | exact List.mem_cons_self | simp [lw_cs, nanBits]
-- ===== end of PART A; then your names; then what follows =====
end
section
/-! ===== BEGIN words of one list among another's, by their places ===== -/
theorem goodIn_r {big : List Cond} (ws : List Cond) (ps : List Nat) (hp : ws = ps.filterMap (fun i => big[i]?)) (h : ws.all goodWord = true) : GoodIn big ws := by
  intro w hw
  have h1 := List.all_eq_true.mp h w hw
  rw [hp] at hw
  obtain ⟨i, -, hi⟩ := List.mem_filterMap.mp hw
  have hm : w ∈ big := by first | exact List.mem_of_getElem? hi | exact List.getElem?_mem hi
  exact ⟨hm, good_of_word h1⟩
theorem goodIn_app {big a b : List Cond} (ha : GoodIn big a) (hb : GoodIn big b) : GoodIn big (a ++ b) := fun w h => (List.mem_append.mp h).elim (ha w) (hb w)
theorem goodIn_ca {big a b : List Cond} {c : Cond} (ha : GoodIn big (c :: a)) (hb : GoodIn big b) : GoodIn big (c :: (a ++ b)) := fun w h => (List.mem_cons.mp h).elim (fun e => ha w (List.mem_cons.mpr (Or.inl e))) (fun h => (List.mem_append.mp h).elim (fun h => ha w (List.mem_cons.mpr (Or.inr h))) (hb w))
theorem goodIn_sub {big ws : List Cond} (hm : ∀ w ∈ ws, w ∈ big) (h : ws.all goodWord = true) : GoodIn big ws := fun w hw => ⟨hm w hw, good_of_word (List.all_eq_true.mp h w hw)⟩
/-! ===== END ===== -/

/-! ===== BEGIN exceptions that leave a method, and their catching by the caller (launches without stack traces) ===== -/
section VXA
/-! The laws vx_back, vx_callV, vx_callS, vx_callSW, vx_throw0, vx_throwS follow proofs of the library, with one case more: JvmDerived/Free/Laws.lean (Back.of_free), Shelf42/LK1.lean (callV, callS), Shelf/KitTraced.lean (throwNew0V, throwNewS). -/
/-- where a method has thrown q: the class by its name, the cell, what was written, the world -/
def vx_T (XC : String → State → State → Prop) (st : State) (q : Addr) (t : State) (mc ms : Nat) (free : Addr → Prop) : Prop :=
  ∃ (E : String) (ce : Cell) (L : List Loc), XC E st t ∧ t.heap[q]? = some ce ∧ ce.vm = .none ∧ st.vm.findClass E = some ce.cls ∧ st.WarmedH t.vm ∧ st.sameButNew ({ t with vm := st.vm } : State) L mc ms ∧ ∀ z ∈ L, free z.base
def vx_Q (Qc : Array Value → State → Outcome → State → Prop) (XC : String → State → State → Prop) (mc ms : Nat) (free : Addr → Prop) : Array Value → State → Outcome → State → Prop := fun a st o t =>
  (Qc a st o t ∧ ∃ L, FrameEnd st o t L mc ms ∧ ∀ q ∈ L, free q.base) ∨ ∃ q, o = .threw q ∧ vx_T XC st q t mc ms free
/-- a callee that returns or throws -/
def vx_Met (l : Launch) (y : MethodName) (ws : List Cond) (rm : Room) (Pc : Array Value → State → Prop) (Qc : Array Value → State → Outcome → State → Prop) (XC : String → State → State → Prop) (mc ms : Nat) (free : Addr → Prop) : Prop :=
  MetFree l y (headSpec ws rm) Pc (fun _ _ _ _ _ => True) (vx_Q Qc XC mc ms free)
def vx_Post (XC : String → State → State → Prop) (mc ms : Nat) (free : Addr → Prop) : Pt → Array Value → Addr → Pt → Prop := fun A a q B =>
  ∃ (g : JFrame) (mk : MethodId) (t : State) (L : List Loc) (E : String) (ce : Cell), B.U.heap = t.heap ∧ B.U.vm = t.vm ∧ XC E (A.U.calling g mk a) t ∧ t.heap[q]? = some ce ∧ ce.vm = .none ∧ A.U.vm.findClass E = some ce.cls ∧ B.locs = A.locs ++ L ∧ (∀ z ∈ L, free z.base) ∧ B.cells = A.cells + mc ∧ B.slots = A.slots + ms
def vx_Back (l : Launch) (R : Room) (p : Program) (e : Env) (below : List Frame) (s : State) (sargs : Array Value) (y : MethodName) (len W9 : Nat)
    (Pre : Pt → Array Value → Prop) (Post : Pt → Array Value → Option Value → Pt → Prop) (PostX : Pt → Array Value → Addr → Pt → Prop) : Prop :=
  ∀ (m : MethodId) (meth : Method) (c : Code) (A : Pt) (g : JFrame) (ig : Instr) (mk : MethodId) (a : Array Value),
    Stand p l e R s m sargs below meth c A.U A.locs A.cells A.slots → g.method = m → g.locals.size = c.maxLocals → decode c.code g.pc = .ok (ig, len) →
    2 * g.monitorRoom + (g.stack.map fun v => v.category).sum ≤ W9 → A.U.methodNamed? y = some mk → Pre A a →
    (∃ (v : Option Value) (B : Pt), Stand p l e R s m sargs below meth c B.U B.locs B.cells B.slots ∧ Post A a v B ∧
      Steps p.tables e below (doInvoke e (A.U.setTop g) [] mk a).1 (B.U.setTop { g with pc := g.pc + len, stack := v.toList ++ g.stack })) ∨
    (∃ (q : Addr) (B : Pt), Stand p l e R s m sargs below meth c B.U B.locs B.cells B.slots ∧ PostX A a q B ∧
      Steps p.tables e below (doInvoke e (A.U.setTop g) [] mk a).1 ((B.U.setTop g).pushFrame (.throwing q)))
section Payer
variable {l : Launch} {R : Room} {p : Program} {e : Env} {below : List Frame} {s : State} {sargs : Array Value} {y : MethodName} {len W9 : Nat}
theorem vx_back {ws : List Cond} {rm : Room} {Pc : Array Value → State → Prop} {Qc : Array Value → State → Outcome → State → Prop} {XC : String → State → State → Prop} {mc ms : Nat} {free : Addr → Prop} {bytes : ByteArray} {maxL : Nat} {ret : Option FieldType}
    (hM : vx_Met l y ws rm Pc Qc XC mc ms free) (hblind : FrameBlind Pc) (hrc : rm.cells = mc) (hrs : rm.slots = ms)
    (hframes : rm.frames + 1 ≤ R.frames) (hlocals : W9 + (maxL + 11) + rm.locals ≤ R.locals)
    (hws : ∀ w ∈ ws, ∀ a' U, s.WarmedH U.vm → w.before a' U = true) (hcode : Cond.code y bytes maxL ret ∈ ws) (hinit : ∀ a' U, s.WarmedH U.vm → (Cond.initialized y.cls).before a' U = true) :
    vx_Back l R p e below s sargs y len W9 (PreOf R mc ms Pc) (PostOf Qc mc ms free) (vx_Post XC mc ms free) := by
  intro m meth c A g ig mk a X hg hsize hdg hW hn hp
  have h1 : (headSpec ws rm).pre.before a A.U = true := atoms_intro fun w hw => hws w hw _ _ X.warmed
  have h2 : (Cond.code y bytes maxL ret).before a A.U = true := hws _ hcode _ _ X.warmed
  have h3 : (Cond.initialized y.cls).before a A.U = true := hinit _ _ X.warmed
  have h4 : A.cells + (headSpec ws rm).room.cells ≤ R.cells := by rw [show (headSpec ws rm).room.cells = mc from hrc]; exact hp.1
  have h5 : A.slots + (headSpec ws rm).room.slots ≤ R.slots := by rw [show (headSpec ws rm).room.slots = ms from hrs]; exact hp.2.1
  have hPc : Pc a (A.U.calling g mk a) := hblind _ _ _ _ hp.2.2
  obtain ⟨U, Ls, c0, s0⟩ := A
  dsimp only [Pt.U, Pt.locs, Pt.cells, Pt.slots] at h1 h2 h3 h4 h5 X hn hPc ⊢
  obtain ⟨methY, cY, hmY, hcY, -, hlY, -, -, -, -⟩ := Cond.code_spec hn h2
  obtain ⟨kY, hkY, -⟩ := className_of_methodNamed hn
  have hinitY : kY.init = .initialized := Cond.initialized_spec (findClass_of_methodNamed hn) hkY h3
  have h : At U g.method c below := by rw [hg]; exact X.here
  have hlocals9 : W9 + (maxL + 11) + (headSpec ws rm).room.locals ≤ R.locals := hlocals
  have happ : (headSpec ws rm).appliesLoose y e.platform (U.calling g mk a) = true :=
    Spec.appliesLoose_calling (g := g) h hdg hn hkY hinitY
      (X.room_calling (g := g) (R' := (headSpec ws rm).room) hsize hmY hcY hframes (by rw [hlY]; omega) h4 h5) h1
  obtain ⟨mid, hmid⟩ := h.above
  have hfr : (U.setTop g).frames = (.java g :: mid) ++ below := by rw [State.frames_setTop' g h.top, hmid]; rfl
  obtain ⟨o, s₂, hsteps, -, hend, hq⟩ := Steps.callFree hM p X.admits X.cas X.clock (acts := []) hfr happ hPc trivial
  have hq' : vx_Q Qc XC mc ms free a (U.calling g mk a) o s₂ := hq
  rw [State.frames_setTop' g h.top] at hend
  obtain ⟨g₀, hg0⟩ := Option.isSome_iff_exists.mp h.top
  obtain ⟨r, hr⟩ := State.topJava?_eq_some.mp hg0
  have hr' : (({ U with heap := s₂.heap, slotsUsed := s₂.slotsUsed } : State).setVm s₂.vm).frames = .java g₀ :: r := hr
  rcases hq' with ⟨hqc, L, hfe, hL⟩ | ⟨q, rfl, E, ce, L, hx, hce, hcv, hcl, hW₂, hsm, hL⟩
  · obtain ⟨⟨v, rfl⟩, hW₂, e2, q2, q3, q4, q5, q6⟩ := id hfe
    have e3 : s₂ = ({ (U.calling g mk a).setFrames s₂.frames with heap := s₂.heap, slotsUsed := s₂.slotsUsed } : State).setVm s₂.vm := by
      have : s₂ = ({ s₂ with vm := (U.calling g mk a).vm } : State).setVm s₂.vm := rfl
      rw [e2] at this
      exact this
    obtain ⟨c₂, i₂, len₂, hc₂, hd₂, hf₂⟩ := hend
    have hW' : U.WarmedH s₂.vm := hW₂
    have hcc : c₂ = c := by
      have h1 : s₂.code? g.method = U.code? g.method := by
        rw [State.code?_eq, State.code?_eq, hW'.alike.method?]
      exact Option.some.inj (hc₂.symm.trans (h1.trans h.code))
    subst hcc
    have hlen : len₂ = len := by rw [hdg] at hd₂; cases hd₂; rfl
    subst hlen
    have hs₂ : s₂ = (({ U with heap := s₂.heap, slotsUsed := s₂.slotsUsed } : State).setVm s₂.vm).setTop { g with pc := g.pc + len₂, stack := v.toList ++ g.stack } := by
      refine e3.trans ?_
      rw [hf₂, State.calling_eq h.top, State.setFrames_setFrames, State.setTop_of_frames _ hr', hr]
      rfl
    have hsame : U.sameButNew ({ U with heap := s₂.heap, slotsUsed := s₂.slotsUsed } : State) L mc ms := by
      refine ⟨?_, q2, q3, q4, q5, q6⟩
      obtain ⟨t, ht, -⟩ := State.frames_cons hr
      show ({ U with heap := s₂.heap, slotsUsed := s₂.slotsUsed } : State) = { U.setFrames U.frames with heap := s₂.heap, slotsUsed := s₂.slotsUsed }
      rw [State.setFrames_self ht]
    subst hg
    refine Or.inl ⟨v, ⟨(({ U with heap := s₂.heap, slotsUsed := s₂.slotsUsed } : State).setVm s₂.vm), Ls ++ L, c0 + mc, s0 + ms⟩,
      ⟨X.admits, X.cas, X.clock, X.frames, X.room, X.hears, X.method, X.code, (X.here.setHeapUsed s₂.heap s₂.slotsUsed).setVm hW'.alike, X.tail, State.WarmedH.trans X.warmed hW', X.limits, X.bytes, X.same.trans (hsame.setVm s.vm)⟩,
      ⟨g, mk, s₂, L, rfl, rfl, hqc, rfl, hL, rfl, rfl⟩, ?_⟩
    show Steps p.tables e below _ ((({ U with heap := s₂.heap, slotsUsed := s₂.slotsUsed } : State).setVm s₂.vm).setTop { g with pc := g.pc + len₂, stack := v.toList ++ g.stack })
    rw [← hs₂]
    exact hsteps
  · obtain ⟨e2, q2, q3, q4, q5, q6⟩ := id hsm
    have e3 : s₂ = ({ (U.calling g mk a).setFrames s₂.frames with heap := s₂.heap, slotsUsed := s₂.slotsUsed } : State).setVm s₂.vm := by
      have : s₂ = ({ s₂ with vm := (U.calling g mk a).vm } : State).setVm s₂.vm := rfl
      rw [e2] at this
      exact this
    have hf₂ : s₂.frames = .throwing q :: .java g :: U.frames.tail := hend
    have hW' : U.WarmedH s₂.vm := hW₂
    have hs₂ : s₂ = ((({ U with heap := s₂.heap, slotsUsed := s₂.slotsUsed } : State).setVm s₂.vm).setTop g).pushFrame (.throwing q) := by
      refine e3.trans ?_
      rw [hf₂, State.calling_eq h.top, State.setFrames_setFrames, State.pushFrame, State.frames_setTop _ hr', State.setTop_of_frames _ hr', State.setFrames_setFrames, hr]
      rfl
    have hsame : U.sameButNew ({ U with heap := s₂.heap, slotsUsed := s₂.slotsUsed } : State) L mc ms := by
      refine ⟨?_, q2, q3, q4, q5, q6⟩
      obtain ⟨t, ht, -⟩ := State.frames_cons hr
      show ({ U with heap := s₂.heap, slotsUsed := s₂.slotsUsed } : State) = { U.setFrames U.frames with heap := s₂.heap, slotsUsed := s₂.slotsUsed }
      rw [State.setFrames_self ht]
    subst hg
    refine Or.inr ⟨q, ⟨(({ U with heap := s₂.heap, slotsUsed := s₂.slotsUsed } : State).setVm s₂.vm), Ls ++ L, c0 + mc, s0 + ms⟩,
      ⟨X.admits, X.cas, X.clock, X.frames, X.room, X.hears, X.method, X.code, (X.here.setHeapUsed s₂.heap s₂.slotsUsed).setVm hW'.alike, X.tail, State.WarmedH.trans X.warmed hW', X.limits, X.bytes, X.same.trans (hsame.setVm s.vm)⟩,
      ⟨g, mk, s₂, L, E, ce, rfl, rfl, hx, hce, hcv, hcl, rfl, hL, rfl, rfl⟩, ?_⟩
    show Steps p.tables e below _ (((({ U with heap := s₂.heap, slotsUsed := s₂.slotsUsed } : State).setVm s₂.vm).setTop g).pushFrame (.throwing q))
    rw [← hs₂]
    exact hsteps
end Payer
section Calls
variable {p : Program} {l : Launch} {e : Env} {R : Room} {s : State} {m : MethodId} {args : Array Value} {below : List Frame} {meth : Method} {c : Code} {T : State} {locs : List Loc} {cells slots : Nat}
theorem vx_callV (X : Stand p l e R s m args below meth c T locs cells slots) (hexec : p.tables.exec = Jvm.exec) {own C : String} {index : Nat} {y : MethodName} {bytes : ByteArray} {maxL : Nat} {ret : Option FieldType}
    (hown : s.vm.findClass own = some m.cls) (hlink : (Cond.methodLink own index y).before args s = true) (hinst : (Cond.instanceMethod y).before args s = true) (hsel : (Cond.selects C y y).before args s = true)
    (hcode : (Cond.code y bytes maxL ret).before args s = true) (hy : y.cls ≠ "java/lang/invoke/MethodHandle" ∧ y.cls ≠ "java/lang/invoke/VarHandle")
    {W9 : Nat} {Pre : Pt → Array Value → Prop} {Post : Pt → Array Value → Option Value → Pt → Prop} {PostX : Pt → Array Value → Addr → Pt → Prop} (hK : vx_Back l R p e below s args y 3 W9 Pre Post PostX)
    {b : Addr} {cellB : Cell} (hcell : T.heap[b]? = some cellB) (hobj : cellB.vm.isStatics = false) (hcls : s.vm.findClass C = some cellB.cls)
    {g : JFrame} (hg : g.method = m) (hsize : g.locals.size = c.maxLocals) {argsL rest : List Value} (hlen : ∀ sig, parseMethodDescriptor y.desc = some sig → argsL.length = sig.parameters.length)
    (hstack : g.stack = argsL.reverse ++ .ref b :: rest) (hW : 2 * g.monitorRoom + (rest.map fun v => v.category).sum ≤ W9) (hdg : decode c.code g.pc = .ok (.invokevirtual index, 3))
    (hpre : ∀ vm₁, s.WarmedH vm₁ → Pre ⟨T.setVm vm₁, locs, cells, slots⟩ (Value.ref b :: argsL).toArray) :
    (∃ (v : Option Value) (vm₁ : Vm) (B : Pt), s.WarmedH vm₁ ∧ Stand p l e R s m args below meth c B.U B.locs B.cells B.slots ∧ Post ⟨T.setVm vm₁, locs, cells, slots⟩ (Value.ref b :: argsL).toArray v B ∧
      ∀ target, Steps p.tables e below (B.U.setTop { g with pc := g.pc + 3, stack := v.toList ++ rest }) target → Steps p.tables e below (T.setTop g) target) ∨
    (∃ (q : Addr) (vm₁ : Vm) (B : Pt), s.WarmedH vm₁ ∧ Stand p l e R s m args below meth c B.U B.locs B.cells B.slots ∧ PostX ⟨T.setVm vm₁, locs, cells, slots⟩ (Value.ref b :: argsL).toArray q B ∧
      Steps p.tables e below (T.setTop g) ((B.U.setTop { g with stack := rest }).pushFrame (.throwing q))) := by
  obtain ⟨mk, methM, hnamed, hmethM, hstM, habM⟩ := Cond.instanceMethod_spec hinst
  obtain ⟨methM', cM, hmethM', -, -, -, -, -, -, hsigM⟩ := Cond.code_spec hnamed hcode
  cases hmethM.symm.trans hmethM'
  obtain ⟨c2, r2, m2, q1, q2, q3, q4, kP, hkP, hkPi⟩ := Cond.selects_spec hsel
  cases hcls.symm.trans q1
  cases (State.methodFound?_of_named hnamed hy).symm.trans q2
  cases hnamed.symm.trans q3
  have hselP : selectMethod e.platform s.vm cellB.cls mk = .method mk := by rw [Launch.admits_selectMethod X.admits]; exact q4
  obtain ⟨vm₁, X₁, hstep₁⟩ := X.invokevirtual hexec hown hlink hnamed hmethM hstM hkP hkPi hy (a := b) (cell := cellB) hcell
    (fun z h => by rw [h] at hobj; cases hobj) hselP hmethM habM hkP hkPi (g := g) hg (argsL := argsL) (rest := rest) (hlen _ hsigM) hstack hdg
  rcases hK m meth c ⟨T.setVm vm₁, locs, cells, slots⟩ { g with stack := rest } (.invokevirtual index) mk (Value.ref b :: argsL).toArray X₁ hg hsize hdg hW (X₁.named hnamed) (hpre vm₁ X₁.warmed) with ⟨v, B, X', hpost, hsteps⟩ | ⟨q, B, X', hpost, hsteps⟩
  · exact Or.inl ⟨v, vm₁, B, X₁.warmed, X', hpost, fun target h => hstep₁ _ fun acts => by rw [doInvoke_state]; exact hsteps.trans h⟩
  · exact Or.inr ⟨q, vm₁, B, X₁.warmed, X', hpost, hstep₁ _ fun acts => by rw [doInvoke_state]; exact hsteps⟩
theorem vx_callS (X : Stand p l e R s m args below meth c T locs cells slots) (hexec : p.tables.exec = Jvm.exec) {own : String} {index : Nat} {y : MethodName} {bytes : ByteArray} {maxL : Nat} {ret : Option FieldType}
    (hown : s.vm.findClass own = some m.cls) (hlink : (Cond.methodLink own index y).before args s = true) (hstat : (Cond.static y).before args s = true) (hinit : (Cond.initialized y.cls).before args s = true)
    (hcode : (Cond.code y bytes maxL ret).before args s = true) (hy : y.cls ≠ "java/lang/invoke/MethodHandle" ∧ y.cls ≠ "java/lang/invoke/VarHandle")
    {W9 : Nat} {Pre : Pt → Array Value → Prop} {Post : Pt → Array Value → Option Value → Pt → Prop} {PostX : Pt → Array Value → Addr → Pt → Prop} (hK : vx_Back l R p e below s args y 3 W9 Pre Post PostX)
    {g : JFrame} (hg : g.method = m) (hsize : g.locals.size = c.maxLocals) {argsL rest : List Value} (hlen : ∀ sig, parseMethodDescriptor y.desc = some sig → argsL.length = sig.parameters.length)
    (hstack : g.stack = argsL.reverse ++ rest) (hW : 2 * g.monitorRoom + (rest.map fun v => v.category).sum ≤ W9) (hdg : decode c.code g.pc = .ok (.invokestatic index, 3))
    (hpre : ∀ vm₁, s.WarmedH vm₁ → Pre ⟨T.setVm vm₁, locs, cells, slots⟩ argsL.toArray) :
    (∃ (v : Option Value) (vm₁ : Vm) (B : Pt), s.WarmedH vm₁ ∧ Stand p l e R s m args below meth c B.U B.locs B.cells B.slots ∧ Post ⟨T.setVm vm₁, locs, cells, slots⟩ argsL.toArray v B ∧
      ∀ target, Steps p.tables e below (B.U.setTop { g with pc := g.pc + 3, stack := v.toList ++ rest }) target → Steps p.tables e below (T.setTop g) target) ∨
    (∃ (q : Addr) (vm₁ : Vm) (B : Pt), s.WarmedH vm₁ ∧ Stand p l e R s m args below meth c B.U B.locs B.cells B.slots ∧ PostX ⟨T.setVm vm₁, locs, cells, slots⟩ argsL.toArray q B ∧
      Steps p.tables e below (T.setTop g) ((B.U.setTop { g with stack := rest }).pushFrame (.throwing q))) := by
  obtain ⟨mk, hnamed⟩ := Cond.code_named hcode
  obtain ⟨methM, cM, hmethM, -, -, -, -, -, -, hsigM⟩ := Cond.code_spec hnamed hcode
  have hstatic : methM.isStatic = true := Cond.static_spec hnamed hmethM hstat
  obtain ⟨kP, hkP, -⟩ := className_of_methodNamed hnamed
  have hinitP : kP.init = .initialized := Cond.initialized_spec (findClass_of_methodNamed hnamed) hkP hinit
  obtain ⟨vm₁, X₁, hstep₁⟩ := X.invokestatic hexec hown hlink hnamed hmethM hstatic hkP hinitP hy (g := g) hg (argsL := argsL) (rest := rest) (hlen _ hsigM) hstack hdg
  rcases hK m meth c ⟨T.setVm vm₁, locs, cells, slots⟩ { g with stack := rest } (.invokestatic index) mk argsL.toArray X₁ hg hsize hdg hW (X₁.named hnamed) (hpre vm₁ X₁.warmed) with ⟨v, B, X', hpost, hsteps⟩ | ⟨q, B, X', hpost, hsteps⟩
  · exact Or.inl ⟨v, vm₁, B, X₁.warmed, X', hpost, fun target h => hstep₁ _ fun acts => by rw [doInvoke_state]; exact hsteps.trans h⟩
  · exact Or.inr ⟨q, vm₁, B, X₁.warmed, X', hpost, hstep₁ _ fun acts => by rw [doInvoke_state]; exact hsteps⟩
end Calls
theorem vx_cls {s : State} {T : State} {vm₁ : Vm} {E : String} {k : ClassId} (hW : s.WarmedH vm₁) (h : (T.setVm vm₁).vm.findClass E = some k) : s.vm.findClass E = some k := by
  have h1 : vm₁.findClass E = some k := h
  rw [hW.alike.findClass] at h1
  exact h1
/-- the method's frame g, with q thrown over it -/
def vx_W (p : Program) (l : Launch) (e : Env) (R : Room) (s : State) (m : MethodId) (args : Array Value) (below : List Frame) (meth : Method) (c : Code) (H : Heap) (locs : List Loc) (cells slots : Nat) (Q : State → Prop) (g : JFrame) (q : Addr) : Prop :=
  ∀ T : State, T.heap = H → Stand p l e R s m args below meth c T locs cells slots → ∃ t, Steps p.tables e below ((T.setTop g).pushFrame (.throwing q)) t ∧ Q t
def vx_Run (p : Program) (l : Launch) (e : Env) (R : Room) (s : State) (m : MethodId) (args : Array Value) (below : List Frame) (meth : Method) (c : Code) (H : Heap) (locs : List Loc) (cells slots mc ms : Nat) (g : JFrame) (rest : List Value) (Qa : State → Outcome → State → Prop) (XC : String → State → State → Prop) (free : Addr → Prop) : Prop :=
  ∀ T : State, T.heap = H → Stand p l e R s m args below meth c T locs cells slots →
    (∃ (v : Option Value) (st₀ t T' : State) (L : List Loc), st₀.heap = H ∧ Stand p l e R s m args below meth c T' (locs ++ L) (cells + mc) (slots + ms) ∧ (∀ q ∈ L, free q.base) ∧ T'.heap = t.heap ∧ T'.vm = t.vm ∧ Qa st₀ (.returned v) t ∧
      Goes p e below T g T' { g with pc := g.pc + 3, stack := v.toList ++ rest }) ∨
    (∃ (q : Addr) (st₀ t T' : State) (L : List Loc) (E : String) (ce : Cell), st₀.heap = H ∧ Stand p l e R s m args below meth c T' (locs ++ L) (cells + mc) (slots + ms) ∧ (∀ z ∈ L, free z.base) ∧ T'.heap = t.heap ∧ T'.vm = t.vm ∧ XC E st₀ t ∧ t.heap[q]? = some ce ∧ ce.vm = .none ∧ s.vm.findClass E = some ce.cls ∧
      Steps p.tables e below (T.setTop g) ((T'.setTop { g with stack := rest }).pushFrame (.throwing q)))
def vx_X {S : Type} (px : S → Prop) (B : String → S → State → Prop) (A : Nat → Prop) : String → State → State → Prop := fun E st t => ∃ u : S, px u ∧ B E u t ∧ va_F A st t
section Runs
variable {p : Program} {l : Launch} {e : Env} {R : Room} {s : State} {m : MethodId} {args : Array Value} {below : List Frame} {meth : Method} {c : Code} {H : Heap} {locs : List Loc} {cells slots : Nat}
variable {y : MethodName} {bytes cc : ByteArray} {maxL nL mc ms n index : Nat} {ret : Option FieldType} {ws : List Cond} {rm : Room} {Pc : Array Value → State → Prop} {Qc : Array Value → State → Outcome → State → Prop} {XC : String → State → State → Prop} {free : Addr → Prop} {Ts : List Cond} {own C : String} {b : Addr} {As rest : List Value} {g : JFrame}
theorem vx_callBack (cb : CallB R s args own index y bytes maxL ret ws rm mc ms n) (hM : vx_Met l y ws rm Pc Qc XC mc ms free) (hbl : FrameBlind Pc) : vx_Back l R p e below s args y 3 8 (PreOf R mc ms Pc) (PostOf Qc mc ms free) (vx_Post XC mc ms free) := by
  obtain ⟨hrc, hrs, hfr, hlo, hws, hcw, -, hini, -⟩ := cb
  exact vx_back (bytes := bytes) (maxL := maxL) (ret := ret) hM hbl hrc hrs hfr hlo hws hcw (fun a' U hW => word_at hW (Or.inl (by first | rfl | simp [Cond.onTables, Cond.keeps, Cond.steady])) hini)
theorem vx_runV (S : CallFix p m c cc nL s args Ts own) (hM : vx_Met l y ws rm Pc Qc XC mc ms free) (cw : CallW R s args own C index y bytes maxL ret ws rm mc ms n) (hp : PreV s H C b Pc As)
    (hg : g.method = m) (hn : As.length = n) (hsize : g.locals.size = nL) (hstack : g.stack = As.reverse ++ .ref b :: rest) (hW : 2 * g.monitorRoom + (rest.map fun v => v.category).sum ≤ 8) (hdg : decode cc g.pc = .ok (.invokevirtual index, 3)) (hf : cells + mc ≤ R.cells ∧ slots + ms ≤ R.slots) :
    vx_Run p l e R s m args below meth c H locs cells slots mc ms g rest (Qc (Value.ref b :: As).toArray) XC free := by
  have hK : vx_Back l R p e below s args y 3 8 (PreOf R mc ms Pc) (PostOf Qc mc ms free) (vx_Post XC mc ms free) := vx_callBack cw.1 hM hp.1
  obtain ⟨⟨-, -, -, -, -, -, hcode, -, hy, hlen, hl⟩, hin, hse⟩ := cw
  obtain ⟨hx, hb, hml, ho, -⟩ := S
  obtain ⟨-, ⟨cellB, hcB, hoB, hclB⟩, hPc⟩ := hp
  intro T hT X
  rcases vx_callV X hx (C := C) (bytes := bytes) (maxL := maxL) (ret := ret) ho hl hin hse hcode hy hK (by rw [hT]; exact hcB) hoB hclB hg (hsize.trans hml.symm) (argsL := As) (rest := rest) (fun sig h => hn.trans (hlen sig h)) hstack hW (by rw [hb]; exact hdg)
    (fun vm₁ hW₁ => ⟨hf.1, hf.2, hPc (T.setVm vm₁) hT hW₁⟩) with ⟨v, vm₁, ⟨U', l2, c2, s2⟩, hW₁, X', ⟨g', mk, t, L, e1, e2, hq, h1, hL, h2, h3⟩, st⟩ | ⟨q, vm₁, ⟨U', l2, c2, s2⟩, hW₁, X', ⟨g', mk, t, L, E, ce, e1, e2, hq, hce, hcv, hcl, h1, hL, h2, h3⟩, st⟩
  · dsimp only [Pt.U, Pt.locs, Pt.cells, Pt.slots] at X' e1 e2 h1 h2 h3 st
    subst h1; subst h2; subst h3
    exact Or.inl ⟨v, (T.setVm vm₁).calling g' mk (Value.ref b :: As).toArray, t, U', L, hT, X', hL, e1, e2, hq, st⟩
  · dsimp only [Pt.U, Pt.locs, Pt.cells, Pt.slots] at X' e1 e2 h1 h2 h3 st hcl
    subst h1; subst h2; subst h3
    exact Or.inr ⟨q, (T.setVm vm₁).calling g' mk (Value.ref b :: As).toArray, t, U', L, E, ce, hT, X', hL, e1, e2, hq, hce, hcv, vx_cls hW₁ hcl, st⟩
theorem vx_runS (S : CallFix p m c cc nL s args Ts own) (hM : vx_Met l y ws rm Pc Qc XC mc ms free) (cw : CallB R s args own index y bytes maxL ret ws rm mc ms n ∧ (Cond.static y).before args s = true) (hp : PreS s H Pc As)
    (hg : g.method = m) (hn : As.length = n) (hsize : g.locals.size = nL) (hstack : g.stack = As.reverse ++ rest) (hW : 2 * g.monitorRoom + (rest.map fun v => v.category).sum ≤ 8) (hdg : decode cc g.pc = .ok (.invokestatic index, 3)) (hf : cells + mc ≤ R.cells ∧ slots + ms ≤ R.slots) :
    vx_Run p l e R s m args below meth c H locs cells slots mc ms g rest (Qc As.toArray) XC free := by
  have hK : vx_Back l R p e below s args y 3 8 (PreOf R mc ms Pc) (PostOf Qc mc ms free) (vx_Post XC mc ms free) := vx_callBack cw.1 hM hp.1
  obtain ⟨⟨-, -, -, -, -, -, hcode, hini, hy, hlen, hl⟩, hstt⟩ := cw
  obtain ⟨hx, hb, hml, ho, -⟩ := S
  intro T hT X
  rcases vx_callS X hx (bytes := bytes) (maxL := maxL) (ret := ret) ho hl hstt hini hcode hy hK hg (hsize.trans hml.symm) (argsL := As) (rest := rest) (fun sig h => hn.trans (hlen sig h)) hstack hW (by rw [hb]; exact hdg)
    (fun vm₁ hW₁ => ⟨hf.1, hf.2, hp.2 (T.setVm vm₁) hT hW₁⟩) with ⟨v, vm₁, ⟨U', l2, c2, s2⟩, hW₁, X', ⟨g', mk, t, L, e1, e2, hq, h1, hL, h2, h3⟩, st⟩ | ⟨q, vm₁, ⟨U', l2, c2, s2⟩, hW₁, X', ⟨g', mk, t, L, E, ce, e1, e2, hq, hce, hcv, hcl, h1, hL, h2, h3⟩, st⟩
  · dsimp only [Pt.U, Pt.locs, Pt.cells, Pt.slots] at X' e1 e2 h1 h2 h3 st
    subst h1; subst h2; subst h3
    exact Or.inl ⟨v, (T.setVm vm₁).calling g' mk As.toArray, t, U', L, hT, X', hL, e1, e2, hq, st⟩
  · dsimp only [Pt.U, Pt.locs, Pt.cells, Pt.slots] at X' e1 e2 h1 h2 h3 st hcl
    subst h1; subst h2; subst h3
    exact Or.inr ⟨q, (T.setVm vm₁).calling g' mk As.toArray, t, U', L, E, ce, hT, X', hL, e1, e2, hq, hce, hcv, vx_cls hW₁ hcl, st⟩
end Runs
section Rows
variable {p : Program} {l : Launch} {e : Env} {R : Room} {s : State} {m : MethodId} {args : Array Value} {below : List Frame} {meth : Method} {c : Code} {H : Heap} {locs : List Loc} {cells slots : Nat} {Q : State → Prop}
variable {mc ms : Nat} {free : Addr → Prop} {A0 A1 : Nat → Prop} {H0 : Heap} {a : Array Value} {pc : Nat} {ls : Array Slot} {st0 rest : List Value}
theorem vx_keep {st₀ t T' : State} {L : List Loc} (h0 : st₀.heap = H) (e1 : T'.heap = t.heap) (hS : va_S A0 H0 H locs) (hA : ∀ q, q < H.size → A1 q → A0 q) (hf : ∀ q, free q → A0 q) (hL : ∀ q ∈ L, free q.base) (hF : va_F A1 st₀ t) :
    H.size ≤ T'.heap.size ∧ (∀ q : Nat, q < H.size → ¬ A1 q → T'.heap[q]? = H[q]?) ∧ va_S A0 H0 T'.heap (locs ++ L) := by
  obtain ⟨hz, hk⟩ := hF
  rw [h0] at hz hk
  exact ⟨by rw [e1]; exact hz, fun q h1 h2 => by rw [e1]; exact hk q h1 h2,
    ⟨Nat.le_trans hS.1 (by rw [e1]; exact hz), fun q h1 h2 => by rw [e1, hk q (Nat.lt_of_lt_of_le h1 hS.1) (fun z => h2 (hA q (Nat.lt_of_lt_of_le h1 hS.1) z))]; exact hS.2.1 q h1 h2, fun q hq => by
      rcases List.mem_append.mp hq with h | h
      · exact hS.2.2 q h
      · exact hf _ (hL q h)⟩⟩
theorem vx_calli {S SX : Type} {post : Int32 → S → Prop} {px : SX → Prop} {B : S → State → Prop} {BX : String → SX → State → Prop} {AX : Nat → Prop} (hr : vx_Run p l e R s m args below meth c H locs cells slots mc ms (F0 m pc ls st0) rest (va_Qi post B A1 a) (vx_X px BX AX) free) (hS : va_S A0 H0 H locs) (hA : ∀ q, q < H.size → A1 q → A0 q) (hf : ∀ q, free q → A0 q) (hAX : ∀ q, q < H.size → AX q → A0 q)
    (kx : ∀ (E : String) (ce : Cell) (q9 : Addr) (u : SX) (t : State) (H1 : Heap) (locs1 : List Loc), t.heap = H1 → s.vm.Alike t.vm → px u → BX E u t → H.size ≤ H1.size → (∀ q : Nat, q < H.size → ¬ AX q → H1[q]? = H[q]?) → va_S A0 H0 H1 locs1 → H1[q9]? = some ce → ce.vm = .none → s.vm.findClass E = some ce.cls → vx_W p l e R s m args below meth c H1 locs1 (cells + mc) (slots + ms) Q (F0 m pc ls rest) q9)
    (kk : ∀ (r : Int32) (u : S) (t : State) (H1 : Heap) (locs1 : List Loc), t.heap = H1 → s.vm.Alike t.vm → post r u → B u t → H.size ≤ H1.size → (∀ q : Nat, q < H.size → ¬ A1 q → H1[q]? = H[q]?) → va_S A0 H0 H1 locs1 → W p l e R s m args below meth c H1 locs1 (cells + mc) (slots + ms) Q (F0 m (pc + 3) ls (.int r :: rest))) : W p l e R s m args below meth c H locs cells slots Q (F0 m pc ls st0) := by
  intro T hT X
  rcases hr T hT X with ⟨v, st₀, t, T', L, h0, X', hL, e1, e2, ⟨⟨r, u, hv, hp, hb⟩, hF⟩, st⟩ | ⟨q, st₀, t, T', L, E, ce, h0, X', hL, e1, e2, ⟨u, hp, hb, hF⟩, hce, hcv, hcl, st⟩
  · cases hv
    obtain ⟨k1, k2, k3⟩ := vx_keep h0 e1 hS hA hf hL hF
    obtain ⟨t2, a1, b1⟩ := kk r u t T'.heap (locs ++ L) e1.symm (by rw [← e2]; exact X'.warmed.alike) hp hb k1 k2 k3 T' rfl X'
    exact ⟨t2, st t2 a1, b1⟩
  · obtain ⟨k1, k2, k3⟩ := vx_keep h0 e1 hS hAX hf hL hF
    obtain ⟨t2, a1, b1⟩ := kx E ce q u t T'.heap (locs ++ L) e1.symm (by rw [← e2]; exact X'.warmed.alike) hp hb k1 k2 k3 (by rw [e1]; exact hce) hcv hcl T' rfl X'
    exact ⟨t2, st.trans a1, b1⟩
theorem vx_calll {S SX : Type} {post : Int64 → S → Prop} {px : SX → Prop} {B : S → State → Prop} {BX : String → SX → State → Prop} {AX : Nat → Prop} (hr : vx_Run p l e R s m args below meth c H locs cells slots mc ms (F0 m pc ls st0) rest (va_Ql post B A1 a) (vx_X px BX AX) free) (hS : va_S A0 H0 H locs) (hA : ∀ q, q < H.size → A1 q → A0 q) (hf : ∀ q, free q → A0 q) (hAX : ∀ q, q < H.size → AX q → A0 q)
    (kx : ∀ (E : String) (ce : Cell) (q9 : Addr) (u : SX) (t : State) (H1 : Heap) (locs1 : List Loc), t.heap = H1 → s.vm.Alike t.vm → px u → BX E u t → H.size ≤ H1.size → (∀ q : Nat, q < H.size → ¬ AX q → H1[q]? = H[q]?) → va_S A0 H0 H1 locs1 → H1[q9]? = some ce → ce.vm = .none → s.vm.findClass E = some ce.cls → vx_W p l e R s m args below meth c H1 locs1 (cells + mc) (slots + ms) Q (F0 m pc ls rest) q9)
    (kk : ∀ (r : Int64) (u : S) (t : State) (H1 : Heap) (locs1 : List Loc), t.heap = H1 → s.vm.Alike t.vm → post r u → B u t → H.size ≤ H1.size → (∀ q : Nat, q < H.size → ¬ A1 q → H1[q]? = H[q]?) → va_S A0 H0 H1 locs1 → W p l e R s m args below meth c H1 locs1 (cells + mc) (slots + ms) Q (F0 m (pc + 3) ls (.long r :: rest))) : W p l e R s m args below meth c H locs cells slots Q (F0 m pc ls st0) := by
  intro T hT X
  rcases hr T hT X with ⟨v, st₀, t, T', L, h0, X', hL, e1, e2, ⟨⟨r, u, hv, hp, hb⟩, hF⟩, st⟩ | ⟨q, st₀, t, T', L, E, ce, h0, X', hL, e1, e2, ⟨u, hp, hb, hF⟩, hce, hcv, hcl, st⟩
  · cases hv
    obtain ⟨k1, k2, k3⟩ := vx_keep h0 e1 hS hA hf hL hF
    obtain ⟨t2, a1, b1⟩ := kk r u t T'.heap (locs ++ L) e1.symm (by rw [← e2]; exact X'.warmed.alike) hp hb k1 k2 k3 T' rfl X'
    exact ⟨t2, st t2 a1, b1⟩
  · obtain ⟨k1, k2, k3⟩ := vx_keep h0 e1 hS hAX hf hL hF
    obtain ⟨t2, a1, b1⟩ := kx E ce q u t T'.heap (locs ++ L) e1.symm (by rw [← e2]; exact X'.warmed.alike) hp hb k1 k2 k3 (by rw [e1]; exact hce) hcv hcl T' rfl X'
    exact ⟨t2, st.trans a1, b1⟩
theorem vx_callf {S SX : Type} {post : UInt32 → S → Prop} {px : SX → Prop} {B : S → State → Prop} {BX : String → SX → State → Prop} {AX : Nat → Prop} (hr : vx_Run p l e R s m args below meth c H locs cells slots mc ms (F0 m pc ls st0) rest (va_Qf post B A1 a) (vx_X px BX AX) free) (hS : va_S A0 H0 H locs) (hA : ∀ q, q < H.size → A1 q → A0 q) (hf : ∀ q, free q → A0 q) (hAX : ∀ q, q < H.size → AX q → A0 q)
    (kx : ∀ (E : String) (ce : Cell) (q9 : Addr) (u : SX) (t : State) (H1 : Heap) (locs1 : List Loc), t.heap = H1 → s.vm.Alike t.vm → px u → BX E u t → H.size ≤ H1.size → (∀ q : Nat, q < H.size → ¬ AX q → H1[q]? = H[q]?) → va_S A0 H0 H1 locs1 → H1[q9]? = some ce → ce.vm = .none → s.vm.findClass E = some ce.cls → vx_W p l e R s m args below meth c H1 locs1 (cells + mc) (slots + ms) Q (F0 m pc ls rest) q9)
    (kk : ∀ (r : UInt32) (u : S) (t : State) (H1 : Heap) (locs1 : List Loc), t.heap = H1 → s.vm.Alike t.vm → post r u → B u t → H.size ≤ H1.size → (∀ q : Nat, q < H.size → ¬ A1 q → H1[q]? = H[q]?) → va_S A0 H0 H1 locs1 → W p l e R s m args below meth c H1 locs1 (cells + mc) (slots + ms) Q (F0 m (pc + 3) ls (.float r :: rest))) : W p l e R s m args below meth c H locs cells slots Q (F0 m pc ls st0) := by
  intro T hT X
  rcases hr T hT X with ⟨v, st₀, t, T', L, h0, X', hL, e1, e2, ⟨⟨r, u, hv, hp, hb⟩, hF⟩, st⟩ | ⟨q, st₀, t, T', L, E, ce, h0, X', hL, e1, e2, ⟨u, hp, hb, hF⟩, hce, hcv, hcl, st⟩
  · cases hv
    obtain ⟨k1, k2, k3⟩ := vx_keep h0 e1 hS hA hf hL hF
    obtain ⟨t2, a1, b1⟩ := kk r u t T'.heap (locs ++ L) e1.symm (by rw [← e2]; exact X'.warmed.alike) hp hb k1 k2 k3 T' rfl X'
    exact ⟨t2, st t2 a1, b1⟩
  · obtain ⟨k1, k2, k3⟩ := vx_keep h0 e1 hS hAX hf hL hF
    obtain ⟨t2, a1, b1⟩ := kx E ce q u t T'.heap (locs ++ L) e1.symm (by rw [← e2]; exact X'.warmed.alike) hp hb k1 k2 k3 (by rw [e1]; exact hce) hcv hcl T' rfl X'
    exact ⟨t2, st.trans a1, b1⟩
theorem vx_calld {S SX : Type} {post : UInt64 → S → Prop} {px : SX → Prop} {B : S → State → Prop} {BX : String → SX → State → Prop} {AX : Nat → Prop} (hr : vx_Run p l e R s m args below meth c H locs cells slots mc ms (F0 m pc ls st0) rest (va_Qd post B A1 a) (vx_X px BX AX) free) (hS : va_S A0 H0 H locs) (hA : ∀ q, q < H.size → A1 q → A0 q) (hf : ∀ q, free q → A0 q) (hAX : ∀ q, q < H.size → AX q → A0 q)
    (kx : ∀ (E : String) (ce : Cell) (q9 : Addr) (u : SX) (t : State) (H1 : Heap) (locs1 : List Loc), t.heap = H1 → s.vm.Alike t.vm → px u → BX E u t → H.size ≤ H1.size → (∀ q : Nat, q < H.size → ¬ AX q → H1[q]? = H[q]?) → va_S A0 H0 H1 locs1 → H1[q9]? = some ce → ce.vm = .none → s.vm.findClass E = some ce.cls → vx_W p l e R s m args below meth c H1 locs1 (cells + mc) (slots + ms) Q (F0 m pc ls rest) q9)
    (kk : ∀ (r : UInt64) (u : S) (t : State) (H1 : Heap) (locs1 : List Loc), t.heap = H1 → s.vm.Alike t.vm → post r u → B u t → H.size ≤ H1.size → (∀ q : Nat, q < H.size → ¬ A1 q → H1[q]? = H[q]?) → va_S A0 H0 H1 locs1 → W p l e R s m args below meth c H1 locs1 (cells + mc) (slots + ms) Q (F0 m (pc + 3) ls (.double r :: rest))) : W p l e R s m args below meth c H locs cells slots Q (F0 m pc ls st0) := by
  intro T hT X
  rcases hr T hT X with ⟨v, st₀, t, T', L, h0, X', hL, e1, e2, ⟨⟨r, u, hv, hp, hb⟩, hF⟩, st⟩ | ⟨q, st₀, t, T', L, E, ce, h0, X', hL, e1, e2, ⟨u, hp, hb, hF⟩, hce, hcv, hcl, st⟩
  · cases hv
    obtain ⟨k1, k2, k3⟩ := vx_keep h0 e1 hS hA hf hL hF
    obtain ⟨t2, a1, b1⟩ := kk r u t T'.heap (locs ++ L) e1.symm (by rw [← e2]; exact X'.warmed.alike) hp hb k1 k2 k3 T' rfl X'
    exact ⟨t2, st t2 a1, b1⟩
  · obtain ⟨k1, k2, k3⟩ := vx_keep h0 e1 hS hAX hf hL hF
    obtain ⟨t2, a1, b1⟩ := kx E ce q u t T'.heap (locs ++ L) e1.symm (by rw [← e2]; exact X'.warmed.alike) hp hb k1 k2 k3 (by rw [e1]; exact hce) hcv hcl T' rfl X'
    exact ⟨t2, st.trans a1, b1⟩
theorem vx_callv {S SX : Type} {post : S → Prop} {px : SX → Prop} {B : S → State → Prop} {BX : String → SX → State → Prop} {AX : Nat → Prop} (hr : vx_Run p l e R s m args below meth c H locs cells slots mc ms (F0 m pc ls st0) rest (va_Qv post B A1 a) (vx_X px BX AX) free) (hS : va_S A0 H0 H locs) (hA : ∀ q, q < H.size → A1 q → A0 q) (hf : ∀ q, free q → A0 q) (hAX : ∀ q, q < H.size → AX q → A0 q)
    (kx : ∀ (E : String) (ce : Cell) (q9 : Addr) (u : SX) (t : State) (H1 : Heap) (locs1 : List Loc), t.heap = H1 → s.vm.Alike t.vm → px u → BX E u t → H.size ≤ H1.size → (∀ q : Nat, q < H.size → ¬ AX q → H1[q]? = H[q]?) → va_S A0 H0 H1 locs1 → H1[q9]? = some ce → ce.vm = .none → s.vm.findClass E = some ce.cls → vx_W p l e R s m args below meth c H1 locs1 (cells + mc) (slots + ms) Q (F0 m pc ls rest) q9)
    (kk : ∀ (u : S) (t : State) (H1 : Heap) (locs1 : List Loc), t.heap = H1 → s.vm.Alike t.vm → post u → B u t → H.size ≤ H1.size → (∀ q : Nat, q < H.size → ¬ A1 q → H1[q]? = H[q]?) → va_S A0 H0 H1 locs1 → W p l e R s m args below meth c H1 locs1 (cells + mc) (slots + ms) Q (F0 m (pc + 3) ls (rest))) : W p l e R s m args below meth c H locs cells slots Q (F0 m pc ls st0) := by
  intro T hT X
  rcases hr T hT X with ⟨v, st₀, t, T', L, h0, X', hL, e1, e2, ⟨⟨u, hv, hp, hb⟩, hF⟩, st⟩ | ⟨q, st₀, t, T', L, E, ce, h0, X', hL, e1, e2, ⟨u, hp, hb, hF⟩, hce, hcv, hcl, st⟩
  · cases hv
    obtain ⟨k1, k2, k3⟩ := vx_keep h0 e1 hS hA hf hL hF
    obtain ⟨t2, a1, b1⟩ := kk u t T'.heap (locs ++ L) e1.symm (by rw [← e2]; exact X'.warmed.alike) hp hb k1 k2 k3 T' rfl X'
    exact ⟨t2, st t2 a1, b1⟩
  · obtain ⟨k1, k2, k3⟩ := vx_keep h0 e1 hS hAX hf hL hF
    obtain ⟨t2, a1, b1⟩ := kx E ce q u t T'.heap (locs ++ L) e1.symm (by rw [← e2]; exact X'.warmed.alike) hp hb k1 k2 k3 (by rw [e1]; exact hce) hcv hcl T' rfl X'
    exact ⟨t2, st.trans a1, b1⟩
/-- caught by the row x of this method's table; the rows ahead don't take it -/
theorem vx_catch {own name : String} {E : String} {ce : Cell} {q : Addr} (hown : s.vm.findClass own = some m.cls) (pre : List ExceptionTableEntry) (x : ExceptionTableEntry) (suf : List ExceptionTableEntry) (hsplit : c.exceptionTable.toList = pre ++ x :: suf)
    (hpass : ∀ z ∈ pre, covers z pc = false ∨ (z.catchType ≠ 0 ∧ ∃ nm : String, (Cond.classLink own z.catchType nm).before args s = true ∧ va_Nc E nm s)) (hx : covers x pc = true) (h0 : x.catchType ≠ 0)
    (hlink : (Cond.classLink own x.catchType name).before args s = true) (hcast : (Cond.castable E name).before args s = true) (hcell : H[q]? = some ce) (hv : ce.vm = .none) (hcl : s.vm.findClass E = some ce.cls)
    (kk : W p l e R s m args below meth c H locs cells slots Q (F0 m x.handlerPc ls [.ref q])) : vx_W p l e R s m args below meth c H locs cells slots Q (F0 m pc ls rest) q := by
  intro T hT X
  have hpl : e.platform.magicAccessors = ({} : Platform).magicAccessors := by rw [X.admits.platform]
  obtain ⟨c3, c4, hc3, hc4, hasg⟩ := Cond.castable_spec hcast
  cases Option.some.inj (hc3.symm.trans hcl)
  obtain ⟨c5, hc5, hcl5⟩ := Cond.classLink_spec hown hlink e.platform hpl
  cases Option.some.inj (hc4.symm.trans hc5)
  obtain ⟨vm', X', st⟩ := X.thenCaughtThrough q (g := F0 m pc ls rest) rfl (Steps.refl _) (by rw [hT]; exact hcell) (by rw [hv]; rfl) (by obtain ⟨k9, h9, -⟩ := Vm.findClass_spec hcl; exact ⟨k9, h9⟩) pre x suf hsplit
    (fun z hz => by
      rcases hpass z hz with h | ⟨hz0, nm, hl1, hn1⟩
      · exact Or.inl h
      · obtain ⟨c6, hc6, hcl6⟩ := Cond.classLink_spec hown hl1 e.platform hpl
        obtain ⟨a8, b8, h1, h2, h3⟩ := hn1
        cases Option.some.inj (h1.symm.trans hcl)
        cases Option.some.inj (h2.symm.trans hc6)
        exact Or.inr ⟨hz0, _, hcl6, h3⟩) hx (Or.inr ⟨h0, c4, hcl5, hasg⟩)
  obtain ⟨t, a1, b1⟩ := kk (T.setVm vm') hT X'
  exact ⟨t, st.trans a1, b1⟩
end Rows
section Ends
variable {p : Program} {l : Launch} {e : Env} {R : Room} {s : State} {m : MethodId} {args : Array Value} {below : List Frame} {meth : Method} {c : Code} {H : Heap} {locs : List Loc} {cells slots : Nat} {Q : State → Prop}
variable {mc ms : Nat} {free : Addr → Prop} {A0 A1 : Nat → Prop} {H0 : Heap} {a : Array Value} {ls : Array Slot} {st0 rest : List Value}
variable {Qc : Array Value → State → Outcome → State → Prop} {XC : String → State → State → Prop}
/-- what a body that may throw owes at its end -/
def vx_MQ (below : List Frame) (Qc : Array Value → State → Outcome → State → Prop) (XC : String → State → State → Prop) (a : Array Value) (s : State) (mc ms : Nat) (free : Addr → Prop) : State → Prop := fun t =>
  ∃ o, t.status = .running ∧ Ended t below o ∧ vx_Q Qc XC mc ms free a s o t
theorem vx_ret {g : JFrame} {mc ms : Nat} (k : W p l e R s m args below meth c H locs cells slots (MQ below Qc args s mc ms free) g) : W p l e R s m args below meth c H locs cells slots (vx_MQ below Qc XC args s mc ms free) g := by
  intro T hT X
  obtain ⟨t, a1, o, b1, b2, b3, b4⟩ := k T hT X
  exact ⟨t, a1, o, b1, b2, Or.inl ⟨b3, b4⟩⟩
/-- not caught here: it goes on to the caller -/
theorem vx_widen {g : JFrame} {q : Addr} {k n : Nat} (h1 : cells ≤ k) (h2 : slots ≤ n) (kk : vx_W p l e R s m args below meth c H locs k n Q g q) : vx_W p l e R s m args below meth c H locs cells slots Q g q := fun T hT X => kk T hT (stand_widen X h1 h2)
theorem vx_out {pc : Nat} {E : String} {ce : Cell} {q : Addr} {mc ms : Nat} (hout : ∀ x ∈ c.exceptionTable.toList, covers x pc = false) (hlocks : meth.locks = false) (hcell : H[q]? = some ce) (hv : ce.vm = .none) (hcl : s.vm.findClass E = some ce.cls)
    (hx : ∀ t : State, t.heap = H → s.vm.Alike t.vm → XC E s t) (hf : ∀ z ∈ locs, free z.base) (hc : cells ≤ mc) (hs : slots ≤ ms) :
    vx_W p l e R s m args below meth c H locs cells slots (vx_MQ below Qc XC args s mc ms free) (F0 m pc ls rest) q := by
  intro T hT X
  obtain ⟨st1, hrun, hend, hW, hsm⟩ := X.leaveThrown q (g := F0 m pc ls rest) rfl rfl rfl hout hlocks
  have hcell9 : (T.setFrames (.throwing q :: below)).heap[q]? = some ce := by
    show T.heap[q]? = some ce
    rw [hT]; exact hcell
  exact ⟨_, st1, .threw q, hrun, hend, Or.inr ⟨q, rfl, E, ce, locs, hx _ hT hW.alike, hcell9, hv, hcl, hW, hsm.mono hc hs, hf⟩⟩
theorem vx_frame {U : State} {k n : Nat} (h : s.sameButNew ({ U with vm := s.vm } : State) locs k n) : s.heap.size ≤ U.heap.size ∧ ∀ q : Nat, q < s.heap.size → (∀ z ∈ locs, z.base ≠ q) → U.heap[q]? = s.heap[q]? := by
  obtain ⟨-, h2, -, -, -, h6⟩ := h
  refine ⟨h2, fun q hq hz => ?_⟩
  obtain ⟨c9, e1, e2, e3, e4⟩ := h6 q _ (Array.getElem?_eq_getElem hq)
  have hs : c9.slots = (s.heap[q]).slots := Array.ext_getElem? fun i => e4 i fun hm => hz _ hm rfl
  have h9 : c9 = s.heap[q] := by
    rw [hs] at e2
    exact e2
  have e5 : U.heap[q]? = some c9 := e1
  rw [e5, h9, Array.getElem?_eq_getElem hq]
/-- the words of a throw but the four that speak of the heap -/
def vx_no (w : Cond) : Bool := decide (w ≠ .isRef (.static Bundle.tN "UNASSIGNED_STACK" Bundle.steD)) && decide (w ≠ .isRef (.static Bundle.tN "SUPPRESSED_SENTINEL" Bundle.listD)) && decide (w ≠ .laysStatic Bundle.tN "UNASSIGNED_STACK" Bundle.steD) && decide (w ≠ .laysStatic Bundle.tN "SUPPRESSED_SENTINEL" Bundle.listD)
def vx_at0 (own : String) (ic : Nat) (X : String) (names : List String) : List Cond := (Bundle.ownAtoms0 own ic X names).filter vx_no
def vx_atS (own : String) (ic : Nat) (X : String) (names : List String) : List Cond := (Bundle.ownAtoms own ic X names).filter vx_no
/-- a word that the tables alone decide, or a good one -/
def vx_ot (w : Cond) : Bool := w.onTables || goodWord w
theorem vx_ot_at {args a' : Array Value} {s U : State} {w : Cond} (hW : s.WarmedH U.vm) (hvm : s.vm = U.vm) (hg : vx_ot w = true) (h : w.before args s = true) : w.before a' U = true := by
  simp only [vx_ot, Bool.or_eq_true] at hg
  rcases hg with hg | hg
  · exact va_tabs hg hvm h
  · exact word_at hW (good_of_word hg) h
/-- a list's words: the good ones out of the method's own list, the others by premises of their own -/
theorem vx_hat {args : Array Value} {s : State} {L B : List Cond} (h1 : ∀ w ∈ L.filter goodWord, w.before args s = true) (h2 : ∀ w ∈ L.filter (fun w => !goodWord w), w ∈ B) (h3 : ∀ w ∈ B, w.before args s = true) : ∀ w ∈ L, w.before args s = true := by
  intro w hw
  by_cases g : goodWord w = true
  · exact h1 w (List.mem_filter.mpr ⟨hw, g⟩)
  · refine h3 w (h2 w (List.mem_filter.mpr ⟨hw, ?_⟩))
    show (!goodWord w) = true
    cases hgw : goodWord w
    · rfl
    · exact absurd hgw g
theorem vx_c {args : Array Value} {s : State} {w : Cond} {B : List Cond} (h : w.before args s = true) (t : ∀ w ∈ B, w.before args s = true) : ∀ w' ∈ w :: B, w'.before args s = true := fun w' h' => (List.mem_cons.mp h').elim (fun e => by rw [e]; exact h) (t w')
theorem vx_n {args : Array Value} {s : State} : ∀ w ∈ ([] : List Cond), w.before args s = true := fun _ h => nomatch h
theorem vx_own {args : Array Value} {s : State} {L : List Cond} (h1 : ∀ w ∈ L.filter vx_no, w.before args s = true)
    (hU : (Cond.isRef (.static Bundle.tN "UNASSIGNED_STACK" Bundle.steD)).before args s = true) (hN : (Cond.isRef (.static Bundle.tN "SUPPRESSED_SENTINEL" Bundle.listD)).before args s = true)
    (lU : (Cond.laysStatic Bundle.tN "UNASSIGNED_STACK" Bundle.steD).before args s = true) (lN : (Cond.laysStatic Bundle.tN "SUPPRESSED_SENTINEL" Bundle.listD).before args s = true) : ∀ w ∈ L, w.before args s = true := by
  intro w hw
  by_cases e1 : w = .isRef (.static Bundle.tN "UNASSIGNED_STACK" Bundle.steD)
  · rw [e1]; exact hU
  · by_cases e2 : w = .isRef (.static Bundle.tN "SUPPRESSED_SENTINEL" Bundle.listD)
    · rw [e2]; exact hN
    · by_cases e3 : w = .laysStatic Bundle.tN "UNASSIGNED_STACK" Bundle.steD
      · rw [e3]; exact lU
      · by_cases e4 : w = .laysStatic Bundle.tN "SUPPRESSED_SENTINEL" Bundle.listD
        · rw [e4]; exact lN
        · exact h1 w (List.mem_filter.mpr ⟨hw, by unfold vx_no; rw [decide_eq_true e1, decide_eq_true e2, decide_eq_true e3, decide_eq_true e4]; rfl⟩)
/-- where a static field lies, its class's statics cell in H -/
def vx_L (C n d : String) (A : Nat → Prop) (U : State) (H : Heap) : Prop := ∃ (c : ClassId) (k : Class) (i : Nat) (f : Field) (a : Nat) (cell : Cell), U.vm.findClass C = some c ∧ U.fieldFound? C n d = some (c, k, i, f) ∧ f.isStatic = true ∧ k.statics = some a ∧ H[a]? = some cell ∧ cell.vm.isStatics = true ∧ cell.cls = c ∧ f.slot < cell.slots.size ∧ k.staticTypes[f.slot]? = some f.type ∧ ¬ A a
theorem vx_L.moved {C n d : String} {A : Nat → Prop} {u U : State} {H : Heap} (hvm : u.vm.Alike U.vm) (h : vx_L C n d A u H) : vx_L C n d A U H := by
  obtain ⟨c, k, i, f, a, cell, h1, h2, h3, h4, h5, h6, h7, h8, h9, h10⟩ := h
  obtain ⟨k', hi', he⟩ := State.fieldFound?_setVm hvm h2
  exact ⟨c, k', i, f, a, cell, by rw [hvm.findClass]; exact h1, hi', h3, by rw [he]; exact h4, h5, h6, h7, h8, by rw [he]; exact h9, h10⟩
theorem vx_L.kept {C n d : String} {A : Nat → Prop} {U : State} {H H1 : Heap} (h : vx_L C n d A U H) (hq : ∀ a : Nat, a < H.size → ¬ A a → H1[a]? = H[a]?) : vx_L C n d A U H1 := by
  obtain ⟨c, k, i, f, a, cell, h1, h2, h3, h4, h5, h6, h7, h8, h9, h10⟩ := h
  exact ⟨c, k, i, f, a, cell, h1, h2, h3, h4, by rw [hq a (Array.getElem?_eq_some_iff.mp h5).1 h10]; exact h5, h6, h7, h8, h9, h10⟩
theorem vx_L.narrow {C n d : String} {A B : Nat → Prop} {U : State} {H : Heap} (h : vx_L C n d A U H) (hAB : ∀ q, B q → A q) : vx_L C n d B U H := by
  obtain ⟨c, k, i, f, a, cell, h1, h2, h3, h4, h5, h6, h7, h8, h9, h10⟩ := h
  exact ⟨c, k, i, f, a, cell, h1, h2, h3, h4, h5, h6, h7, h8, h9, fun z => h10 (hAB _ z)⟩
theorem vx_L.word {C n d : String} {A : Nat → Prop} {s : State} {args : Array Value} (h : vx_L C n d A s s.heap) : (Cond.laysStatic C n d).before args s = true := by
  obtain ⟨c, k, i, f, a, cell, h1, h2, h3, h4, h5, h6, h7, h8, h9, -⟩ := h
  show (Cond.laysStatic C n d).holds args s none s [] = true
  exact Cond.laysStatic_of h1 h2 h3 h4 h5 h6 h7 h8 h9
/-- .. and what it holds: null or some reference -/
def vx_Zq (C n d : String) (A : Nat → Prop) (U : State) (H : Heap) : Prop := va_Zq C n d A U H ∧ vx_L C n d A U H
theorem vx_Zq.moved {C n d : String} {A : Nat → Prop} {u U : State} {H : Heap} (hvm : u.vm.Alike U.vm) (h : vx_Zq C n d A u H) : vx_Zq C n d A U H := ⟨va_Zq.moved hvm h.1, vx_L.moved hvm h.2⟩
theorem vx_Zq.kept {C n d : String} {A : Nat → Prop} {U : State} {H H1 : Heap} (h : vx_Zq C n d A U H) (hq : ∀ a : Nat, a < H.size → ¬ A a → H1[a]? = H[a]?) : vx_Zq C n d A U H1 := ⟨va_Zq.kept h.1 hq, vx_L.kept h.2 hq⟩
theorem vx_Zq.narrow {C n d : String} {A B : Nat → Prop} {U : State} {H : Heap} (h : vx_Zq C n d A U H) (hAB : ∀ q, B q → A q) : vx_Zq C n d B U H := ⟨va_Zq.narrow h.1 hAB, vx_L.narrow h.2 hAB⟩
theorem vx_Zqof {args : Array Value} {s : State} {C n d : String} {A : Nat → Prop} (hl : (Cond.laysStatic C n d).before args s = true) (hini : (Cond.initialized C).before args s = true) (h : (Cond.isRef (.static C n d)).before args s = true) (hA : ∀ a : Nat, a < s.heap.size → ¬ A a) : vx_Zq C n d A s s.heap := by
  refine ⟨va_Zqof hl hini h hA, ?_⟩
  obtain ⟨c, k, i, f, a, cell, h1, h2, h3, h4, h5, h6, h7, h8, h9⟩ := Cond.laysStatic_spec hl
  exact ⟨c, k, i, f, a, cell, h1, h2, h3, h4, h5, h6, h7, h8, h9, hA a (Array.getElem?_eq_some_iff.mp h5).1⟩
theorem vx_isRef {C n d : String} {v : Value} {A : Nat → Prop} {s : State} {args : Array Value} (h : va_Z C n d v A s s.heap) (hv : v.isRef = true) : (Cond.isRef (.static C n d)).before args s = true := by
  obtain ⟨cf, kf, fi, f, a, cell, h1, h2, h3, h4, h5, h6, h7, -⟩ := h
  have he : (Term.static C n d).eval args s none [] s = some v := by
    simp [Term.eval, State.fieldNamed?, h1, h2, h4, h5, h6, h7]
  simp only [Cond.before, Cond.holds, Cond.value, he]
  cases v <;> simp_all [Value.isRef]
theorem vx_isRefq {C n d : String} {A : Nat → Prop} {s : State} {args : Array Value} (h : va_Zq C n d A s s.heap) : (Cond.isRef (.static C n d)).before args s = true := by
  rcases h with h | ⟨t, h⟩
  · exact vx_isRef h rfl
  · exact vx_isRef h rfl
/-- the same frame, seen from here: as if the method were called anew in this heap -/
theorem vx_rebase {T : State} (X : Stand p l e R s m args below meth c T locs cells slots) {R' : Room} (hf : R'.frames ≤ R.frames) (hl : R'.locals ≤ R.locals) (hc : cells + R'.cells ≤ R.cells) (hs : slots + R'.slots ≤ R.slots) :
    Stand p l e R' ((T.setVm s.vm).setFrames (.invoking m args :: below)) m args below meth c T [] 0 0 := by
  have htop : (T.setVm s.vm).topJava?.isSome := X.here.top
  have hF : ((T.setVm s.vm).setFrames (.invoking m args :: below)).frames = .invoking m args :: below := State.frames_setFrames _ (State.cur_lt_of_top htop)
  obtain ⟨g₀, hg0⟩ := Option.isSome_iff_exists.mp htop
  obtain ⟨r, hr⟩ := State.topJava?_eq_some.mp hg0
  have hl9 : e.platform.stackLimits (T.setVm s.vm).me = e.platform.stackLimits s.me := X.limits
  have hb9 : (T.setVm s.vm).me.stackBytes = s.me.stackBytes := X.bytes
  refine ⟨X.admits, X.cas, X.clock, hF, ?_, X.hears, X.method, X.code, X.here, X.tail, X.warmed, ?_, ?_, ?_⟩
  · have h := X.room
    have hU : ((T.setVm s.vm).setFrames (.invoking m args :: below)).localsInUse = s.localsInUse := by
      rw [State.localsInUse_invoking hF (meth := meth) (c := c) X.method X.code, State.localsInUse_invoking X.frames X.method X.code]
    simp only [State.hasRoom, Bool.and_eq_true, decide_eq_true_eq] at h ⊢
    obtain ⟨⟨⟨⟨h1, h2, h3, h4, h5, h6⟩, h7⟩, h8⟩, h9⟩ := h
    rw [X.frames, List.length_cons] at h2 h3
    have q1 := X.heapSize
    have q2 := X.used
    simp only [hF, hU, List.length_cons, State.stackLimits_setFrames, State.stackBytes_setFrames, hl9, hb9]
    refine ⟨⟨⟨⟨by omega, by omega, by omega, by omega, by omega, h6⟩, ?_⟩, ?_⟩, X.book⟩
    · show T.heap.size + R'.cells ≤ e.platform.maxCells
      omega
    · show T.slotsUsed + R'.slots ≤ e.platform.maxSlots
      omega
  · rw [State.stackLimits_setFrames]; rfl
  · rw [State.stackBytes_setFrames]; rfl
  · refine ⟨?_, Nat.le_refl _, Nat.le_refl _, ?_, ?_, fun a c9 h9 => ⟨c9, h9, rfl, rfl, fun _ _ => rfl⟩⟩
    · obtain ⟨t, ht, -⟩ := State.frames_cons hr
      show T.setVm s.vm = { ((T.setVm s.vm).setFrames (.invoking m args :: below)).setFrames (T.setVm s.vm).frames with heap := T.heap, slotsUsed := T.slotsUsed }
      rw [State.setFrames_setFrames, State.setFrames_self ht]
      rfl
    · show T.slotsUsed = T.slotsUsed + ((T.heap.toList.drop T.heap.size).map (·.slots.size)).sum
      rw [List.drop_eq_nil_of_le (Nat.le_of_eq Array.length_toList)]
      rfl
    · show ((T.heap.toList.drop T.heap.size).map (·.slots.size)).sum ≤ 0
      rw [List.drop_eq_nil_of_le (Nat.le_of_eq Array.length_toList)]
      exact Nat.le_refl _
/-- 'throw new E()': new; dup; invokespecial; athrow -/
theorem vx_throw0 {cc : ByteArray} {pc : Nat} (hexec : p.tables.exec = Jvm.exec) (hb : c.code = cc) (hl : l.stackTraces = false) {own cls : String} {names : List String} {ik ic mc ms : Nat} {A : Nat → Prop}
    (hown : s.vm.findClass own = some m.cls) (hcls : Bundle.fit cls = true) (hnames : ∀ n ∈ names, Bundle.fit n = true)
    (hk : (Cond.classLink own ik cls).before args s = true) (hini : (Cond.initialized cls).before args s = true) (hat : ∀ w ∈ vx_at0 own ic cls names, w.before args s = true)
    (hgood : ∀ w ∈ Cond.classLink own ik cls :: Cond.initialized cls :: vx_at0 own ic cls names, vx_ot w = true)
    (hU : vx_Zq Bundle.tN "UNASSIGNED_STACK" Bundle.steD A s s.heap) (hN : vx_Zq Bundle.tN "SUPPRESSED_SENTINEL" Bundle.listD A s s.heap) (hS : va_S A s.heap H locs) (hsize : ls.size = c.maxLocals)
    (d0 : decode cc pc = .ok (.new ik, 3)) (d3 : decode cc (pc + 3) = .ok (.dup, 1)) (d4 : decode cc (pc + 4) = .ok (.invokespecial ic, 3)) (d7 : decode cc (pc + 7) = .ok (.athrow, 1))
    (hout : ∀ x ∈ c.exceptionTable.toList, covers x (pc + 7) = false)
    (hRframes : names.length + 3 < R.frames) (hRlocals : (rest.map fun v => v.category).sum + (13 * (names.length + 1) + 42) ≤ R.locals) (hRcells : cells + 1 ≤ R.cells) (hRslots : slots + 6 ≤ R.slots) (hlocks : meth.locks = false)
    (hx : ∀ t : State, s.vm.Alike t.vm → H.size ≤ t.heap.size → (∀ q : Nat, q < H.size → t.heap[q]? = H[q]?) → XC cls s t)
    (hf : ∀ z ∈ locs, free z.base) (hc : cells + 1 ≤ mc) (hs : slots + 6 ≤ ms) :
    W p l e R s m args below meth c H locs cells slots (vx_MQ below Qc XC args s mc ms free) (F0 m pc ls rest) := by
  intro T hT X
  have htr : e.platform.stackTraces = false := (show e.platform.stackTraces = l.stackTraces by rw [X.admits.platform]).trans hl
  have Y := vx_rebase X (R' := { frames := R.frames, locals := R.locals, cells := 1, slots := 6 }) (Nat.le_refl _) (Nat.le_refl _) hRcells hRslots
  obtain ⟨s', hA⟩ : ∃ z, z = (T.setVm s.vm).setFrames (.invoking m args :: below) := ⟨_, rfl⟩
  rw [← hA] at Y
  have hvm : s'.vm = s.vm := by rw [hA]; rfl
  have hhp : s'.heap = H := by rw [hA]; exact hT
  have hW0 : s.WarmedH s'.vm := by rw [hvm]; exact State.WarmedH.refl s
  have hat' : ∀ w ∈ vx_at0 own ic cls names, w.before args s' = true := fun w hw => vx_ot_at hW0 hvm.symm (hgood w (List.mem_cons_of_mem _ (List.mem_cons_of_mem _ hw))) (hat w hw)
  have hk' : (Cond.classLink own ik cls).before args s' = true := vx_ot_at hW0 hvm.symm (hgood _ List.mem_cons_self) hk
  have hini' : (Cond.initialized cls).before args s' = true := vx_ot_at hW0 hvm.symm (hgood _ (List.mem_cons_of_mem _ List.mem_cons_self)) hini
  have hU' : vx_Zq Bundle.tN "UNASSIGNED_STACK" Bundle.steD A s' s'.heap := by rw [hhp]; exact vx_Zq.moved hW0.alike (hU.kept hS.2.1)
  have hN' : vx_Zq Bundle.tN "SUPPRESSED_SENTINEL" Bundle.listD A s' s'.heap := by rw [hhp]; exact vx_Zq.moved hW0.alike (hN.kept hS.2.1)
  have h : ∀ w ∈ Bundle.ownAtoms0 own ic cls names, w.before args s' = true := vx_own hat' (vx_isRefq hU'.1) (vx_isRefq hN'.1) hU'.2.word hN'.2.word
  have hown' : s'.vm.findClass own = some m.cls := by rw [hvm]; exact hown
  have hins : (Cond.instantiable cls 6).before args s' = true := h _ (by simp [Bundle.ownAtoms0])
  obtain ⟨vm₁, cX, kX, hfX, hkX, -, -, X₁, st1⟩ := Y.newCold hexec (own := own) (C := cls) (index := ik) (n := 6) hown' hk' hins hini'
    (g := F0 m pc ls rest) rfl (by rw [hb]; exact d0) (Nat.le_refl _) (Nat.le_refl _)
  generalize hT1 : (T.setVm vm₁).pushCell { cls := cX, slots := kX.instanceTypes.map defaultValue, vm := .none } = T1 at X₁ st1
  have hcat : (Value.ref T.heap.size).category = 1 := rfl
  have hcellA : T1.heap[T.heap.size]? = some (freshCell cX kX) := by rw [← hT1]; exact State.heap_pushCell_size _ _
  have d3' : decode c.code (pc + 3) = .ok (.dup, 1) := by rw [hb]; exact d3
  obtain ⟨U, hsteps, hrun, hend, hW, hsame, ce, hce, hO⟩ := X₁.ctorThrow0 hexec htr (own := own) (cls := cls) (names := names) (ic := ic) hown' hcls hnames h (fun x hx => nomatch hx) hfX hkX hcellA (by rw [hhp, hT]; exact Nat.le_refl _)
    (g := { method := m, pc := pc + 4, locals := ls, stack := .ref T.heap.size :: .ref T.heap.size :: rest, locked := none }) rfl hsize rfl rfl (rest := rest) rfl
    (by rw [hb]; exact d4) (by rw [hb]; exact d7) hout hRframes (by simp only [List.map_cons, List.sum_cons, hcat]; omega) hlocks
  obtain ⟨f1, f2⟩ := vx_frame hsame
  rw [hhp] at f1 f2
  have hWs : s.WarmedH U.vm := State.WarmedH.trans hW0 hW
  have hcl : s.vm.findClass cls = some ce.cls := by
    have h9 := hO.cls
    rw [hvm] at h9
    exact h9
  have hall : s.sameButNew ({ U with vm := s.vm } : State) locs mc ms := by
    subst hA
    obtain ⟨e1, e2⟩ := hsame
    rw [State.setFrames_setFrames] at e1
    have h2 : (T.setVm s.vm).sameButNew ({ U with vm := s.vm } : State) [] (0 + 1) (0 + 6) := ⟨e1, e2⟩
    have h3 := X.same.trans h2
    rw [List.append_nil] at h3
    exact h3.mono hc hs
  refine ⟨U, ?_, .threw T.heap.size, hrun, hend, Or.inr ⟨T.heap.size, rfl, cls, ce, locs, hx U hWs.alike f1 (fun q hq => f2 q hq (fun z hz => nomatch hz)), hce, hO.vm, hcl, hWs, hall, hf⟩⟩
  refine st1 _ ?_
  show Steps p.tables e below (T1.setTop { method := m, pc := pc + 3, locals := ls, stack := .ref T.heap.size :: rest, locked := none }) _
  jvm_step X₁.here [X₁.here.top, hexec, d3', Value.category]
  exact hsteps
/-- 'throw new E("text")': new; dup; ldc; invokespecial; athrow -/
theorem vx_throwS {cc : ByteArray} {pc : Nat} (hexec : p.tables.exec = Jvm.exec) (hb : c.code = cc) (hl : l.stackTraces = false) {own cls text : String} {names : List String} {ik is ic mc ms sa : Nat} {A : Nat → Prop}
    (hown : s.vm.findClass own = some m.cls) (hcls : Bundle.fit cls = true) (hnames : ∀ n ∈ names, Bundle.fit n = true)
    (hk : (Cond.classLink own ik cls).before args s = true) (hini : (Cond.initialized cls).before args s = true) (hstr : vk_R own is text sa s) (hat : ∀ w ∈ vx_atS own ic cls names, w.before args s = true)
    (hgood : ∀ w ∈ Cond.classLink own ik cls :: Cond.initialized cls :: vx_atS own ic cls names, vx_ot w = true)
    (hU : vx_Zq Bundle.tN "UNASSIGNED_STACK" Bundle.steD A s s.heap) (hN : vx_Zq Bundle.tN "SUPPRESSED_SENTINEL" Bundle.listD A s s.heap) (hS : va_S A s.heap H locs) (hsize : ls.size = c.maxLocals)
    (d0 : decode cc pc = .ok (.new ik, 3)) (d3 : decode cc (pc + 3) = .ok (.dup, 1)) (d4 : decode cc (pc + 4) = .ok (.ldc is, 2)) (d6 : decode cc (pc + 6) = .ok (.invokespecial ic, 3)) (d9 : decode cc (pc + 9) = .ok (.athrow, 1))
    (hout : ∀ x ∈ c.exceptionTable.toList, covers x (pc + 9) = false)
    (hRframes : names.length + 3 < R.frames) (hRlocals : (rest.map fun v => v.category).sum + (13 * (names.length + 1) + 43) ≤ R.locals) (hRcells : cells + 1 ≤ R.cells) (hRslots : slots + 6 ≤ R.slots) (hlocks : meth.locks = false)
    (hx : ∀ t : State, s.vm.Alike t.vm → H.size ≤ t.heap.size → (∀ q : Nat, q < H.size → t.heap[q]? = H[q]?) → XC cls s t)
    (hf : ∀ z ∈ locs, free z.base) (hc : cells + 1 ≤ mc) (hs : slots + 6 ≤ ms) :
    W p l e R s m args below meth c H locs cells slots (vx_MQ below Qc XC args s mc ms free) (F0 m pc ls rest) := by
  intro T hT X
  have htr : e.platform.stackTraces = false := (show e.platform.stackTraces = l.stackTraces by rw [X.admits.platform]).trans hl
  have Y := vx_rebase X (R' := { frames := R.frames, locals := R.locals, cells := 1, slots := 6 }) (Nat.le_refl _) (Nat.le_refl _) hRcells hRslots
  obtain ⟨s', hA⟩ : ∃ z, z = (T.setVm s.vm).setFrames (.invoking m args :: below) := ⟨_, rfl⟩
  rw [← hA] at Y
  have hvm : s'.vm = s.vm := by rw [hA]; rfl
  have hhp : s'.heap = H := by rw [hA]; exact hT
  have hW0 : s.WarmedH s'.vm := by rw [hvm]; exact State.WarmedH.refl s
  have hat' : ∀ w ∈ vx_atS own ic cls names, w.before args s' = true := fun w hw => vx_ot_at hW0 hvm.symm (hgood w (List.mem_cons_of_mem _ (List.mem_cons_of_mem _ hw))) (hat w hw)
  have hk' : (Cond.classLink own ik cls).before args s' = true := vx_ot_at hW0 hvm.symm (hgood _ List.mem_cons_self) hk
  have hini' : (Cond.initialized cls).before args s' = true := vx_ot_at hW0 hvm.symm (hgood _ (List.mem_cons_of_mem _ List.mem_cons_self)) hini
  have hU' : vx_Zq Bundle.tN "UNASSIGNED_STACK" Bundle.steD A s' s'.heap := by rw [hhp]; exact vx_Zq.moved hW0.alike (hU.kept hS.2.1)
  have hN' : vx_Zq Bundle.tN "SUPPRESSED_SENTINEL" Bundle.listD A s' s'.heap := by rw [hhp]; exact vx_Zq.moved hW0.alike (hN.kept hS.2.1)
  have h : ∀ w ∈ Bundle.ownAtoms own ic cls names, w.before args s' = true := vx_own hat' (vx_isRefq hU'.1) (vx_isRefq hN'.1) hU'.2.word hN'.2.word
  have hown' : s'.vm.findClass own = some m.cls := by rw [hvm]; exact hown
  have hins : (Cond.instantiable cls 6).before args s' = true := h _ (by simp [Bundle.ownAtoms])
  obtain ⟨vm₁, cX, kX, hfX, hkX, -, -, X₁, st1⟩ := Y.newCold hexec (own := own) (C := cls) (index := ik) (n := 6) hown' hk' hins hini'
    (g := F0 m pc ls rest) rfl (by rw [hb]; exact d0) (Nat.le_refl _) (Nat.le_refl _)
  generalize hT1 : (T.setVm vm₁).pushCell { cls := cX, slots := kX.instanceTypes.map defaultValue, vm := .none } = T1 at X₁ st1
  have hcat : (Value.ref T.heap.size).category = 1 := rfl
  have hcellA : T1.heap[T.heap.size]? = some (freshCell cX kX) := by rw [← hT1]; exact State.heap_pushCell_size _ _
  have d3' : decode c.code (pc + 3) = .ok (.dup, 1) := by rw [hb]; exact d3
  have d4' : decode c.code (pc + 4) = .ok (.ldc is, 2) := by rw [hb]; exact d4
  have hstr' : vk_R own is text sa s' := vk_R.warm hW0 hstr
  obtain ⟨U, hsteps, hrun, hend, hW, hsame, ce, hce, hO⟩ := X₁.ctorThrowS hexec htr (own := own) (cls := cls) (names := names) (ic := ic) hown' hcls hnames h (fun x hx => nomatch hx) hfX hkX hcellA (by rw [hhp, hT]; exact Nat.le_refl _) (msg := .ref sa) rfl
    (g := { method := m, pc := pc + 6, locals := ls, stack := .ref sa :: .ref T.heap.size :: .ref T.heap.size :: rest, locked := none }) rfl hsize rfl rfl (rest := rest) rfl
    (by rw [hb]; exact d6) (by rw [hb]; exact d9) hout hRframes (by simp only [List.map_cons, List.sum_cons, hcat]; omega) hlocks
  obtain ⟨f1, f2⟩ := vx_frame hsame
  rw [hhp] at f1 f2
  have hWs : s.WarmedH U.vm := State.WarmedH.trans hW0 hW
  have hcl : s.vm.findClass cls = some ce.cls := by
    have h9 := hO.cls
    rw [hvm] at h9
    exact h9
  have hall : s.sameButNew ({ U with vm := s.vm } : State) locs mc ms := by
    subst hA
    obtain ⟨e1, e2⟩ := hsame
    rw [State.setFrames_setFrames] at e1
    have h2 : (T.setVm s.vm).sameButNew ({ U with vm := s.vm } : State) [] (0 + 1) (0 + 6) := ⟨e1, e2⟩
    have h3 := X.same.trans h2
    rw [List.append_nil] at h3
    exact h3.mono hc hs
  refine ⟨U, ?_, .threw T.heap.size, hrun, hend, Or.inr ⟨T.heap.size, rfl, cls, ce, locs, hx U hWs.alike f1 (fun q hq => f2 q hq (fun z hz => nomatch hz)), hce, hO.vm, hcl, hWs, hall, hf⟩⟩
  refine st1 _ ?_
  show Steps p.tables e below (T1.setTop { method := m, pc := pc + 3, locals := ls, stack := .ref T.heap.size :: rest, locked := none }) _
  jvm_step X₁.here [X₁.here.top, hexec, d3', Value.category]
  exact X₁.ldcString hexec (own := own) (text := text) (index := is) (a := sa) hown' hstr'.1 hstr'.2
    (g := { method := m, pc := pc + 4, locals := ls, stack := .ref T.heap.size :: .ref T.heap.size :: rest, locked := none }) rfl d4' _ hsteps
/-- 'throw new E("text")', the text by a wide index -/
theorem vx_throwSW {cc : ByteArray} {pc : Nat} (hexec : p.tables.exec = Jvm.exec) (hb : c.code = cc) (hl : l.stackTraces = false) {own cls text : String} {names : List String} {ik is ic mc ms sa : Nat} {A : Nat → Prop}
    (hown : s.vm.findClass own = some m.cls) (hcls : Bundle.fit cls = true) (hnames : ∀ n ∈ names, Bundle.fit n = true)
    (hk : (Cond.classLink own ik cls).before args s = true) (hini : (Cond.initialized cls).before args s = true) (hstr : vk_R own is text sa s) (hat : ∀ w ∈ vx_atS own ic cls names, w.before args s = true)
    (hgood : ∀ w ∈ Cond.classLink own ik cls :: Cond.initialized cls :: vx_atS own ic cls names, vx_ot w = true)
    (hU : vx_Zq Bundle.tN "UNASSIGNED_STACK" Bundle.steD A s s.heap) (hN : vx_Zq Bundle.tN "SUPPRESSED_SENTINEL" Bundle.listD A s s.heap) (hS : va_S A s.heap H locs) (hsize : ls.size = c.maxLocals)
    (d0 : decode cc pc = .ok (.new ik, 3)) (d3 : decode cc (pc + 3) = .ok (.dup, 1)) (d4 : decode cc (pc + 4) = .ok (.ldc_w is, 3)) (d7 : decode cc (pc + 7) = .ok (.invokespecial ic, 3)) (d10 : decode cc (pc + 10) = .ok (.athrow, 1))
    (hout : ∀ x ∈ c.exceptionTable.toList, covers x (pc + 10) = false)
    (hRframes : names.length + 3 < R.frames) (hRlocals : (rest.map fun v => v.category).sum + (13 * (names.length + 1) + 43) ≤ R.locals) (hRcells : cells + 1 ≤ R.cells) (hRslots : slots + 6 ≤ R.slots) (hlocks : meth.locks = false)
    (hx : ∀ t : State, s.vm.Alike t.vm → H.size ≤ t.heap.size → (∀ q : Nat, q < H.size → t.heap[q]? = H[q]?) → XC cls s t)
    (hf : ∀ z ∈ locs, free z.base) (hc : cells + 1 ≤ mc) (hs : slots + 6 ≤ ms) :
    W p l e R s m args below meth c H locs cells slots (vx_MQ below Qc XC args s mc ms free) (F0 m pc ls rest) := by
  intro T hT X
  have htr : e.platform.stackTraces = false := (show e.platform.stackTraces = l.stackTraces by rw [X.admits.platform]).trans hl
  have Y := vx_rebase X (R' := { frames := R.frames, locals := R.locals, cells := 1, slots := 6 }) (Nat.le_refl _) (Nat.le_refl _) hRcells hRslots
  obtain ⟨s', hA⟩ : ∃ z, z = (T.setVm s.vm).setFrames (.invoking m args :: below) := ⟨_, rfl⟩
  rw [← hA] at Y
  have hvm : s'.vm = s.vm := by rw [hA]; rfl
  have hhp : s'.heap = H := by rw [hA]; exact hT
  have hW0 : s.WarmedH s'.vm := by rw [hvm]; exact State.WarmedH.refl s
  have hat' : ∀ w ∈ vx_atS own ic cls names, w.before args s' = true := fun w hw => vx_ot_at hW0 hvm.symm (hgood w (List.mem_cons_of_mem _ (List.mem_cons_of_mem _ hw))) (hat w hw)
  have hk' : (Cond.classLink own ik cls).before args s' = true := vx_ot_at hW0 hvm.symm (hgood _ List.mem_cons_self) hk
  have hini' : (Cond.initialized cls).before args s' = true := vx_ot_at hW0 hvm.symm (hgood _ (List.mem_cons_of_mem _ List.mem_cons_self)) hini
  have hU' : vx_Zq Bundle.tN "UNASSIGNED_STACK" Bundle.steD A s' s'.heap := by rw [hhp]; exact vx_Zq.moved hW0.alike (hU.kept hS.2.1)
  have hN' : vx_Zq Bundle.tN "SUPPRESSED_SENTINEL" Bundle.listD A s' s'.heap := by rw [hhp]; exact vx_Zq.moved hW0.alike (hN.kept hS.2.1)
  have h : ∀ w ∈ Bundle.ownAtoms own ic cls names, w.before args s' = true := vx_own hat' (vx_isRefq hU'.1) (vx_isRefq hN'.1) hU'.2.word hN'.2.word
  have hown' : s'.vm.findClass own = some m.cls := by rw [hvm]; exact hown
  have hins : (Cond.instantiable cls 6).before args s' = true := h _ (by simp [Bundle.ownAtoms])
  obtain ⟨vm₁, cX, kX, hfX, hkX, -, -, X₁, st1⟩ := Y.newCold hexec (own := own) (C := cls) (index := ik) (n := 6) hown' hk' hins hini'
    (g := F0 m pc ls rest) rfl (by rw [hb]; exact d0) (Nat.le_refl _) (Nat.le_refl _)
  generalize hT1 : (T.setVm vm₁).pushCell { cls := cX, slots := kX.instanceTypes.map defaultValue, vm := .none } = T1 at X₁ st1
  have hcat : (Value.ref T.heap.size).category = 1 := rfl
  have hcellA : T1.heap[T.heap.size]? = some (freshCell cX kX) := by rw [← hT1]; exact State.heap_pushCell_size _ _
  have d3' : decode c.code (pc + 3) = .ok (.dup, 1) := by rw [hb]; exact d3
  have d4' : decode c.code (pc + 4) = .ok (.ldc_w is, 3) := by rw [hb]; exact d4
  have hstr' : vk_R own is text sa s' := vk_R.warm hW0 hstr
  obtain ⟨U, hsteps, hrun, hend, hW, hsame, ce, hce, hO⟩ := X₁.ctorThrowS hexec htr (own := own) (cls := cls) (names := names) (ic := ic) hown' hcls hnames h (fun x hx => nomatch hx) hfX hkX hcellA (by rw [hhp, hT]; exact Nat.le_refl _) (msg := .ref sa) rfl
    (g := { method := m, pc := pc + 7, locals := ls, stack := .ref sa :: .ref T.heap.size :: .ref T.heap.size :: rest, locked := none }) rfl hsize rfl rfl (rest := rest) rfl
    (by rw [hb]; exact d7) (by rw [hb]; exact d10) hout hRframes (by simp only [List.map_cons, List.sum_cons, hcat]; omega) hlocks
  obtain ⟨f1, f2⟩ := vx_frame hsame
  rw [hhp] at f1 f2
  have hWs : s.WarmedH U.vm := State.WarmedH.trans hW0 hW
  have hcl : s.vm.findClass cls = some ce.cls := by
    have h9 := hO.cls
    rw [hvm] at h9
    exact h9
  have hall : s.sameButNew ({ U with vm := s.vm } : State) locs mc ms := by
    subst hA
    obtain ⟨e1, e2⟩ := hsame
    rw [State.setFrames_setFrames] at e1
    have h2 : (T.setVm s.vm).sameButNew ({ U with vm := s.vm } : State) [] (0 + 1) (0 + 6) := ⟨e1, e2⟩
    have h3 := X.same.trans h2
    rw [List.append_nil] at h3
    exact h3.mono hc hs
  refine ⟨U, ?_, .threw T.heap.size, hrun, hend, Or.inr ⟨T.heap.size, rfl, cls, ce, locs, hx U hWs.alike f1 (fun q hq => f2 q hq (fun z hz => nomatch hz)), hce, hO.vm, hcl, hWs, hall, hf⟩⟩
  refine st1 _ ?_
  show Steps p.tables e below (T1.setTop { method := m, pc := pc + 3, locals := ls, stack := .ref T.heap.size :: rest, locked := none }) _
  jvm_step X₁.here [X₁.here.top, hexec, d3', Value.category]
  exact X₁.ldcStringW hexec (own := own) (text := text) (index := is) (a := sa) hown' hstr'.1 hstr'.2
    (g := { method := m, pc := pc + 4, locals := ls, stack := .ref T.heap.size :: .ref T.heap.size :: rest, locked := none }) rfl d4' _ hsteps
end Ends
section Bodies
variable {l : Launch}
theorem vx_ofW {y : MethodName} {ws ws' : List Cond} {rm : Room} {Pc : Array Value → State → Prop} {Qc : Array Value → State → Outcome → State → Prop} {XC : String → State → State → Prop} {mc ms : Nat} {free : Addr → Prop} {cc : ByteArray} {maxL : Nat} {ret : Option FieldType}
    (hy : plainName y.cls = true) (hw : ws = Cond.code y cc maxL ret :: ws')
    (body : ∀ p e s m args below meth c s₁, BodyLoose p l y (headSpec ws rm) cc maxL ret e s m args below meth c s₁ → c.maxLocals = maxL → (∀ x ∈ c.exceptionTable.toList, False) → Pc args s →
      W p l e (headSpec ws rm).room s m args below meth c s.heap [] 0 0 (vx_MQ below Qc XC args s mc ms free) (entryFrame m args maxL)) : vx_Met l y ws rm Pc Qc XC mc ms free := by
  refine MetFree.of_bodyS (code := cc) (maxLocals := maxL) (ret := ret) hy ?_ ?_
  · intro args s m h hn
    obtain ⟨meth, c, h1, h2, h3, h4, h5, h6, -, -⟩ := Cond.code_spec hn (atoms_spec (ws := ws) h _ (by rw [hw]; exact List.mem_cons_self))
    exact ⟨meth, c, h1, h2, h3, h4, h5, h6⟩
  · intro p e s m args below meth c s₁ B hml hP _
    have hh0 : s₁.heap = s.heap := by rw [B.state]; rfl
    have ht : ∀ x ∈ c.exceptionTable.toList, False := by
      obtain ⟨meth9, c9, h1, h2, -, -, -, -, h7, -⟩ := Cond.code_spec B.named (atoms_spec (ws := ws) B.pre _ (by rw [hw]; exact List.mem_cons_self))
      cases Option.some.inj (h1.symm.trans B.method)
      cases Option.some.inj (h2.symm.trans (Stand.of_body B).code)
      intro x hx
      rw [Array.isEmpty_iff.mp h7] at hx
      cases hx
    obtain ⟨t, a1, o, b1, b2, b3⟩ := body p e s m args below meth c s₁ B hml ht hP s₁ hh0 (Stand.of_body B)
    exact ⟨t, o, a1, b1, b2, b3⟩
/-- the table of a body with handlers -/
theorem vx_table {p : Program} {x y : MethodName} {S : Spec} {cc bytes : ByteArray} {maxL maxL' : Nat} {ret ret' : Option FieldType} {e : Env} {s s₁ : State} {m : MethodId} {args : Array Value} {below : List Frame} {meth : Method} {c : Code} {hh : List (Nat × Nat × Nat × Nat)}
    (B : BodyLoose p l y S cc maxL ret e s m args below meth c s₁) (h : (Cond.codeWith y bytes maxL' ret' hh).before args s = true) : c.exceptionTable.toList = tableOf hh := by
  obtain ⟨m9, meth9, c9, hn9, h1, h2, -, -, h6, -⟩ := Cond.codeWith_spec h
  cases Option.some.inj (hn9.symm.trans B.named)
  cases Option.some.inj (h1.symm.trans B.method)
  cases Option.some.inj (h2.symm.trans (Stand.of_body B).code)
  rw [← h6, table_eq]
end Bodies
end VXA
/-! ===== END ===== -/
/-! ===== BEGIN a static call of a method with an exception table ===== -/
section VXS
variable {p : Program} {l : Launch} {e : Env} {R : Room} {s : State} {m : MethodId} {args : Array Value} {below : List Frame} {meth : Method} {c : Code} {T : State} {H : Heap} {locs : List Loc} {cells slots : Nat}
abbrev vx_CSW (R : Room) (s : State) (args : Array Value) (own : String) (index : Nat) (y : MethodName) (bytes : ByteArray) (maxL : Nat) (ret : Option FieldType) (hh : List (Nat × Nat × Nat × Nat)) (ws : List Cond) (rm : Room) (mc ms n : Nat) : Prop :=
  (rm.cells = mc ∧ rm.slots = ms ∧ rm.frames + 1 ≤ R.frames ∧ 8 + (maxL + 11) + rm.locals ≤ R.locals ∧ (∀ w ∈ ws, ∀ (a' : Array Value) (U : State), s.WarmedH U.vm → w.before a' U = true) ∧ Cond.codeWith y bytes maxL ret hh ∈ ws) ∧
  (Cond.codeWith y bytes maxL ret hh).before args s = true ∧ (Cond.initialized y.cls).before args s = true ∧ (y.cls ≠ "java/lang/invoke/MethodHandle" ∧ y.cls ≠ "java/lang/invoke/VarHandle") ∧
  (∀ sig, parseMethodDescriptor y.desc = some sig → n = sig.parameters.length) ∧ (Cond.methodLink own index y).before args s = true ∧ (Cond.static y).before args s = true
theorem vx_cwSW {own : String} {index maxL mc ms : Nat} {y : MethodName} {bytes : ByteArray} {ret : Option FieldType} {hh : List (Nat × Nat × Nat × Nat)} {Ts ws ws' : List Cond} {rm : Room} (n : Nat) (ht : ∀ w ∈ Ts, w.before args s = true) (hT : GoodIn Ts (va_wsS own index y ws)) (hw : ws = Cond.codeWith y bytes maxL ret hh :: ws') (hrc : rm.cells = mc) (hrs : rm.slots = ms)
    (hd : y.cls ≠ "java/lang/invoke/MethodHandle" ∧ y.cls ≠ "java/lang/invoke/VarHandle" ∧ (parseMethodDescriptor y.desc).map (fun d => d.parameters.length) = some n) (hR : rm.frames + 1 ≤ R.frames ∧ 8 + (maxL + 11) + rm.locals ≤ R.locals) :
    vx_CSW R s args own index y bytes maxL ret hh ws rm mc ms n := by
  have ok : ∀ w ∈ va_wsS own index y ws, w.before args s = true := fun w h => ht w (hT w h).1
  have hG : GoodIn Ts ws := fun w h => hT w (by unfold va_wsS; exact List.mem_append_right _ h)
  have hc : Cond.codeWith y bytes maxL ret hh ∈ ws := by rw [hw]; exact List.mem_cons_self
  refine ⟨⟨hrc, hrs, hR.1, hR.2, pay_in ht hG, hc⟩, ht _ (hG _ hc).1, ok _ (by simp [va_wsS]), ⟨hd.1, hd.2.1⟩, fun sig h => ?_, ok _ (by simp [va_wsS]), ok _ (by simp [va_wsS])⟩
  have h2 := hd.2.2
  rw [h] at h2
  exact (Option.some.inj h2).symm
theorem vx_callSW (X : Stand p l e R s m args below meth c T locs cells slots) (hexec : p.tables.exec = Jvm.exec) {own : String} {index : Nat} {y : MethodName} {bytes : ByteArray} {maxL : Nat} {ret : Option FieldType} {hh : List (Nat × Nat × Nat × Nat)}
    (hown : s.vm.findClass own = some m.cls) (hlink : (Cond.methodLink own index y).before args s = true) (hstat : (Cond.static y).before args s = true) (hinit : (Cond.initialized y.cls).before args s = true)
    (hcode : (Cond.codeWith y bytes maxL ret hh).before args s = true) (hy : y.cls ≠ "java/lang/invoke/MethodHandle" ∧ y.cls ≠ "java/lang/invoke/VarHandle")
    {W9 : Nat} {Pre : Pt → Array Value → Prop} {Post : Pt → Array Value → Option Value → Pt → Prop} (hK : Back l R p e below s args y 3 W9 Pre Post)
    {g : JFrame} (hg : g.method = m) (hsize : g.locals.size = c.maxLocals) {argsL rest : List Value} (hlen : ∀ sig, parseMethodDescriptor y.desc = some sig → argsL.length = sig.parameters.length)
    (hstack : g.stack = argsL.reverse ++ rest) (hW : 2 * g.monitorRoom + (rest.map fun v => v.category).sum ≤ W9) (hdg : decode c.code g.pc = .ok (.invokestatic index, 3))
    (hpre : ∀ vm₁, s.WarmedH vm₁ → Pre ⟨T.setVm vm₁, locs, cells, slots⟩ argsL.toArray) :
    ∃ (v : Option Value) (vm₁ : Vm) (B : Pt), s.WarmedH vm₁ ∧ Stand p l e R s m args below meth c B.U B.locs B.cells B.slots ∧ Post ⟨T.setVm vm₁, locs, cells, slots⟩ argsL.toArray v B ∧
      ∀ target, Steps p.tables e below (B.U.setTop { g with pc := g.pc + 3, stack := v.toList ++ rest }) target → Steps p.tables e below (T.setTop g) target := by
  obtain ⟨mk, methM, cM, hnamed, hmethM, -, -, -, -, -, -, hsigM⟩ := Cond.codeWith_spec hcode
  have hstatic : methM.isStatic = true := Cond.static_spec hnamed hmethM hstat
  obtain ⟨kP, hkP, -⟩ := className_of_methodNamed hnamed
  have hinitP : kP.init = .initialized := Cond.initialized_spec (findClass_of_methodNamed hnamed) hkP hinit
  obtain ⟨vm₁, X₁, hstep₁⟩ := X.invokestatic hexec hown hlink hnamed hmethM hstatic hkP hinitP hy (g := g) hg (argsL := argsL) (rest := rest) (hlen _ hsigM) hstack hdg
  obtain ⟨v, B, X', hpost, hsteps⟩ := hK m meth c ⟨T.setVm vm₁, locs, cells, slots⟩ { g with stack := rest } (.invokestatic index) mk argsL.toArray X₁ hg hsize hdg hW (X₁.named hnamed) (hpre vm₁ X₁.warmed)
  exact ⟨v, vm₁, B, X₁.warmed, X', hpost, fun target h => hstep₁ _ fun acts => by rw [doInvoke_state]; exact hsteps.trans h⟩
theorem vx_runSW {y : MethodName} {bytes cc : ByteArray} {maxL nL mc ms n index : Nat} {ret : Option FieldType} {hh : List (Nat × Nat × Nat × Nat)} {ws : List Cond} {rm : Room} {Pc : Array Value → State → Prop} {Qc : Array Value → State → Outcome → State → Prop} {free : Addr → Prop} {Ts : List Cond} {own : String} {As rest : List Value} {g : JFrame}
    (S : CallFix p m c cc nL s args Ts own) (hM : Met l y ws rm Pc Qc mc ms free) (cw : vx_CSW R s args own index y bytes maxL ret hh ws rm mc ms n) (hp : PreS s H Pc As)
    (hg : g.method = m) (hn : As.length = n) (hsize : g.locals.size = nL) (hstack : g.stack = As.reverse ++ rest) (hW : 2 * g.monitorRoom + (rest.map fun v => v.category).sum ≤ 8) (hdg : decode cc g.pc = .ok (.invokestatic index, 3)) (hf : cells + mc ≤ R.cells ∧ slots + ms ≤ R.slots) :
    va_Run p l e R s m args below meth c H locs cells slots mc ms g rest (Qc As.toArray) (free) := by
  obtain ⟨⟨hrc, hrs, hfr, hlo, hws, hcw⟩, hcode, hini, hy, hlen, hl, hstt⟩ := cw
  have hK : Back l R p e below s args y 3 8 (PreOf R mc ms Pc) (PostOf Qc mc ms free) := va_backW (hh := hh) (bytes := bytes) (maxL := maxL) (ret := ret) hM hp.1 hrc hrs hfr hlo hws hcw (fun a' U hW => word_at hW (Or.inl (by first | rfl | simp [Cond.onTables, Cond.keeps, Cond.steady])) hini)
  obtain ⟨hx, hb, hml, ho, -⟩ := S
  intro T hT X
  obtain ⟨v, vm₁, ⟨U', l2, c2, s2⟩, hW₁, X', ⟨g', mk, t, L, e1, e2, hq, h1, hL, h2, h3⟩, st⟩ := vx_callSW X hx (hh := hh) (bytes := bytes) (maxL := maxL) (ret := ret) ho hl hstt hini hcode hy hK hg (hsize.trans hml.symm) (argsL := As) (rest := rest) (fun sig h => hn.trans (hlen sig h)) hstack hW (by rw [hb]; exact hdg)
    (fun vm₁ hW₁ => ⟨hf.1, hf.2, hp.2 (T.setVm vm₁) hT hW₁⟩)
  dsimp only [Pt.U, Pt.locs, Pt.cells, Pt.slots] at X' e1 e2 h1 h2 h3 st
  subst h1; subst h2; subst h3
  exact ⟨v, (T.setVm vm₁).calling g' mk As.toArray, t, U', L, hT, X', hL, e1, e2, hq, st⟩
/-- not caught here, past rows that name other classes: it goes on to the caller -/
theorem vx_outP {p : Program} {l : Launch} {e : Env} {R : Room} {s : State} {m : MethodId} {args : Array Value} {below : List Frame} {meth : Method} {c : Code} {H : Heap} {locs : List Loc} {cells slots : Nat} {free : Addr → Prop} {ls : Array Slot} {rest : List Value} {Qc : Array Value → State → Outcome → State → Prop} {XC : String → State → State → Prop}
    {pc : Nat} {own E : String} {ce : Cell} {q : Addr} {mc ms : Nat} (hown : s.vm.findClass own = some m.cls) (hlocks : meth.locks = false)
    (hpass : ∀ z ∈ c.exceptionTable.toList, covers z pc = false ∨ (z.catchType ≠ 0 ∧ ∃ nm : String, (Cond.classLink own z.catchType nm).before args s = true ∧ va_Nc E nm s)) (hcell : H[q]? = some ce) (hv : ce.vm = .none) (hcl : s.vm.findClass E = some ce.cls)
    (hx : ∀ t : State, t.heap = H → s.vm.Alike t.vm → XC E s t) (hf : ∀ z ∈ locs, free z.base) (hc : cells ≤ mc) (hs : slots ≤ ms) :
    vx_W p l e R s m args below meth c H locs cells slots (vx_MQ below Qc XC args s mc ms free) (F0 m pc ls rest) q := by
  intro T hT X
  have hpl : e.platform.magicAccessors = ({} : Platform).magicAccessors := by rw [X.admits.platform]
  obtain ⟨vm', hW', X', st⟩ := X.outThrough hlocks q (g := F0 m pc ls rest) rfl rfl rfl (cell := ce) (by rw [hT]; exact hcell) (by rw [hv]; rfl)
    (by obtain ⟨k9, h9, -⟩ := Vm.findClass_spec hcl; exact ⟨k9, h9⟩) (fun z hz => by
      rcases hpass z hz with h | ⟨hz0, nm, hl1, hn1⟩
      · exact Or.inl h
      · obtain ⟨c6, hc6, hcl6⟩ := Cond.classLink_spec hown hl1 e.platform hpl
        obtain ⟨a8, b8, h1, h2, h3⟩ := hn1
        cases Option.some.inj (h1.symm.trans hcl)
        cases Option.some.inj (h2.symm.trans hc6)
        exact Or.inr ⟨hz0, _, hcl6, h3⟩)
  obtain ⟨g₀, hfr⟩ := X'.frames_eq
  have hcell9 : ((T.setVm vm').setFrames (.throwing q :: below)).heap[q]? = some ce := by
    show T.heap[q]? = some ce
    rw [hT]; exact hcell
  have hend : Ended ((T.setVm vm').setFrames (.throwing q :: below)) below (.threw q) := State.frames_setFrames _ (State.cur_lt_of_frames hfr)
  refine ⟨(T.setVm vm').setFrames (.throwing q :: below), ?_, .threw q, X'.here.running, hend, Or.inr ⟨q, rfl, E, ce, locs, hx _ hT (X'.ends _).1.alike, hcell9, hv, hcl, (X'.ends _).1, (X'.ends _).2.mono hc hs, hf⟩⟩
  rw [X.pushThrowing_eq]
  exact st
/-- a thing of a world lies in the heap -/
theorem vx_lt {D : va_G} {cl : List vw_C} {ws : va_W} {H1 : Heap} (h : va_P D cl ws H1) {k : Nat} {q : Nat × va_E} (hk : ws[k]? = some q) : q.1 < H1.size := (h k q hk).lt
end VXS
/-! ===== END ===== -/
/-! ===== BEGIN methods with a table of their own: called by a name, returning or throwing ===== -/
section VXH
/-! vx_backW, vx_callVX, vx_callSX, vx_callVW, vx_runVW, vx_runVX, vx_runSX, vx_ofWH follow the same proofs as their sisters above (Free/Laws.lean, Shelf42/LK1.lean); vx_outP calls Shelf42/NT130.lean (outThrough). -/
section
variable {l : Launch} {R : Room} {p : Program} {e : Env} {below : List Frame} {s : State} {sargs : Array Value} {y : MethodName} {len W9 : Nat}
theorem vx_backW {ws : List Cond} {rm : Room} {Pc : Array Value → State → Prop} {Qc : Array Value → State → Outcome → State → Prop} {XC : String → State → State → Prop} {mc ms : Nat} {free : Addr → Prop} {bytes : ByteArray} {maxL : Nat} {ret : Option FieldType} {hh : List (Nat × Nat × Nat × Nat)}
    (hM : vx_Met l y ws rm Pc Qc XC mc ms free) (hblind : FrameBlind Pc) (hrc : rm.cells = mc) (hrs : rm.slots = ms)
    (hframes : rm.frames + 1 ≤ R.frames) (hlocals : W9 + (maxL + 11) + rm.locals ≤ R.locals)
    (hws : ∀ w ∈ ws, ∀ a' U, s.WarmedH U.vm → w.before a' U = true) (hcode : Cond.codeWith y bytes maxL ret hh ∈ ws) (hinit : ∀ a' U, s.WarmedH U.vm → (Cond.initialized y.cls).before a' U = true) :
    vx_Back l R p e below s sargs y len W9 (PreOf R mc ms Pc) (PostOf Qc mc ms free) (vx_Post XC mc ms free) := by
  intro m meth c A g ig mk a X hg hsize hdg hW hn hp
  have h1 : (headSpec ws rm).pre.before a A.U = true := atoms_intro fun w hw => hws w hw _ _ X.warmed
  have h2 : (Cond.codeWith y bytes maxL ret hh).before a A.U = true := hws _ hcode _ _ X.warmed
  have h3 : (Cond.initialized y.cls).before a A.U = true := hinit _ _ X.warmed
  have h4 : A.cells + (headSpec ws rm).room.cells ≤ R.cells := by rw [show (headSpec ws rm).room.cells = mc from hrc]; exact hp.1
  have h5 : A.slots + (headSpec ws rm).room.slots ≤ R.slots := by rw [show (headSpec ws rm).room.slots = ms from hrs]; exact hp.2.1
  have hPc : Pc a (A.U.calling g mk a) := hblind _ _ _ _ hp.2.2
  obtain ⟨U, Ls, c0, s0⟩ := A
  dsimp only [Pt.U, Pt.locs, Pt.cells, Pt.slots] at h1 h2 h3 h4 h5 X hn hPc ⊢
  obtain ⟨m9, methY, cY, hn9, hmY, hcY, -, hlY, -⟩ := Cond.codeWith_spec h2
  cases Option.some.inj (hn9.symm.trans hn)
  obtain ⟨kY, hkY, -⟩ := className_of_methodNamed hn
  have hinitY : kY.init = .initialized := Cond.initialized_spec (findClass_of_methodNamed hn) hkY h3
  have h : At U g.method c below := by rw [hg]; exact X.here
  have hlocals9 : W9 + (maxL + 11) + (headSpec ws rm).room.locals ≤ R.locals := hlocals
  have happ : (headSpec ws rm).appliesLoose y e.platform (U.calling g mk a) = true :=
    Spec.appliesLoose_calling (g := g) h hdg hn hkY hinitY
      (X.room_calling (g := g) (R' := (headSpec ws rm).room) hsize hmY hcY hframes (by rw [hlY]; omega) h4 h5) h1
  obtain ⟨mid, hmid⟩ := h.above
  have hfr : (U.setTop g).frames = (.java g :: mid) ++ below := by rw [State.frames_setTop' g h.top, hmid]; rfl
  obtain ⟨o, s₂, hsteps, -, hend, hq⟩ := Steps.callFree hM p X.admits X.cas X.clock (acts := []) hfr happ hPc trivial
  have hq' : vx_Q Qc XC mc ms free a (U.calling g mk a) o s₂ := hq
  rw [State.frames_setTop' g h.top] at hend
  obtain ⟨g₀, hg0⟩ := Option.isSome_iff_exists.mp h.top
  obtain ⟨r, hr⟩ := State.topJava?_eq_some.mp hg0
  have hr' : (({ U with heap := s₂.heap, slotsUsed := s₂.slotsUsed } : State).setVm s₂.vm).frames = .java g₀ :: r := hr
  rcases hq' with ⟨hqc, L, hfe, hL⟩ | ⟨q, rfl, E, ce, L, hx, hce, hcv, hcl, hW₂, hsm, hL⟩
  · obtain ⟨⟨v, rfl⟩, hW₂, e2, q2, q3, q4, q5, q6⟩ := id hfe
    have e3 : s₂ = ({ (U.calling g mk a).setFrames s₂.frames with heap := s₂.heap, slotsUsed := s₂.slotsUsed } : State).setVm s₂.vm := by
      have : s₂ = ({ s₂ with vm := (U.calling g mk a).vm } : State).setVm s₂.vm := rfl
      rw [e2] at this
      exact this
    obtain ⟨c₂, i₂, len₂, hc₂, hd₂, hf₂⟩ := hend
    have hW' : U.WarmedH s₂.vm := hW₂
    have hcc : c₂ = c := by
      have h1 : s₂.code? g.method = U.code? g.method := by
        rw [State.code?_eq, State.code?_eq, hW'.alike.method?]
      exact Option.some.inj (hc₂.symm.trans (h1.trans h.code))
    subst hcc
    have hlen : len₂ = len := by rw [hdg] at hd₂; cases hd₂; rfl
    subst hlen
    have hs₂ : s₂ = (({ U with heap := s₂.heap, slotsUsed := s₂.slotsUsed } : State).setVm s₂.vm).setTop { g with pc := g.pc + len₂, stack := v.toList ++ g.stack } := by
      refine e3.trans ?_
      rw [hf₂, State.calling_eq h.top, State.setFrames_setFrames, State.setTop_of_frames _ hr', hr]
      rfl
    have hsame : U.sameButNew ({ U with heap := s₂.heap, slotsUsed := s₂.slotsUsed } : State) L mc ms := by
      refine ⟨?_, q2, q3, q4, q5, q6⟩
      obtain ⟨t, ht, -⟩ := State.frames_cons hr
      show ({ U with heap := s₂.heap, slotsUsed := s₂.slotsUsed } : State) = { U.setFrames U.frames with heap := s₂.heap, slotsUsed := s₂.slotsUsed }
      rw [State.setFrames_self ht]
    subst hg
    refine Or.inl ⟨v, ⟨(({ U with heap := s₂.heap, slotsUsed := s₂.slotsUsed } : State).setVm s₂.vm), Ls ++ L, c0 + mc, s0 + ms⟩,
      ⟨X.admits, X.cas, X.clock, X.frames, X.room, X.hears, X.method, X.code, (X.here.setHeapUsed s₂.heap s₂.slotsUsed).setVm hW'.alike, X.tail, State.WarmedH.trans X.warmed hW', X.limits, X.bytes, X.same.trans (hsame.setVm s.vm)⟩,
      ⟨g, mk, s₂, L, rfl, rfl, hqc, rfl, hL, rfl, rfl⟩, ?_⟩
    show Steps p.tables e below _ ((({ U with heap := s₂.heap, slotsUsed := s₂.slotsUsed } : State).setVm s₂.vm).setTop { g with pc := g.pc + len₂, stack := v.toList ++ g.stack })
    rw [← hs₂]
    exact hsteps
  · obtain ⟨e2, q2, q3, q4, q5, q6⟩ := id hsm
    have e3 : s₂ = ({ (U.calling g mk a).setFrames s₂.frames with heap := s₂.heap, slotsUsed := s₂.slotsUsed } : State).setVm s₂.vm := by
      have : s₂ = ({ s₂ with vm := (U.calling g mk a).vm } : State).setVm s₂.vm := rfl
      rw [e2] at this
      exact this
    have hf₂ : s₂.frames = .throwing q :: .java g :: U.frames.tail := hend
    have hW' : U.WarmedH s₂.vm := hW₂
    have hs₂ : s₂ = ((({ U with heap := s₂.heap, slotsUsed := s₂.slotsUsed } : State).setVm s₂.vm).setTop g).pushFrame (.throwing q) := by
      refine e3.trans ?_
      rw [hf₂, State.calling_eq h.top, State.setFrames_setFrames, State.pushFrame, State.frames_setTop _ hr', State.setTop_of_frames _ hr', State.setFrames_setFrames, hr]
      rfl
    have hsame : U.sameButNew ({ U with heap := s₂.heap, slotsUsed := s₂.slotsUsed } : State) L mc ms := by
      refine ⟨?_, q2, q3, q4, q5, q6⟩
      obtain ⟨t, ht, -⟩ := State.frames_cons hr
      show ({ U with heap := s₂.heap, slotsUsed := s₂.slotsUsed } : State) = { U.setFrames U.frames with heap := s₂.heap, slotsUsed := s₂.slotsUsed }
      rw [State.setFrames_self ht]
    subst hg
    refine Or.inr ⟨q, ⟨(({ U with heap := s₂.heap, slotsUsed := s₂.slotsUsed } : State).setVm s₂.vm), Ls ++ L, c0 + mc, s0 + ms⟩,
      ⟨X.admits, X.cas, X.clock, X.frames, X.room, X.hears, X.method, X.code, (X.here.setHeapUsed s₂.heap s₂.slotsUsed).setVm hW'.alike, X.tail, State.WarmedH.trans X.warmed hW', X.limits, X.bytes, X.same.trans (hsame.setVm s.vm)⟩,
      ⟨g, mk, s₂, L, E, ce, rfl, rfl, hx, hce, hcv, hcl, rfl, hL, rfl, rfl⟩, ?_⟩
    show Steps p.tables e below _ (((({ U with heap := s₂.heap, slotsUsed := s₂.slotsUsed } : State).setVm s₂.vm).setTop g).pushFrame (.throwing q))
    rw [← hs₂]
    exact hsteps
end
variable {p : Program} {l : Launch} {e : Env} {R : Room} {s : State} {m : MethodId} {args : Array Value} {below : List Frame} {meth : Method} {c : Code} {T : State} {H : Heap} {locs : List Loc} {cells slots : Nat}
theorem vx_callVX (X : Stand p l e R s m args below meth c T locs cells slots) (hexec : p.tables.exec = Jvm.exec) {own C : String} {index : Nat} {y : MethodName} {bytes : ByteArray} {maxL : Nat} {ret : Option FieldType} {hh : List (Nat × Nat × Nat × Nat)}
    (hown : s.vm.findClass own = some m.cls) (hlink : (Cond.methodLink own index y).before args s = true) (hinst : (Cond.instanceMethod y).before args s = true) (hsel : (Cond.selects C y y).before args s = true)
    (hcode : (Cond.codeWith y bytes maxL ret hh).before args s = true) (hy : y.cls ≠ "java/lang/invoke/MethodHandle" ∧ y.cls ≠ "java/lang/invoke/VarHandle")
    {W9 : Nat} {Pre : Pt → Array Value → Prop} {Post : Pt → Array Value → Option Value → Pt → Prop} {PostX : Pt → Array Value → Addr → Pt → Prop} (hK : vx_Back l R p e below s args y 3 W9 Pre Post PostX)
    {b : Addr} {cellB : Cell} (hcell : T.heap[b]? = some cellB) (hobj : cellB.vm.isStatics = false) (hcls : s.vm.findClass C = some cellB.cls)
    {g : JFrame} (hg : g.method = m) (hsize : g.locals.size = c.maxLocals) {argsL rest : List Value} (hlen : ∀ sig, parseMethodDescriptor y.desc = some sig → argsL.length = sig.parameters.length)
    (hstack : g.stack = argsL.reverse ++ .ref b :: rest) (hW : 2 * g.monitorRoom + (rest.map fun v => v.category).sum ≤ W9) (hdg : decode c.code g.pc = .ok (.invokevirtual index, 3))
    (hpre : ∀ vm₁, s.WarmedH vm₁ → Pre ⟨T.setVm vm₁, locs, cells, slots⟩ (Value.ref b :: argsL).toArray) :
    (∃ (v : Option Value) (vm₁ : Vm) (B : Pt), s.WarmedH vm₁ ∧ Stand p l e R s m args below meth c B.U B.locs B.cells B.slots ∧ Post ⟨T.setVm vm₁, locs, cells, slots⟩ (Value.ref b :: argsL).toArray v B ∧
      ∀ target, Steps p.tables e below (B.U.setTop { g with pc := g.pc + 3, stack := v.toList ++ rest }) target → Steps p.tables e below (T.setTop g) target) ∨
    (∃ (q : Addr) (vm₁ : Vm) (B : Pt), s.WarmedH vm₁ ∧ Stand p l e R s m args below meth c B.U B.locs B.cells B.slots ∧ PostX ⟨T.setVm vm₁, locs, cells, slots⟩ (Value.ref b :: argsL).toArray q B ∧
      Steps p.tables e below (T.setTop g) ((B.U.setTop { g with stack := rest }).pushFrame (.throwing q))) := by
  obtain ⟨mk, methM, hnamed, hmethM, hstM, habM⟩ := Cond.instanceMethod_spec hinst
  obtain ⟨m8, methM', cM, hn8, hmethM', -, -, -, -, -, -, hsigM⟩ := Cond.codeWith_spec hcode
  cases Option.some.inj (hn8.symm.trans hnamed)
  cases hmethM.symm.trans hmethM'
  obtain ⟨c2, r2, m2, q1, q2, q3, q4, kP, hkP, hkPi⟩ := Cond.selects_spec hsel
  cases hcls.symm.trans q1
  cases (State.methodFound?_of_named hnamed hy).symm.trans q2
  cases hnamed.symm.trans q3
  have hselP : selectMethod e.platform s.vm cellB.cls mk = .method mk := by rw [Launch.admits_selectMethod X.admits]; exact q4
  obtain ⟨vm₁, X₁, hstep₁⟩ := X.invokevirtual hexec hown hlink hnamed hmethM hstM hkP hkPi hy (a := b) (cell := cellB) hcell
    (fun z h => by rw [h] at hobj; cases hobj) hselP hmethM habM hkP hkPi (g := g) hg (argsL := argsL) (rest := rest) (hlen _ hsigM) hstack hdg
  rcases hK m meth c ⟨T.setVm vm₁, locs, cells, slots⟩ { g with stack := rest } (.invokevirtual index) mk (Value.ref b :: argsL).toArray X₁ hg hsize hdg hW (X₁.named hnamed) (hpre vm₁ X₁.warmed) with ⟨v, B, X', hpost, hsteps⟩ | ⟨q, B, X', hpost, hsteps⟩
  · exact Or.inl ⟨v, vm₁, B, X₁.warmed, X', hpost, fun target h => hstep₁ _ fun acts => by rw [doInvoke_state]; exact hsteps.trans h⟩
  · exact Or.inr ⟨q, vm₁, B, X₁.warmed, X', hpost, hstep₁ _ fun acts => by rw [doInvoke_state]; exact hsteps⟩
theorem vx_callSX (X : Stand p l e R s m args below meth c T locs cells slots) (hexec : p.tables.exec = Jvm.exec) {own : String} {index : Nat} {y : MethodName} {bytes : ByteArray} {maxL : Nat} {ret : Option FieldType} {hh : List (Nat × Nat × Nat × Nat)}
    (hown : s.vm.findClass own = some m.cls) (hlink : (Cond.methodLink own index y).before args s = true) (hstat : (Cond.static y).before args s = true) (hinit : (Cond.initialized y.cls).before args s = true)
    (hcode : (Cond.codeWith y bytes maxL ret hh).before args s = true) (hy : y.cls ≠ "java/lang/invoke/MethodHandle" ∧ y.cls ≠ "java/lang/invoke/VarHandle")
    {W9 : Nat} {Pre : Pt → Array Value → Prop} {Post : Pt → Array Value → Option Value → Pt → Prop} {PostX : Pt → Array Value → Addr → Pt → Prop} (hK : vx_Back l R p e below s args y 3 W9 Pre Post PostX)
    {g : JFrame} (hg : g.method = m) (hsize : g.locals.size = c.maxLocals) {argsL rest : List Value} (hlen : ∀ sig, parseMethodDescriptor y.desc = some sig → argsL.length = sig.parameters.length)
    (hstack : g.stack = argsL.reverse ++ rest) (hW : 2 * g.monitorRoom + (rest.map fun v => v.category).sum ≤ W9) (hdg : decode c.code g.pc = .ok (.invokestatic index, 3))
    (hpre : ∀ vm₁, s.WarmedH vm₁ → Pre ⟨T.setVm vm₁, locs, cells, slots⟩ argsL.toArray) :
    (∃ (v : Option Value) (vm₁ : Vm) (B : Pt), s.WarmedH vm₁ ∧ Stand p l e R s m args below meth c B.U B.locs B.cells B.slots ∧ Post ⟨T.setVm vm₁, locs, cells, slots⟩ argsL.toArray v B ∧
      ∀ target, Steps p.tables e below (B.U.setTop { g with pc := g.pc + 3, stack := v.toList ++ rest }) target → Steps p.tables e below (T.setTop g) target) ∨
    (∃ (q : Addr) (vm₁ : Vm) (B : Pt), s.WarmedH vm₁ ∧ Stand p l e R s m args below meth c B.U B.locs B.cells B.slots ∧ PostX ⟨T.setVm vm₁, locs, cells, slots⟩ argsL.toArray q B ∧
      Steps p.tables e below (T.setTop g) ((B.U.setTop { g with stack := rest }).pushFrame (.throwing q))) := by
  obtain ⟨mk, methM, cM, hnamed, hmethM, -, -, -, -, -, -, hsigM⟩ := Cond.codeWith_spec hcode
  have hstatic : methM.isStatic = true := Cond.static_spec hnamed hmethM hstat
  obtain ⟨kP, hkP, -⟩ := className_of_methodNamed hnamed
  have hinitP : kP.init = .initialized := Cond.initialized_spec (findClass_of_methodNamed hnamed) hkP hinit
  obtain ⟨vm₁, X₁, hstep₁⟩ := X.invokestatic hexec hown hlink hnamed hmethM hstatic hkP hinitP hy (g := g) hg (argsL := argsL) (rest := rest) (hlen _ hsigM) hstack hdg
  rcases hK m meth c ⟨T.setVm vm₁, locs, cells, slots⟩ { g with stack := rest } (.invokestatic index) mk argsL.toArray X₁ hg hsize hdg hW (X₁.named hnamed) (hpre vm₁ X₁.warmed) with ⟨v, B, X', hpost, hsteps⟩ | ⟨q, B, X', hpost, hsteps⟩
  · exact Or.inl ⟨v, vm₁, B, X₁.warmed, X', hpost, fun target h => hstep₁ _ fun acts => by rw [doInvoke_state]; exact hsteps.trans h⟩
  · exact Or.inr ⟨q, vm₁, B, X₁.warmed, X', hpost, hstep₁ _ fun acts => by rw [doInvoke_state]; exact hsteps⟩
theorem vx_callVW (X : Stand p l e R s m args below meth c T locs cells slots) (hexec : p.tables.exec = Jvm.exec) {own C : String} {index : Nat} {y : MethodName} {bytes : ByteArray} {maxL : Nat} {ret : Option FieldType} {hh : List (Nat × Nat × Nat × Nat)}
    (hown : s.vm.findClass own = some m.cls) (hlink : (Cond.methodLink own index y).before args s = true) (hinst : (Cond.instanceMethod y).before args s = true) (hsel : (Cond.selects C y y).before args s = true)
    (hcode : (Cond.codeWith y bytes maxL ret hh).before args s = true) (hy : y.cls ≠ "java/lang/invoke/MethodHandle" ∧ y.cls ≠ "java/lang/invoke/VarHandle")
    {W9 : Nat} {Pre : Pt → Array Value → Prop} {Post : Pt → Array Value → Option Value → Pt → Prop} (hK : Back l R p e below s args y 3 W9 Pre Post)
    {b : Addr} {cellB : Cell} (hcell : T.heap[b]? = some cellB) (hobj : cellB.vm.isStatics = false) (hcls : s.vm.findClass C = some cellB.cls)
    {g : JFrame} (hg : g.method = m) (hsize : g.locals.size = c.maxLocals) {argsL rest : List Value} (hlen : ∀ sig, parseMethodDescriptor y.desc = some sig → argsL.length = sig.parameters.length)
    (hstack : g.stack = argsL.reverse ++ .ref b :: rest) (hW : 2 * g.monitorRoom + (rest.map fun v => v.category).sum ≤ W9) (hdg : decode c.code g.pc = .ok (.invokevirtual index, 3))
    (hpre : ∀ vm₁, s.WarmedH vm₁ → Pre ⟨T.setVm vm₁, locs, cells, slots⟩ (Value.ref b :: argsL).toArray) :
    ∃ (v : Option Value) (vm₁ : Vm) (B : Pt), s.WarmedH vm₁ ∧ Stand p l e R s m args below meth c B.U B.locs B.cells B.slots ∧ Post ⟨T.setVm vm₁, locs, cells, slots⟩ (Value.ref b :: argsL).toArray v B ∧
      ∀ target, Steps p.tables e below (B.U.setTop { g with pc := g.pc + 3, stack := v.toList ++ rest }) target → Steps p.tables e below (T.setTop g) target := by
  obtain ⟨mk, methM, hnamed, hmethM, hstM, habM⟩ := Cond.instanceMethod_spec hinst
  obtain ⟨m8, methM', cM, hn8, hmethM', -, -, -, -, -, -, hsigM⟩ := Cond.codeWith_spec hcode
  cases Option.some.inj (hn8.symm.trans hnamed)
  cases hmethM.symm.trans hmethM'
  obtain ⟨c2, r2, m2, q1, q2, q3, q4, kP, hkP, hkPi⟩ := Cond.selects_spec hsel
  cases hcls.symm.trans q1
  cases (State.methodFound?_of_named hnamed hy).symm.trans q2
  cases hnamed.symm.trans q3
  have hselP : selectMethod e.platform s.vm cellB.cls mk = .method mk := by rw [Launch.admits_selectMethod X.admits]; exact q4
  obtain ⟨vm₁, X₁, hstep₁⟩ := X.invokevirtual hexec hown hlink hnamed hmethM hstM hkP hkPi hy (a := b) (cell := cellB) hcell
    (fun z h => by rw [h] at hobj; cases hobj) hselP hmethM habM hkP hkPi (g := g) hg (argsL := argsL) (rest := rest) (hlen _ hsigM) hstack hdg
  obtain ⟨v, B, X', hpost, hsteps⟩ := hK m meth c ⟨T.setVm vm₁, locs, cells, slots⟩ { g with stack := rest } (.invokevirtual index) mk (Value.ref b :: argsL).toArray X₁ hg hsize hdg hW (X₁.named hnamed) (hpre vm₁ X₁.warmed)
  exact ⟨v, vm₁, B, X₁.warmed, X', hpost, fun target h => hstep₁ _ fun acts => by rw [doInvoke_state]; exact hsteps.trans h⟩
abbrev vx_CVW (R : Room) (s : State) (args : Array Value) (own C : String) (index : Nat) (y : MethodName) (bytes : ByteArray) (maxL : Nat) (ret : Option FieldType) (hh : List (Nat × Nat × Nat × Nat)) (ws : List Cond) (rm : Room) (mc ms n : Nat) : Prop :=
  (rm.cells = mc ∧ rm.slots = ms ∧ rm.frames + 1 ≤ R.frames ∧ 8 + (maxL + 11) + rm.locals ≤ R.locals ∧ (∀ w ∈ ws, ∀ (a' : Array Value) (U : State), s.WarmedH U.vm → w.before a' U = true) ∧ Cond.codeWith y bytes maxL ret hh ∈ ws) ∧
  (Cond.codeWith y bytes maxL ret hh).before args s = true ∧ (Cond.initialized y.cls).before args s = true ∧ (y.cls ≠ "java/lang/invoke/MethodHandle" ∧ y.cls ≠ "java/lang/invoke/VarHandle") ∧
  (∀ sig, parseMethodDescriptor y.desc = some sig → n = sig.parameters.length) ∧ (Cond.methodLink own index y).before args s = true ∧ (Cond.instanceMethod y).before args s = true ∧ (Cond.selects C y y).before args s = true
theorem vx_cwVW {own C : String} {index maxL mc ms : Nat} {y : MethodName} {bytes : ByteArray} {ret : Option FieldType} {hh : List (Nat × Nat × Nat × Nat)} {Ts ws ws' : List Cond} {rm : Room} (n : Nat) (ht : ∀ w ∈ Ts, w.before args s = true) (hT : GoodIn Ts (wsV own index C y ws)) (hw : ws = Cond.codeWith y bytes maxL ret hh :: ws') (hrc : rm.cells = mc) (hrs : rm.slots = ms)
    (hd : y.cls = C ∧ y.cls ≠ "java/lang/invoke/MethodHandle" ∧ y.cls ≠ "java/lang/invoke/VarHandle" ∧ (parseMethodDescriptor y.desc).map (fun d => d.parameters.length) = some n) (hR : rm.frames + 1 ≤ R.frames ∧ 8 + (maxL + 11) + rm.locals ≤ R.locals) :
    vx_CVW R s args own C index y bytes maxL ret hh ws rm mc ms n := by
  obtain ⟨hC, hd⟩ := hd
  subst hC
  have ok : ∀ w ∈ wsV own index y.cls y ws, w.before args s = true := fun w h => ht w (hT w h).1
  have hG : GoodIn Ts ws := fun w h => hT w (by unfold wsV; exact List.mem_append_right _ h)
  have hc : Cond.codeWith y bytes maxL ret hh ∈ ws := by rw [hw]; exact List.mem_cons_self
  refine ⟨⟨hrc, hrs, hR.1, hR.2, pay_in ht hG, hc⟩, ht _ (hG _ hc).1, ok _ (by simp [wsV]), ⟨hd.1, hd.2.1⟩, fun sig h => ?_, ok _ (by simp [wsV]), ok _ (by simp [wsV]), ok _ (by simp [wsV])⟩
  have h2 := hd.2.2
  rw [h] at h2
  exact (Option.some.inj h2).symm
theorem vx_runVW {y : MethodName} {bytes cc : ByteArray} {maxL nL mc ms n index : Nat} {ret : Option FieldType} {hh : List (Nat × Nat × Nat × Nat)} {ws : List Cond} {rm : Room} {Pc : Array Value → State → Prop} {Qc : Array Value → State → Outcome → State → Prop} {free : Addr → Prop} {Ts : List Cond} {own C : String} {b : Addr} {As rest : List Value} {g : JFrame}
    (S : CallFix p m c cc nL s args Ts own) (hM : Met l y ws rm Pc Qc mc ms free) (cw : vx_CVW R s args own C index y bytes maxL ret hh ws rm mc ms n) (hp : PreV s H C b Pc As)
    (hg : g.method = m) (hn : As.length = n) (hsize : g.locals.size = nL) (hstack : g.stack = As.reverse ++ .ref b :: rest) (hW : 2 * g.monitorRoom + (rest.map fun v => v.category).sum ≤ 8) (hdg : decode cc g.pc = .ok (.invokevirtual index, 3)) (hf : cells + mc ≤ R.cells ∧ slots + ms ≤ R.slots) :
    va_Run p l e R s m args below meth c H locs cells slots mc ms g rest (Qc (Value.ref b :: As).toArray) free := by
  obtain ⟨⟨hrc, hrs, hfr, hlo, hws, hcw⟩, hcode, hini, hy, hlen, hl, hin, hse⟩ := cw
  have hK : Back l R p e below s args y 3 8 (PreOf R mc ms Pc) (PostOf Qc mc ms free) := va_backW (hh := hh) (bytes := bytes) (maxL := maxL) (ret := ret) hM hp.1 hrc hrs hfr hlo hws hcw (fun a' U hW => word_at hW (Or.inl (by first | rfl | simp [Cond.onTables, Cond.keeps, Cond.steady])) hini)
  obtain ⟨hx, hb, hml, ho, -⟩ := S
  obtain ⟨-, ⟨cellB, hcB, hoB, hclB⟩, hPc⟩ := hp
  intro T hT X
  obtain ⟨v, vm₁, ⟨U', l2, c2, s2⟩, hW₁, X', ⟨g', mk, t, L, e1, e2, hq, h1, hL, h2, h3⟩, st⟩ := vx_callVW X hx (C := C) (hh := hh) (bytes := bytes) (maxL := maxL) (ret := ret) ho hl hin hse hcode hy hK (by rw [hT]; exact hcB) hoB hclB hg (hsize.trans hml.symm) (argsL := As) (rest := rest) (fun sig h => hn.trans (hlen sig h)) hstack hW (by rw [hb]; exact hdg)
    (fun vm₁ hW₁ => ⟨hf.1, hf.2, hPc (T.setVm vm₁) hT hW₁⟩)
  dsimp only [Pt.U, Pt.locs, Pt.cells, Pt.slots] at X' e1 e2 h1 h2 h3 st
  subst h1; subst h2; subst h3
  exact ⟨v, (T.setVm vm₁).calling g' mk (Value.ref b :: As).toArray, t, U', L, hT, X', hL, e1, e2, hq, st⟩
section
variable {y : MethodName} {bytes cc : ByteArray} {maxL nL mc ms n index : Nat} {ret : Option FieldType} {ws : List Cond} {rm : Room} {Pc : Array Value → State → Prop} {Qc : Array Value → State → Outcome → State → Prop} {XC : String → State → State → Prop} {free : Addr → Prop} {Ts : List Cond} {own C : String} {b : Addr} {As rest : List Value} {g : JFrame}
theorem vx_runVX {hh : List (Nat × Nat × Nat × Nat)} (S : CallFix p m c cc nL s args Ts own) (hM : vx_Met l y ws rm Pc Qc XC mc ms free) (cw : vx_CVW R s args own C index y bytes maxL ret hh ws rm mc ms n) (hp : PreV s H C b Pc As)
    (hg : g.method = m) (hn : As.length = n) (hsize : g.locals.size = nL) (hstack : g.stack = As.reverse ++ .ref b :: rest) (hW : 2 * g.monitorRoom + (rest.map fun v => v.category).sum ≤ 8) (hdg : decode cc g.pc = .ok (.invokevirtual index, 3)) (hf : cells + mc ≤ R.cells ∧ slots + ms ≤ R.slots) :
    vx_Run p l e R s m args below meth c H locs cells slots mc ms g rest (Qc (Value.ref b :: As).toArray) XC free := by
  obtain ⟨⟨hrc, hrs, hfr, hlo, hws, hcw⟩, hcode, hini, hy, hlen, hl, hin, hse⟩ := cw
  have hK : vx_Back l R p e below s args y 3 8 (PreOf R mc ms Pc) (PostOf Qc mc ms free) (vx_Post XC mc ms free) := vx_backW (hh := hh) (bytes := bytes) (maxL := maxL) (ret := ret) hM hp.1 hrc hrs hfr hlo hws hcw (fun a' U hW => word_at hW (Or.inl (by first | rfl | simp [Cond.onTables, Cond.keeps, Cond.steady])) hini)
  obtain ⟨hx, hb, hml, ho, -⟩ := S
  obtain ⟨-, ⟨cellB, hcB, hoB, hclB⟩, hPc⟩ := hp
  intro T hT X
  rcases vx_callVX X hx (C := C) (hh := hh) (bytes := bytes) (maxL := maxL) (ret := ret) ho hl hin hse hcode hy hK (by rw [hT]; exact hcB) hoB hclB hg (hsize.trans hml.symm) (argsL := As) (rest := rest) (fun sig h => hn.trans (hlen sig h)) hstack hW (by rw [hb]; exact hdg)
    (fun vm₁ hW₁ => ⟨hf.1, hf.2, hPc (T.setVm vm₁) hT hW₁⟩) with ⟨v, vm₁, ⟨U', l2, c2, s2⟩, hW₁, X', ⟨g', mk, t, L, e1, e2, hq, h1, hL, h2, h3⟩, st⟩ | ⟨q, vm₁, ⟨U', l2, c2, s2⟩, hW₁, X', ⟨g', mk, t, L, E, ce, e1, e2, hq, hce, hcv, hcl, h1, hL, h2, h3⟩, st⟩
  · dsimp only [Pt.U, Pt.locs, Pt.cells, Pt.slots] at X' e1 e2 h1 h2 h3 st
    subst h1; subst h2; subst h3
    exact Or.inl ⟨v, (T.setVm vm₁).calling g' mk (Value.ref b :: As).toArray, t, U', L, hT, X', hL, e1, e2, hq, st⟩
  · dsimp only [Pt.U, Pt.locs, Pt.cells, Pt.slots] at X' e1 e2 h1 h2 h3 st hcl
    subst h1; subst h2; subst h3
    exact Or.inr ⟨q, (T.setVm vm₁).calling g' mk (Value.ref b :: As).toArray, t, U', L, E, ce, hT, X', hL, e1, e2, hq, hce, hcv, vx_cls hW₁ hcl, st⟩
theorem vx_runSX {hh : List (Nat × Nat × Nat × Nat)} (S : CallFix p m c cc nL s args Ts own) (hM : vx_Met l y ws rm Pc Qc XC mc ms free) (cw : vx_CSW R s args own index y bytes maxL ret hh ws rm mc ms n) (hp : PreS s H Pc As)
    (hg : g.method = m) (hn : As.length = n) (hsize : g.locals.size = nL) (hstack : g.stack = As.reverse ++ rest) (hW : 2 * g.monitorRoom + (rest.map fun v => v.category).sum ≤ 8) (hdg : decode cc g.pc = .ok (.invokestatic index, 3)) (hf : cells + mc ≤ R.cells ∧ slots + ms ≤ R.slots) :
    vx_Run p l e R s m args below meth c H locs cells slots mc ms g rest (Qc As.toArray) XC free := by
  obtain ⟨⟨hrc, hrs, hfr, hlo, hws, hcw⟩, hcode, hini, hy, hlen, hl, hstt⟩ := cw
  have hK : vx_Back l R p e below s args y 3 8 (PreOf R mc ms Pc) (PostOf Qc mc ms free) (vx_Post XC mc ms free) := vx_backW (hh := hh) (bytes := bytes) (maxL := maxL) (ret := ret) hM hp.1 hrc hrs hfr hlo hws hcw (fun a' U hW => word_at hW (Or.inl (by first | rfl | simp [Cond.onTables, Cond.keeps, Cond.steady])) hini)
  obtain ⟨hx, hb, hml, ho, -⟩ := S
  intro T hT X
  rcases vx_callSX X hx (hh := hh) (bytes := bytes) (maxL := maxL) (ret := ret) ho hl hstt hini hcode hy hK hg (hsize.trans hml.symm) (argsL := As) (rest := rest) (fun sig h => hn.trans (hlen sig h)) hstack hW (by rw [hb]; exact hdg)
    (fun vm₁ hW₁ => ⟨hf.1, hf.2, hp.2 (T.setVm vm₁) hT hW₁⟩) with ⟨v, vm₁, ⟨U', l2, c2, s2⟩, hW₁, X', ⟨g', mk, t, L, e1, e2, hq, h1, hL, h2, h3⟩, st⟩ | ⟨q, vm₁, ⟨U', l2, c2, s2⟩, hW₁, X', ⟨g', mk, t, L, E, ce, e1, e2, hq, hce, hcv, hcl, h1, hL, h2, h3⟩, st⟩
  · dsimp only [Pt.U, Pt.locs, Pt.cells, Pt.slots] at X' e1 e2 h1 h2 h3 st
    subst h1; subst h2; subst h3
    exact Or.inl ⟨v, (T.setVm vm₁).calling g' mk As.toArray, t, U', L, hT, X', hL, e1, e2, hq, st⟩
  · dsimp only [Pt.U, Pt.locs, Pt.cells, Pt.slots] at X' e1 e2 h1 h2 h3 st hcl
    subst h1; subst h2; subst h3
    exact Or.inr ⟨q, (T.setVm vm₁).calling g' mk As.toArray, t, U', L, E, ce, hT, X', hL, e1, e2, hq, hce, hcv, vx_cls hW₁ hcl, st⟩
end
end VXH
theorem vx_ofWH {l : Launch} {y : MethodName} {ws ws' : List Cond} {rm : Room} {Pc : Array Value → State → Prop} {Qc : Array Value → State → Outcome → State → Prop} {XC : String → State → State → Prop} {mc ms : Nat} {free : Addr → Prop} {cc : ByteArray} {maxL : Nat} {ret : Option FieldType} {hh : List (Nat × Nat × Nat × Nat)}
    (hy : plainName y.cls = true) (hw : ws = Cond.codeWith y cc maxL ret hh :: ws')
    (body : ∀ p e s m args below meth c s₁, BodyLoose p l y (headSpec ws rm) cc maxL ret e s m args below meth c s₁ → c.maxLocals = maxL → Pc args s →
      W p l e (headSpec ws rm).room s m args below meth c s.heap [] 0 0 (vx_MQ below Qc XC args s mc ms free) (entryFrame m args maxL)) : vx_Met l y ws rm Pc Qc XC mc ms free := by
  refine MetFree.of_bodyS (code := cc) (maxLocals := maxL) (ret := ret) hy ?_ ?_
  · intro args s m h hn
    obtain ⟨m9, meth, c, hn9, h1, h2, h3, h4, -, h5, h6, -⟩ := Cond.codeWith_spec (atoms_spec (ws := ws) h _ (by rw [hw]; exact List.mem_cons_self))
    cases hn.symm.trans hn9
    exact ⟨meth, c, h1, h2, h3, h4, h5, h6⟩
  · intro p e s m args below meth c s₁ B hml hP _
    have hh0 : s₁.heap = s.heap := by rw [B.state]; rfl
    obtain ⟨t, a1, o, b1, b2, b3⟩ := body p e s m args below meth c s₁ B hml hP s₁ hh0 (Stand.of_body B)
    exact ⟨t, o, a1, b1, b2, b3⟩
/-! ===== END ===== -/

/-! ===== BEGIN printed: names, fields, word lists, decode rows ===== -/
end
section
def RX0 : String := "SeenPages$Askers"
def TX0 : u_T := fun k => match k with
  | 0 => ("SeenPages$Askers", "snapshots", "[I", true)
  | _ => ("SeenPages$Askers", "asked", "[I", true)
def tyX0 : Nat → FieldType := fun k => match k with
  | 0 => .array .int
  | _ => .array .int
abbrev wsX00 : List Cond := u_ws RX0 TX0 2
theorem nmX0 : ∀ a, a < 2 → ∀ b, b < 2 → a ≠ b → (TX0 a).2.1 ≠ (TX0 b).2.1 := by decide +kernel
theorem tyX0_ok : ∀ k, k < 2 → parseFieldDescriptor (TX0 k).2.2.1 = some (tyX0 k) := by decide +kernel
abbrev cX0_init : ByteArray := prog_2_method_1_code
def yX0_init : MethodName := ⟨RX0, "<init>", "()V"⟩
abbrev cX0_copyFrom : ByteArray := prog_2_method_2_code
def yX0_copyFrom : MethodName := ⟨RX0, "copyFrom", "(LSeenPages$Askers;)V"⟩
abbrev cX0_horizonWithout : ByteArray := prog_2_method_3_code
def yX0_horizonWithout : MethodName := ⟨RX0, "horizonWithout", "(II)I"⟩
def RX1 : String := "SeenPages$History"
def TX1 : u_T := fun k => match k with
  | 0 => ("SeenPages$History", "rows", "[LSeenPages$State;", true)
  | 1 => ("SeenPages$History", "next", "I", false)
  | _ => ("SeenPages$History", "size", "I", false)
def tyX1 : Nat → FieldType := fun k => match k with
  | 0 => .array (.object "SeenPages$State")
  | 1 => .int
  | _ => .int
abbrev wsX10 : List Cond := u_ws RX1 TX1 3
theorem nmX1 : ∀ a, a < 3 → ∀ b, b < 3 → a ≠ b → (TX1 a).2.1 ≠ (TX1 b).2.1 := by decide +kernel
theorem tyX1_ok : ∀ k, k < 3 → parseFieldDescriptor (TX1 k).2.2.1 = some (tyX1 k) := by decide +kernel
abbrev cX1_init : ByteArray := prog_3_method_1_code
def yX1_init : MethodName := ⟨RX1, "<init>", "()V"⟩
abbrev cX1_save : ByteArray := prog_3_method_2_code
def yX1_save : MethodName := ⟨RX1, "save", "(LSeenPages$State;)V"⟩
abbrev cX1_restore : ByteArray := prog_3_method_3_code
def yX1_restore : MethodName := ⟨RX1, "restore", "(LSeenPages$State;)V"⟩
def RX2 : String := "SeenPages$State"
def TX2 : u_T := fun k => match k with
  | 0 => ("SeenPages$State", "table", "LSeenPages$Table;", true)
  | 1 => ("SeenPages$State", "askers", "LSeenPages$Askers;", true)
  | _ => ("SeenPages$State", "tally", "LSeenPages$Tally;", true)
def tyX2 : Nat → FieldType := fun k => match k with
  | 0 => .object "SeenPages$Table"
  | 1 => .object "SeenPages$Askers"
  | _ => .object "SeenPages$Tally"
abbrev wsX20 : List Cond := u_ws RX2 TX2 3
theorem nmX2 : ∀ a, a < 3 → ∀ b, b < 3 → a ≠ b → (TX2 a).2.1 ≠ (TX2 b).2.1 := by decide +kernel
theorem tyX2_ok : ∀ k, k < 3 → parseFieldDescriptor (TX2 k).2.2.1 = some (tyX2 k) := by decide +kernel
abbrev cX2_init : ByteArray := prog_4_method_1_code
def yX2_init : MethodName := ⟨RX2, "<init>", "()V"⟩
abbrev cX2_copyFrom : ByteArray := prog_4_method_2_code
def yX2_copyFrom : MethodName := ⟨RX2, "copyFrom", "(LSeenPages$State;)V"⟩
abbrev cX2_horizon : ByteArray := prog_4_method_3_code
def yX2_horizon : MethodName := ⟨RX2, "horizon", "()I"⟩
abbrev cX2_make : ByteArray := prog_4_method_4_code
def yX2_make : MethodName := ⟨RX2, "make", "(CII)Z"⟩
def RX3 : String := "SeenPages$Table"
def TX3 : u_T := fun k => match k with
  | 0 => ("SeenPages$Table", "values", "[I", true)
  | 1 => ("SeenPages$Table", "cameBy", "[I", true)
  | 2 => ("SeenPages$Table", "wentBy", "[I", true)
  | 3 => ("SeenPages$Table", "markedBy", "[I", true)
  | 4 => ("SeenPages$Table", "clock", "I", false)
  | _ => ("SeenPages$Table", "takenOut", "I", false)
def tyX3 : Nat → FieldType := fun k => match k with
  | 0 => .array .int
  | 1 => .array .int
  | 2 => .array .int
  | 3 => .array .int
  | 4 => .int
  | _ => .int
abbrev wsX30 : List Cond := u_ws RX3 TX3 6
theorem nmX3 : ∀ a, a < 6 → ∀ b, b < 6 → a ≠ b → (TX3 a).2.1 ≠ (TX3 b).2.1 := by decide +kernel
theorem tyX3_ok : ∀ k, k < 6 → parseFieldDescriptor (TX3 k).2.2.1 = some (tyX3 k) := by decide +kernel
abbrev cX3_init : ByteArray := prog_5_method_1_code
def yX3_init : MethodName := ⟨RX3, "<init>", "()V"⟩
abbrev cX3_copyFrom : ByteArray := prog_5_method_2_code
def yX3_copyFrom : MethodName := ⟨RX3, "copyFrom", "(LSeenPages$Table;)V"⟩
abbrev cX3_isSeen : ByteArray := prog_5_method_3_code
def yX3_isSeen : MethodName := ⟨RX3, "isSeen", "(II)Z"⟩
abbrev cX3_isSeenNow : ByteArray := prog_5_method_4_code
def yX3_isSeenNow : MethodName := ⟨RX3, "isSeenNow", "(I)Z"⟩
abbrev cX3_isMarked : ByteArray := prog_5_method_5_code
def yX3_isMarked : MethodName := ⟨RX3, "isMarked", "(I)Z"⟩
abbrev cX3_lowestEmptySlot : ByteArray := prog_5_method_6_code
def yX3_lowestEmptySlot : MethodName := ⟨RX3, "lowestEmptySlot", "()I"⟩
abbrev cX3_hasEmptySlot : ByteArray := prog_5_method_7_code
def yX3_hasEmptySlot : MethodName := ⟨RX3, "hasEmptySlot", "()Z"⟩
abbrev cX3_putValue : ByteArray := prog_5_method_8_code
def yX3_putValue : MethodName := ⟨RX3, "putValue", "(I)I"⟩
abbrev cX3_takeAway : ByteArray := prog_5_method_9_code
def yX3_takeAway : MethodName := ⟨RX3, "takeAway", "(I)Z"⟩
abbrev cX3_changeTo : ByteArray := prog_5_method_10_code
def yX3_changeTo : MethodName := ⟨RX3, "changeTo", "(II)I"⟩
abbrev cX3_come : ByteArray := prog_5_method_11_code
def yX3_come : MethodName := ⟨RX3, "come", "(II)V"⟩
abbrev cX3_go : ByteArray := prog_5_method_12_code
def yX3_go : MethodName := ⟨RX3, "go", "(I)V"⟩
abbrev cX3_isToTakeOut : ByteArray := prog_5_method_13_code
def yX3_isToTakeOut : MethodName := ⟨RX3, "isToTakeOut", "(II)Z"⟩
abbrev cX3_isSeenByAll : ByteArray := prog_5_method_14_code
def yX3_isSeenByAll : MethodName := ⟨RX3, "isSeenByAll", "(II)Z"⟩
abbrev cX3_empty : ByteArray := prog_5_method_15_code
def yX3_empty : MethodName := ⟨RX3, "empty", "(I)V"⟩
abbrev cX3_sweepPage : ByteArray := prog_5_method_16_code
def yX3_sweepPage : MethodName := ⟨RX3, "sweepPage", "(II)I"⟩
abbrev cX3_versions : ByteArray := prog_5_method_17_code
def yX3_versions : MethodName := ⟨RX3, "versions", "(II)I"⟩
abbrev cX3_versionsSeen : ByteArray := prog_5_method_18_code
def yX3_versionsSeen : MethodName := ⟨RX3, "versionsSeen", "(III)I"⟩
abbrev cX3_versionsToTakeOut : ByteArray := prog_5_method_19_code
def yX3_versionsToTakeOut : MethodName := ⟨RX3, "versionsToTakeOut", "(III)I"⟩
abbrev cX3_markedPages : ByteArray := prog_5_method_20_code
def yX3_markedPages : MethodName := ⟨RX3, "markedPages", "()I"⟩
abbrev cX3_mayTrustMarks : ByteArray := prog_5_method_21_code
def yX3_mayTrustMarks : MethodName := ⟨RX3, "mayTrustMarks", "(I)Z"⟩
abbrev cX3_answer : ByteArray := prog_5_method_22_code
def yX3_answer : MethodName := ⟨RX3, "answer", "(III)I"⟩
abbrev cX3_cost : ByteArray := prog_5_method_23_code
def yX3_cost : MethodName := ⟨RX3, "cost", "(III)I"⟩
abbrev cX3_indexHas : ByteArray := prog_5_method_24_code
def yX3_indexHas : MethodName := ⟨RX3, "indexHas", "(II)Z"⟩
abbrev cX3_wronglyTold : ByteArray := prog_5_method_25_code
def yX3_wronglyTold : MethodName := ⟨RX3, "wronglyTold", "(I)I"⟩
abbrev cX3_leastCostWay : ByteArray := prog_5_method_26_code
def yX3_leastCostWay : MethodName := ⟨RX3, "leastCostWay", "(I)I"⟩
def RX4 : String := "SeenPages$Tally"
def TX4 : u_T := fun k => match k with
  | 0 => ("SeenPages$Tally", "asked", "[I", true)
  | 1 => ("SeenPages$Tally", "marksNotTrusted", "I", false)
  | _ => ("SeenPages$Tally", "costs", "I", false)
def tyX4 : Nat → FieldType := fun k => match k with
  | 0 => .array .int
  | 1 => .int
  | _ => .int
abbrev wsX40 : List Cond := u_ws RX4 TX4 3
theorem nmX4 : ∀ a, a < 3 → ∀ b, b < 3 → a ≠ b → (TX4 a).2.1 ≠ (TX4 b).2.1 := by decide +kernel
theorem tyX4_ok : ∀ k, k < 3 → parseFieldDescriptor (TX4 k).2.2.1 = some (tyX4 k) := by decide +kernel
abbrev cX4_init : ByteArray := prog_6_method_1_code
def yX4_init : MethodName := ⟨RX4, "<init>", "()V"⟩
abbrev cX4_copyFrom : ByteArray := prog_6_method_2_code
def yX4_copyFrom : MethodName := ⟨RX4, "copyFrom", "(LSeenPages$Tally;)V"⟩
abbrev cX4_add : ByteArray := prog_6_method_3_code
def yX4_add : MethodName := ⟨RX4, "add", "(IIZ)V"⟩
def RX5 : String := "SeenPages$Text"
def TX5 : u_T := fun k => match k with
  | 0 => ("SeenPages$Text", "signs", "[C", true)
  | 1 => ("SeenPages$Text", "length", "I", false)
  | 2 => ("SeenPages$Text", "at", "I", false)
  | 3 => ("SeenPages$Text", "kind", "C", false)
  | 4 => ("SeenPages$Text", "place", "I", false)
  | _ => ("SeenPages$Text", "digit", "I", false)
def tyX5 : Nat → FieldType := fun k => match k with
  | 0 => .array .char
  | 1 => .int
  | 2 => .int
  | 3 => .char
  | 4 => .int
  | _ => .int
abbrev wsX50 : List Cond := u_ws RX5 TX5 6
theorem nmX5 : ∀ a, a < 6 → ∀ b, b < 6 → a ≠ b → (TX5 a).2.1 ≠ (TX5 b).2.1 := by decide +kernel
theorem tyX5_ok : ∀ k, k < 6 → parseFieldDescriptor (TX5 k).2.2.1 = some (tyX5 k) := by decide +kernel
abbrev cX5_init : ByteArray := prog_7_method_1_code
def yX5_init : MethodName := ⟨RX5, "<init>", "()V"⟩
abbrev cX5_add : ByteArray := prog_7_method_2_code
def yX5_add : MethodName := ⟨RX5, "add", "(C)I"⟩
abbrev cX5_wipe : ByteArray := prog_7_method_3_code
def yX5_wipe : MethodName := ⟨RX5, "wipe", "()I"⟩
abbrev cX5_signAt : ByteArray := prog_7_method_4_code
def yX5_signAt : MethodName := ⟨RX5, "signAt", "(I)C"⟩
abbrev cX5_rewind : ByteArray := prog_7_method_5_code
def yX5_rewind : MethodName := ⟨RX5, "rewind", "()V"⟩
abbrev cX5_readAll : ByteArray := prog_7_method_6_code
def yX5_readAll : MethodName := ⟨RX5, "readAll", "()Z"⟩
abbrev cX5_readNext : ByteArray := prog_7_method_7_code
def yX5_readNext : MethodName := ⟨RX5, "readNext", "()Z"⟩
abbrev cX5_readSign : ByteArray := prog_7_method_8_code
def yX5_readSign : MethodName := ⟨RX5, "readSign", "(C)Z"⟩
abbrev cX5_readDigit : ByteArray := prog_7_method_9_code
def yX5_readDigit : MethodName := ⟨RX5, "readDigit", "(I)Z"⟩
abbrev cX5_readPlace : ByteArray := prog_7_method_10_code
def yX5_readPlace : MethodName := ⟨RX5, "readPlace", "()Z"⟩
abbrev cX5_digitHere : ByteArray := prog_7_method_11_code
def yX5_digitHere : MethodName := ⟨RX5, "digitHere", "()I"⟩
def RX6 : String := "SeenPages"
def TX6 : u_T := fun k => match k with
  | 0 => ("SeenPages", "state", "LSeenPages$State;", true)
  | 1 => ("SeenPages", "history", "LSeenPages$History;", true)
  | _ => ("SeenPages", "text", "LSeenPages$Text;", true)
def tyX6 : Nat → FieldType := fun k => match k with
  | 0 => .object "SeenPages$State"
  | 1 => .object "SeenPages$History"
  | _ => .object "SeenPages$Text"
abbrev wsX60 : List Cond := u_ws RX6 TX6 3
theorem nmX6 : ∀ a, a < 3 → ∀ b, b < 3 → a ≠ b → (TX6 a).2.1 ≠ (TX6 b).2.1 := by decide +kernel
theorem tyX6_ok : ∀ k, k < 3 → parseFieldDescriptor (TX6 k).2.2.1 = some (tyX6 k) := by decide +kernel
abbrev cX6_init : ByteArray := prog_1_method_1_code
def yX6_init : MethodName := ⟨RX6, "<init>", "()V"⟩
abbrev cX6_put : ByteArray := prog_1_method_2_code
def yX6_put : MethodName := ⟨RX6, "put", "(I)I"⟩
abbrev cX6_take : ByteArray := prog_1_method_3_code
def yX6_take : MethodName := ⟨RX6, "take", "(I)I"⟩
abbrev cX6_change : ByteArray := prog_1_method_4_code
def yX6_change : MethodName := ⟨RX6, "change", "(II)I"⟩
abbrev cX6_open : ByteArray := prog_1_method_5_code
def yX6_open : MethodName := ⟨RX6, "open", "(I)I"⟩
abbrev cX6_close : ByteArray := prog_1_method_6_code
def yX6_close : MethodName := ⟨RX6, "close", "(I)I"⟩
abbrev cX6_sweep : ByteArray := prog_1_method_7_code
def yX6_sweep : MethodName := ⟨RX6, "sweep", "(I)I"⟩
abbrev cX6_sweepAll : ByteArray := prog_1_method_8_code
def yX6_sweepAll : MethodName := ⟨RX6, "sweepAll", "()I"⟩
abbrev cX6_ask : ByteArray := prog_1_method_9_code
def yX6_ask : MethodName := ⟨RX6, "ask", "(III)I"⟩
abbrev cX6_append : ByteArray := prog_1_method_10_code
def yX6_append : MethodName := ⟨RX6, "append", "(I)I"⟩
abbrev cX6_clearBuffer : ByteArray := prog_1_method_11_code
def yX6_clearBuffer : MethodName := ⟨RX6, "clearBuffer", "()I"⟩
abbrev cX6_firstError : ByteArray := prog_1_method_12_code
def yX6_firstError : MethodName := ⟨RX6, "firstError", "()I"⟩
abbrev cX6_play : ByteArray := prog_1_method_13_code
def yX6_play : MethodName := ⟨RX6, "play", "()I"⟩
abbrev cX6_undo : ByteArray := prog_1_method_14_code
def yX6_undo : MethodName := ⟨RX6, "undo", "()I"⟩
abbrev cX6_slot : ByteArray := prog_1_method_15_code
def yX6_slot : MethodName := ⟨RX6, "slot", "(II)I"⟩
abbrev cX6_page : ByteArray := prog_1_method_16_code
def yX6_page : MethodName := ⟨RX6, "page", "(II)I"⟩
abbrev cX6_asker : ByteArray := prog_1_method_17_code
def yX6_asker : MethodName := ⟨RX6, "asker", "(II)I"⟩
abbrev cX6_count : ByteArray := prog_1_method_18_code
def yX6_count : MethodName := ⟨RX6, "count", "(I)I"⟩
abbrev cX6_ifAsked : ByteArray := prog_1_method_19_code
def yX6_ifAsked : MethodName := ⟨RX6, "ifAsked", "(IIII)I"⟩
abbrev cX6_lies : ByteArray := prog_1_method_20_code
def yX6_lies : MethodName := ⟨RX6, "lies", "(I)I"⟩
abbrev cX6_cheapest : ByteArray := prog_1_method_21_code
def yX6_cheapest : MethodName := ⟨RX6, "cheapest", "(I)I"⟩
abbrev cX6_holder : ByteArray := prog_1_method_22_code
def yX6_holder : MethodName := ⟨RX6, "holder", "()I"⟩
abbrev cX6_marked : ByteArray := prog_1_method_23_code
def yX6_marked : MethodName := ⟨RX6, "marked", "()D"⟩
abbrev cX6_digest : ByteArray := prog_1_method_24_code
def yX6_digest : MethodName := ⟨RX6, "digest", "()J"⟩
abbrev cX6_isOutside : ByteArray := prog_1_method_25_code
def yX6_isOutside : MethodName := ⟨RX6, "isOutside", "(II)Z"⟩
abbrev cX6_slotNumber : ByteArray := prog_1_method_26_code
def yX6_slotNumber : MethodName := ⟨RX6, "slotNumber", "(II)I"⟩
abbrev cX6_pageNumber : ByteArray := prog_1_method_27_code
def yX6_pageNumber : MethodName := ⟨RX6, "pageNumber", "(II)I"⟩
abbrev cX6_askerNumber : ByteArray := prog_1_method_28_code
def yX6_askerNumber : MethodName := ⟨RX6, "askerNumber", "(II)I"⟩
abbrev cX6_countNumber : ByteArray := prog_1_method_29_code
def yX6_countNumber : MethodName := ⟨RX6, "countNumber", "(I)I"⟩
abbrev cX6_mostHolding : ByteArray := prog_1_method_30_code
def yX6_mostHolding : MethodName := ⟨RX6, "mostHolding", "()I"⟩
abbrev cX6_markedShare : ByteArray := prog_1_method_31_code
def yX6_markedShare : MethodName := ⟨RX6, "markedShare", "()D"⟩
abbrev cX6_makeParts : ByteArray := prog_1_method_32_code
def yX6_makeParts : MethodName := ⟨RX6, "makeParts", "()I"⟩
abbrev cX6_mix : ByteArray := prog_1_method_33_code
def yX6_mix : MethodName := ⟨RX6, "mix", "(JJ)J"⟩
abbrev cX6_mixParts : ByteArray := prog_1_method_34_code
def yX6_mixParts : MethodName := ⟨RX6, "mixParts", "(J)J"⟩
abbrev cX6_mixValue : ByteArray := prog_1_method_35_code
def yX6_mixValue : MethodName := ⟨RX6, "mixValue", "(JI)J"⟩
abbrev cX6_bitsOfShare : ByteArray := prog_1_method_36_code
def yX6_bitsOfShare : MethodName := ⟨RX6, "bitsOfShare", "(D)J"⟩
def RX7 : String := "SeenPagesModel"
def TX7 : u_T := fun k => match k with
  | 0 => ("SeenPagesModel", "thrown", "I", false)
  | 1 => ("SeenPagesModel", "s", "[I", true)
  | 2 => ("SeenPagesModel", "saved", "[I", true)
  | 3 => ("SeenPagesModel", "savedMany", "I", false)
  | 4 => ("SeenPagesModel", "buffer", "[I", true)
  | 5 => ("SeenPagesModel", "length", "I", false)
  | 6 => ("SeenPagesModel", "at", "I", false)
  | 7 => ("SeenPagesModel", "isWell", "Z", false)
  | 8 => ("SeenPagesModel", "read", "[I", true)
  | 9 => ("SeenPagesModel", "readMany", "I", false)
  | _ => ("SeenPagesModel", "hash", "J", false)
def tyX7 : Nat → FieldType := fun k => match k with
  | 0 => .int
  | 1 => .array .int
  | 2 => .array .int
  | 3 => .int
  | 4 => .array .int
  | 5 => .int
  | 6 => .int
  | 7 => .boolean
  | 8 => .array .int
  | 9 => .int
  | _ => .long
abbrev wsX70 : List Cond := u_ws RX7 TX7 11
theorem nmX7 : ∀ a, a < 11 → ∀ b, b < 11 → a ≠ b → (TX7 a).2.1 ≠ (TX7 b).2.1 := by decide +kernel
theorem tyX7_ok : ∀ k, k < 11 → parseFieldDescriptor (TX7 k).2.2.1 = some (tyX7 k) := by decide +kernel
abbrev cX7_init : ByteArray := prog_9_method_1_code
def yX7_init : MethodName := ⟨RX7, "<init>", "()V"⟩
abbrev cX7_thrown : ByteArray := prog_9_method_2_code
def yX7_thrown : MethodName := ⟨RX7, "thrown", "()I"⟩
abbrev cX7_in : ByteArray := prog_9_method_3_code
def yX7_in : MethodName := ⟨RX7, "in", "(III)Z"⟩
abbrev cX7_fails : ByteArray := prog_9_method_4_code
def yX7_fails : MethodName := ⟨RX7, "fails", "(I)I"⟩
abbrev cX7_of : ByteArray := prog_9_method_5_code
def yX7_of : MethodName := ⟨RX7, "of", "(II)I"⟩
abbrev cX7_lay : ByteArray := prog_9_method_6_code
def yX7_lay : MethodName := ⟨RX7, "lay", "(IIII)V"⟩
abbrev cX7_ofPage : ByteArray := prog_9_method_7_code
def yX7_ofPage : MethodName := ⟨RX7, "ofPage", "(II)I"⟩
abbrev cX7_snapshotOf : ByteArray := prog_9_method_8_code
def yX7_snapshotOf : MethodName := ⟨RX7, "snapshotOf", "(I)I"⟩
abbrev cX7_isPlace : ByteArray := prog_9_method_9_code
def yX7_isPlace : MethodName := ⟨RX7, "isPlace", "(I)Z"⟩
abbrev cX7_isPage : ByteArray := prog_9_method_10_code
def yX7_isPage : MethodName := ⟨RX7, "isPage", "(I)Z"⟩
abbrev cX7_isAsker : ByteArray := prog_9_method_11_code
def yX7_isAsker : MethodName := ⟨RX7, "isAsker", "(I)Z"⟩
abbrev cX7_saves : ByteArray := prog_9_method_12_code
def yX7_saves : MethodName := ⟨RX7, "saves", "()V"⟩
abbrev cX7_isFull : ByteArray := prog_9_method_13_code
def yX7_isFull : MethodName := ⟨RX7, "isFull", "(I)Z"⟩
abbrev cX7_isSeen : ByteArray := prog_9_method_14_code
def yX7_isSeen : MethodName := ⟨RX7, "isSeen", "(II)Z"⟩
abbrev cX7_lowestEmpty : ByteArray := prog_9_method_15_code
def yX7_lowestEmpty : MethodName := ⟨RX7, "lowestEmpty", "()I"⟩
abbrev cX7_unmarks : ByteArray := prog_9_method_16_code
def yX7_unmarks : MethodName := ⟨RX7, "unmarks", "(I)V"⟩
abbrev cX7_comes : ByteArray := prog_9_method_17_code
def yX7_comes : MethodName := ⟨RX7, "comes", "(II)V"⟩
abbrev cX7_goes : ByteArray := prog_9_method_18_code
def yX7_goes : MethodName := ⟨RX7, "goes", "(I)V"⟩
abbrev cX7_changes : ByteArray := prog_9_method_19_code
def yX7_changes : MethodName := ⟨RX7, "changes", "(III)I"⟩
abbrev cX7_canChange : ByteArray := prog_9_method_20_code
def yX7_canChange : MethodName := ⟨RX7, "canChange", "(II)Z"⟩
abbrev cX7_put : ByteArray := prog_9_method_21_code
def yX7_put : MethodName := ⟨RX7, "put", "(I)I"⟩
abbrev cX7_take : ByteArray := prog_9_method_22_code
def yX7_take : MethodName := ⟨RX7, "take", "(I)I"⟩
abbrev cX7_change : ByteArray := prog_9_method_23_code
def yX7_change : MethodName := ⟨RX7, "change", "(II)I"⟩
abbrev cX7_horizonBut : ByteArray := prog_9_method_24_code
def yX7_horizonBut : MethodName := ⟨RX7, "horizonBut", "(I)I"⟩
abbrev cX7_horizon : ByteArray := prog_9_method_25_code
def yX7_horizon : MethodName := ⟨RX7, "horizon", "()I"⟩
abbrev cX7_open : ByteArray := prog_9_method_26_code
def yX7_open : MethodName := ⟨RX7, "open", "(I)I"⟩
abbrev cX7_close : ByteArray := prog_9_method_27_code
def yX7_close : MethodName := ⟨RX7, "close", "(I)I"⟩
abbrev cX7_isOld : ByteArray := prog_9_method_28_code
def yX7_isOld : MethodName := ⟨RX7, "isOld", "(II)Z"⟩
abbrev cX7_oldIn : ByteArray := prog_9_method_29_code
def yX7_oldIn : MethodName := ⟨RX7, "oldIn", "(II)I"⟩
abbrev cX7_sweeps : ByteArray := prog_9_method_30_code
def yX7_sweeps : MethodName := ⟨RX7, "sweeps", "(I)I"⟩
abbrev cX7_sweep : ByteArray := prog_9_method_31_code
def yX7_sweep : MethodName := ⟨RX7, "sweep", "(I)I"⟩
abbrev cX7_markedPages : ByteArray := prog_9_method_32_code
def yX7_markedPages : MethodName := ⟨RX7, "markedPages", "()I"⟩
abbrev cX7_sweepAll : ByteArray := prog_9_method_33_code
def yX7_sweepAll : MethodName := ⟨RX7, "sweepAll", "()I"⟩
abbrev cX7_greatestMark : ByteArray := prog_9_method_34_code
def yX7_greatestMark : MethodName := ⟨RX7, "greatestMark", "()I"⟩
abbrev cX7_truly : ByteArray := prog_9_method_35_code
def yX7_truly : MethodName := ⟨RX7, "truly", "(II)I"⟩
abbrev cX7_hasValue : ByteArray := prog_9_method_36_code
def yX7_hasValue : MethodName := ⟨RX7, "hasValue", "(II)Z"⟩
abbrev cX7_answers : ByteArray := prog_9_method_37_code
def yX7_answers : MethodName := ⟨RX7, "answers", "(III)I"⟩
abbrev cX7_hasIn : ByteArray := prog_9_method_38_code
def yX7_hasIn : MethodName := ⟨RX7, "hasIn", "(II)Z"⟩
abbrev cX7_costs : ByteArray := prog_9_method_39_code
def yX7_costs : MethodName := ⟨RX7, "costs", "(III)I"⟩
abbrev cX7_ask : ByteArray := prog_9_method_40_code
def yX7_ask : MethodName := ⟨RX7, "ask", "(III)I"⟩
abbrev cX7_append : ByteArray := prog_9_method_41_code
def yX7_append : MethodName := ⟨RX7, "append", "(I)I"⟩
abbrev cX7_clearBuffer : ByteArray := prog_9_method_42_code
def yX7_clearBuffer : MethodName := ⟨RX7, "clearBuffer", "()I"⟩
abbrev cX7_sign : ByteArray := prog_9_method_43_code
def yX7_sign : MethodName := ⟨RX7, "sign", "()I"⟩
abbrev cX7_digit : ByteArray := prog_9_method_44_code
def yX7_digit : MethodName := ⟨RX7, "digit", "(I)I"⟩
abbrev cX7_placeRead : ByteArray := prog_9_method_45_code
def yX7_placeRead : MethodName := ⟨RX7, "placeRead", "()I"⟩
abbrev cX7_readsChange : ByteArray := prog_9_method_46_code
def yX7_readsChange : MethodName := ⟨RX7, "readsChange", "()V"⟩
abbrev cX7_readsAll : ByteArray := prog_9_method_47_code
def yX7_readsAll : MethodName := ⟨RX7, "readsAll", "()V"⟩
abbrev cX7_firstError : ByteArray := prog_9_method_48_code
def yX7_firstError : MethodName := ⟨RX7, "firstError", "()I"⟩
abbrev cX7_makes : ByteArray := prog_9_method_49_code
def yX7_makes : MethodName := ⟨RX7, "makes", "(I)Z"⟩
abbrev cX7_play : ByteArray := prog_9_method_50_code
def yX7_play : MethodName := ⟨RX7, "play", "()I"⟩
abbrev cX7_undo : ByteArray := prog_9_method_51_code
def yX7_undo : MethodName := ⟨RX7, "undo", "()I"⟩
abbrev cX7_tellsSlot : ByteArray := prog_9_method_52_code
def yX7_tellsSlot : MethodName := ⟨RX7, "tellsSlot", "(II)I"⟩
abbrev cX7_slot : ByteArray := prog_9_method_53_code
def yX7_slot : MethodName := ⟨RX7, "slot", "(II)I"⟩
abbrev cX7_versions : ByteArray := prog_9_method_54_code
def yX7_versions : MethodName := ⟨RX7, "versions", "(IIZI)I"⟩
abbrev cX7_tellsPage : ByteArray := prog_9_method_55_code
def yX7_tellsPage : MethodName := ⟨RX7, "tellsPage", "(II)I"⟩
abbrev cX7_page : ByteArray := prog_9_method_56_code
def yX7_page : MethodName := ⟨RX7, "page", "(II)I"⟩
abbrev cX7_tellsAsker : ByteArray := prog_9_method_57_code
def yX7_tellsAsker : MethodName := ⟨RX7, "tellsAsker", "(II)I"⟩
abbrev cX7_asker : ByteArray := prog_9_method_58_code
def yX7_asker : MethodName := ⟨RX7, "asker", "(II)I"⟩
abbrev cX7_tellsCount : ByteArray := prog_9_method_59_code
def yX7_tellsCount : MethodName := ⟨RX7, "tellsCount", "(I)I"⟩
abbrev cX7_count : ByteArray := prog_9_method_60_code
def yX7_count : MethodName := ⟨RX7, "count", "(I)I"⟩
abbrev cX7_ifAsked : ByteArray := prog_9_method_61_code
def yX7_ifAsked : MethodName := ⟨RX7, "ifAsked", "(IIII)I"⟩
abbrev cX7_tellsLies : ByteArray := prog_9_method_62_code
def yX7_tellsLies : MethodName := ⟨RX7, "tellsLies", "(I)I"⟩
abbrev cX7_lies : ByteArray := prog_9_method_63_code
def yX7_lies : MethodName := ⟨RX7, "lies", "(I)I"⟩
abbrev cX7_cheapestWay : ByteArray := prog_9_method_64_code
def yX7_cheapestWay : MethodName := ⟨RX7, "cheapestWay", "(I)I"⟩
abbrev cX7_cheapest : ByteArray := prog_9_method_65_code
def yX7_cheapest : MethodName := ⟨RX7, "cheapest", "(I)I"⟩
abbrev cX7_oldOnes : ByteArray := prog_9_method_66_code
def yX7_oldOnes : MethodName := ⟨RX7, "oldOnes", "(I)I"⟩
abbrev cX7_holderNow : ByteArray := prog_9_method_67_code
def yX7_holderNow : MethodName := ⟨RX7, "holderNow", "()I"⟩
abbrev cX7_holder : ByteArray := prog_9_method_68_code
def yX7_holder : MethodName := ⟨RX7, "holder", "()I"⟩
abbrev cX7_share : ByteArray := prog_9_method_69_code
def yX7_share : MethodName := ⟨RX7, "share", "()D"⟩
abbrev cX7_marked : ByteArray := prog_9_method_70_code
def yX7_marked : MethodName := ⟨RX7, "marked", "()D"⟩
abbrev cX7_hashes : ByteArray := prog_9_method_71_code
def yX7_hashes : MethodName := ⟨RX7, "hashes", "(J)V"⟩
abbrev cX7_hashesValue : ByteArray := prog_9_method_72_code
def yX7_hashesValue : MethodName := ⟨RX7, "hashesValue", "(I)V"⟩
abbrev cX7_digest : ByteArray := prog_9_method_73_code
def yX7_digest : MethodName := ⟨RX7, "digest", "()J"⟩
def RJx145de : String := "java/io/Serializable"
def TJx145de : u_T := fun k => match k with
  | _ => ("", "", "", false)
def tyJx145de : Nat → FieldType := fun k => match k with
  | _ => .int
abbrev wsJx145de0 : List Cond := u_ws RJx145de TJx145de 0
theorem nmJx145de : ∀ a, a < 0 → ∀ b, b < 0 → a ≠ b → (TJx145de a).2.1 ≠ (TJx145de b).2.1 := by decide +kernel
theorem tyJx145de_ok : ∀ k, k < 0 → parseFieldDescriptor (TJx145de k).2.2.1 = some (tyJx145de k) := by decide +kernel
def RJxb160c : String := "java/lang/Comparable"
def TJxb160c : u_T := fun k => match k with
  | _ => ("", "", "", false)
def tyJxb160c : Nat → FieldType := fun k => match k with
  | _ => .int
abbrev wsJxb160c0 : List Cond := u_ws RJxb160c TJxb160c 0
theorem nmJxb160c : ∀ a, a < 0 → ∀ b, b < 0 → a ≠ b → (TJxb160c a).2.1 ≠ (TJxb160c b).2.1 := by decide +kernel
theorem tyJxb160c_ok : ∀ k, k < 0 → parseFieldDescriptor (TJxb160c k).2.2.1 = some (tyJxb160c k) := by decide +kernel
def RJxe99ae : String := "java/lang/Double"
def TJxe99ae : u_T := fun k => match k with
  | _ => ("", "", "", false)
def tyJxe99ae : Nat → FieldType := fun k => match k with
  | _ => .int
abbrev wsJxe99ae0 : List Cond := u_ws RJxe99ae TJxe99ae 0
theorem nmJxe99ae : ∀ a, a < 0 → ∀ b, b < 0 → a ≠ b → (TJxe99ae a).2.1 ≠ (TJxe99ae b).2.1 := by decide +kernel
theorem tyJxe99ae_ok : ∀ k, k < 0 → parseFieldDescriptor (TJxe99ae k).2.2.1 = some (tyJxe99ae k) := by decide +kernel
abbrev cJxe99ae_isNaN_b9ae7 : ByteArray := prog_10_method_6_code
def yJxe99ae_isNaN_b9ae7 : MethodName := ⟨RJxe99ae, "isNaN", "(D)Z"⟩
abbrev cJxe99ae_doubleToLongBits_ccdee : ByteArray := prog_10_method_23_code
def yJxe99ae_doubleToLongBits_ccdee : MethodName := ⟨RJxe99ae, "doubleToLongBits", "(D)J"⟩
def RJxd2413 : String := "java/lang/Number"
def TJxd2413 : u_T := fun k => match k with
  | _ => ("", "", "", false)
def tyJxd2413 : Nat → FieldType := fun k => match k with
  | _ => .int
abbrev wsJxd24130 : List Cond := u_ws RJxd2413 TJxd2413 0
theorem nmJxd2413 : ∀ a, a < 0 → ∀ b, b < 0 → a ≠ b → (TJxd2413 a).2.1 ≠ (TJxd2413 b).2.1 := by decide +kernel
theorem tyJxd2413_ok : ∀ k, k < 0 → parseFieldDescriptor (TJxd2413 k).2.2.1 = some (tyJxd2413 k) := by decide +kernel
def RJ0 : String := "java/lang/String"
def TJ0 : u_T := fun k => match k with
  | _ => ("", "", "", false)
def tyJ0 : Nat → FieldType := fun k => match k with
  | _ => .int
abbrev wsJ00 : List Cond := u_ws RJ0 TJ0 0
theorem nmJ0 : ∀ a, a < 0 → ∀ b, b < 0 → a ≠ b → (TJ0 a).2.1 ≠ (TJ0 b).2.1 := by decide +kernel
theorem tyJ0_ok : ∀ k, k < 0 → parseFieldDescriptor (TJ0 k).2.2.1 = some (tyJ0 k) := by decide +kernel
def RJ10 : String := "java/lang/System"
def TJ10 : u_T := fun k => match k with
  | _ => ("", "", "", false)
def tyJ10 : Nat → FieldType := fun k => match k with
  | _ => .int
abbrev wsJ100 : List Cond := u_ws RJ10 TJ10 0
theorem nmJ10 : ∀ a, a < 0 → ∀ b, b < 0 → a ≠ b → (TJ10 a).2.1 ≠ (TJ10 b).2.1 := by decide +kernel
theorem tyJ10_ok : ∀ k, k < 0 → parseFieldDescriptor (TJ10 k).2.2.1 = some (tyJ10 k) := by decide +kernel
def RJxfd54e : String := "java/lang/constant/Constable"
def TJxfd54e : u_T := fun k => match k with
  | _ => ("", "", "", false)
def tyJxfd54e : Nat → FieldType := fun k => match k with
  | _ => .int
abbrev wsJxfd54e0 : List Cond := u_ws RJxfd54e TJxfd54e 0
theorem nmJxfd54e : ∀ a, a < 0 → ∀ b, b < 0 → a ≠ b → (TJxfd54e a).2.1 ≠ (TJxfd54e b).2.1 := by decide +kernel
theorem tyJxfd54e_ok : ∀ k, k < 0 → parseFieldDescriptor (TJxfd54e k).2.2.1 = some (tyJxfd54e k) := by decide +kernel
def RJx3cf43 : String := "java/lang/constant/ConstantDesc"
def TJx3cf43 : u_T := fun k => match k with
  | _ => ("", "", "", false)
def tyJx3cf43 : Nat → FieldType := fun k => match k with
  | _ => .int
abbrev wsJx3cf430 : List Cond := u_ws RJx3cf43 TJx3cf43 0
theorem nmJx3cf43 : ∀ a, a < 0 → ∀ b, b < 0 → a ≠ b → (TJx3cf43 a).2.1 ≠ (TJx3cf43 b).2.1 := by decide +kernel
theorem tyJx3cf43_ok : ∀ k, k < 0 → parseFieldDescriptor (TJx3cf43 k).2.2.1 = some (tyJx3cf43 k) := by decide +kernel
def RJ7 : String := "java/util/Arrays"
def TJ7 : u_T := fun k => match k with
  | _ => ("", "", "", false)
def tyJ7 : Nat → FieldType := fun k => match k with
  | _ => .int
abbrev wsJ70 : List Cond := u_ws RJ7 TJ7 0
theorem nmJ7 : ∀ a, a < 0 → ∀ b, b < 0 → a ≠ b → (TJ7 a).2.1 ≠ (TJ7 b).2.1 := by decide +kernel
theorem tyJ7_ok : ∀ k, k < 0 → parseFieldDescriptor (TJ7 k).2.2.1 = some (tyJ7 k) := by decide +kernel
abbrev cJ7_fill_53178 : ByteArray := prog_20_method_103_code
def yJ7_fill_53178 : MethodName := ⟨RJ7, "fill", "([II)V"⟩
def RL : String := "SeenPagesLaw"
abbrev cL_put : ByteArray := method_3_code
def yL_put : MethodName := ⟨RL, "put", "(LSeenPages;I[J)I"⟩
abbrev cL_take : ByteArray := method_4_code
def yL_take : MethodName := ⟨RL, "take", "(LSeenPages;I[J)I"⟩
abbrev cL_change : ByteArray := method_5_code
def yL_change : MethodName := ⟨RL, "change", "(LSeenPages;II[J)I"⟩
abbrev cL_open : ByteArray := method_6_code
def yL_open : MethodName := ⟨RL, "open", "(LSeenPages;I[J)I"⟩
abbrev cL_close : ByteArray := method_7_code
def yL_close : MethodName := ⟨RL, "close", "(LSeenPages;I[J)I"⟩
abbrev cL_sweep : ByteArray := method_8_code
def yL_sweep : MethodName := ⟨RL, "sweep", "(LSeenPages;I[J)I"⟩
abbrev cL_ask : ByteArray := method_9_code
def yL_ask : MethodName := ⟨RL, "ask", "(LSeenPages;III[J)I"⟩
abbrev cL_append : ByteArray := method_10_code
def yL_append : MethodName := ⟨RL, "append", "(LSeenPages;I[J)I"⟩
abbrev cL_play : ByteArray := method_11_code
def yL_play : MethodName := ⟨RL, "play", "(LSeenPages;[J)I"⟩
abbrev cL_undo : ByteArray := method_12_code
def yL_undo : MethodName := ⟨RL, "undo", "(LSeenPages;[J)I"⟩
abbrev cL_slot : ByteArray := method_13_code
def yL_slot : MethodName := ⟨RL, "slot", "(LSeenPages;II[J)I"⟩
abbrev cL_page : ByteArray := method_14_code
def yL_page : MethodName := ⟨RL, "page", "(LSeenPages;II[J)I"⟩
abbrev cL_asker : ByteArray := method_15_code
def yL_asker : MethodName := ⟨RL, "asker", "(LSeenPages;II[J)I"⟩
abbrev cL_count : ByteArray := method_16_code
def yL_count : MethodName := ⟨RL, "count", "(LSeenPages;I[J)I"⟩
abbrev cL_ifAsked : ByteArray := method_17_code
def yL_ifAsked : MethodName := ⟨RL, "ifAsked", "(LSeenPages;IIII[J)I"⟩
abbrev cL_lies : ByteArray := method_18_code
def yL_lies : MethodName := ⟨RL, "lies", "(LSeenPages;I[J)I"⟩
abbrev cL_cheapest : ByteArray := method_19_code
def yL_cheapest : MethodName := ⟨RL, "cheapest", "(LSeenPages;I[J)I"⟩
abbrev cL_law : ByteArray := code
def yL_law : MethodName := ⟨RL, "law", "([I)Z"⟩
theorem inJx145de : ∀ w ∈ wsJx145de0, w ∈ lw_tbl := by decide +kernel
theorem inJxb160c : ∀ w ∈ wsJxb160c0, w ∈ lw_tbl := by decide +kernel
theorem inJxe99ae : ∀ w ∈ wsJxe99ae0, w ∈ lw_tbl := by decide +kernel
theorem inJxd2413 : ∀ w ∈ wsJxd24130, w ∈ lw_tbl := by decide +kernel
theorem inJ0 : ∀ w ∈ wsJ00, w ∈ lw_tbl := by decide +kernel
theorem inJ10 : ∀ w ∈ wsJ100, w ∈ lw_tbl := by decide +kernel
theorem inJxfd54e : ∀ w ∈ wsJxfd54e0, w ∈ lw_tbl := by decide +kernel
theorem inJx3cf43 : ∀ w ∈ wsJx3cf430, w ∈ lw_tbl := by decide +kernel
theorem inJ7 : ∀ w ∈ wsJ70, w ∈ lw_tbl := by decide +kernel
abbrev vwCl : List vw_C := [(RX0, TX0, 2), (RX1, TX1, 3), (RX2, TX2, 3), (RX3, TX3, 6), (RX4, TX4, 3), (RX5, TX5, 6), (RX6, TX6, 3), (RX7, TX7, 11)]
/-- the words that every method of ours stands on: those of the tables that a call may take along -/
def wAll : List Cond := lw_tbl.filter goodWord
theorem wAll_tbl : ∀ w ∈ wAll, w ∈ lw_tbl := fun _ h => (List.mem_filter.mp h).1
theorem wAll_good (c0 : Cond) : GoodIn (c0 :: wAll) wAll := fun _ h => ⟨List.mem_cons_of_mem _ h, good_of_word (List.mem_filter.mp h).2⟩
theorem wAll_goodA : GoodIn wAll wAll := fun _ h => ⟨h, good_of_word (List.mem_filter.mp h).2⟩
theorem tb_1 {w : Cond} (h : w ∈ tables_1_1) (g : goodWord w = true) : w ∈ wAll := List.mem_filter.mpr ⟨List.mem_append_right _ (List.mem_append_left _ h), g⟩
theorem tb_2 {w : Cond} (h : w ∈ tables_1_2) (g : goodWord w = true) : w ∈ wAll := List.mem_filter.mpr ⟨List.mem_append_right _ (List.mem_append_right _ (List.mem_append_left _ h)), g⟩
theorem tb_3 {w : Cond} (h : w ∈ tables_1_3) (g : goodWord w = true) : w ∈ wAll := List.mem_filter.mpr ⟨List.mem_append_right _ (List.mem_append_right _ (List.mem_append_right _ (List.mem_append_left _ h))), g⟩
theorem tb_4 {w : Cond} (h : w ∈ tables_1_4) (g : goodWord w = true) : w ∈ wAll := List.mem_filter.mpr ⟨List.mem_append_right _ (List.mem_append_right _ (List.mem_append_right _ (List.mem_append_right _ (List.mem_append_left _ h)))), g⟩
theorem tb_5 {w : Cond} (h : w ∈ tables_1_5) (g : goodWord w = true) : w ∈ wAll := List.mem_filter.mpr ⟨List.mem_append_right _ (List.mem_append_right _ (List.mem_append_right _ (List.mem_append_right _ (List.mem_append_right _ h)))), g⟩
theorem tb_0 {q : MethodName × Nat} (h : q ∈ lw_privs) : Cond.selects q.1.cls q.1 q.1 ∈ wAll := List.mem_filter.mpr ⟨List.mem_append_left _ (List.mem_map.mpr ⟨q, h, rfl⟩), rfl⟩
theorem in_L : Cond.initialized RL ∈ wAll := tb_1 (List.mem_of_getElem? (i := 0) rfl) rfl
theorem in_X6 : Cond.initialized RX6 ∈ wAll := tb_1 (List.mem_of_getElem? (i := 1) rfl) rfl
theorem in_X2 : Cond.initialized RX2 ∈ wAll := tb_1 (List.mem_of_getElem? (i := 2) rfl) rfl
theorem in_X3 : Cond.initialized RX3 ∈ wAll := tb_1 (List.mem_of_getElem? (i := 3) rfl) rfl
theorem in_J7 : Cond.initialized RJ7 ∈ wAll := tb_1 (List.mem_of_getElem? (i := 4) rfl) rfl
theorem in_X0 : Cond.initialized RX0 ∈ wAll := tb_1 (List.mem_of_getElem? (i := 5) rfl) rfl
theorem in_X4 : Cond.initialized RX4 ∈ wAll := tb_1 (List.mem_of_getElem? (i := 6) rfl) rfl
theorem in_X1 : Cond.initialized RX1 ∈ wAll := tb_1 (List.mem_of_getElem? (i := 7) rfl) rfl
theorem in_X5 : Cond.initialized RX5 ∈ wAll := tb_1 (List.mem_of_getElem? (i := 8) rfl) rfl
theorem in_X7 : Cond.initialized RX7 ∈ wAll := tb_1 (List.mem_of_getElem? (i := 9) rfl) rfl
theorem in_javalangThrowable : Cond.initialized "java/lang/Throwable" ∈ wAll := tb_1 (List.mem_of_getElem? (i := 10) rfl) rfl
theorem in_javalangException : Cond.initialized "java/lang/Exception" ∈ wAll := tb_1 (List.mem_of_getElem? (i := 11) rfl) rfl
theorem in_javalangRuntimeException : Cond.initialized "java/lang/RuntimeException" ∈ wAll := tb_1 (List.mem_of_getElem? (i := 12) rfl) rfl
theorem in_javalangIllegalArgumentException : Cond.initialized "java/lang/IllegalArgumentException" ∈ wAll := tb_1 (List.mem_of_getElem? (i := 13) rfl) rfl
theorem in_javalangIllegalStateException : Cond.initialized "java/lang/IllegalStateException" ∈ wAll := tb_1 (List.mem_of_getElem? (i := 14) rfl) rfl
theorem in_J10 : Cond.initialized RJ10 ∈ wAll := tb_1 (List.mem_of_getElem? (i := 15) rfl) rfl
theorem in_javalangIndexOutOfBoundsException : Cond.initialized "java/lang/IndexOutOfBoundsException" ∈ wAll := tb_1 (List.mem_of_getElem? (i := 16) rfl) rfl
theorem in_Jxd2413 : Cond.initialized RJxd2413 ∈ wAll := tb_1 (List.mem_of_getElem? (i := 17) rfl) rfl
theorem in_Jxe99ae : Cond.initialized RJxe99ae ∈ wAll := tb_1 (List.mem_of_getElem? (i := 18) rfl) rfl
theorem cl_L_8 : Cond.classLink RL 8 RX6 ∈ wAll := tb_1 (List.mem_of_getElem? (i := 19) rfl) rfl
theorem it_X6 : Cond.instantiable RX6 3 ∈ wAll := tb_1 (List.mem_of_getElem? (i := 20) rfl) rfl
theorem ml_L_71 : Cond.methodLink RL 71 yX6_init ∈ wAll := tb_1 (List.mem_of_getElem? (i := 21) rfl) rfl
theorem im_X6_init : Cond.instanceMethod yX6_init ∈ wAll := tb_1 (List.mem_of_getElem? (i := 22) rfl) rfl
theorem co_X6_init : Cond.code yX6_init cX6_init 1 none ∈ wAll := tb_1 (List.mem_of_getElem? (i := 23) rfl) rfl
theorem ml_X6_3 : Cond.methodLink RX6 3 objectInit ∈ wAll := tb_1 (List.mem_of_getElem? (i := 24) rfl) rfl
theorem im_objectInit : Cond.instanceMethod objectInit ∈ wAll := tb_1 (List.mem_of_getElem? (i := 25) rfl) rfl
theorem co_objectInit : Cond.code objectInit ⟨#[0xb1]⟩ 1 none ∈ wAll := tb_1 (List.mem_of_getElem? (i := 26) rfl) rfl
theorem cl_X6_9 : Cond.classLink RX6 9 RX2 ∈ wAll := tb_1 (List.mem_of_getElem? (i := 27) rfl) rfl
theorem it_X2 : Cond.instantiable RX2 3 ∈ wAll := tb_1 (List.mem_of_getElem? (i := 28) rfl) rfl
theorem im_X2_init : Cond.instanceMethod yX2_init ∈ wAll := tb_1 (List.mem_of_getElem? (i := 30) rfl) rfl
theorem co_X2_init : Cond.code yX2_init cX2_init 1 none ∈ wAll := tb_1 (List.mem_of_getElem? (i := 31) rfl) rfl
theorem ml_X2_3 : Cond.methodLink RX2 3 objectInit ∈ wAll := tb_1 (List.mem_of_getElem? (i := 32) rfl) rfl
theorem cl_X2_9 : Cond.classLink RX2 9 RX3 ∈ wAll := tb_1 (List.mem_of_getElem? (i := 33) rfl) rfl
theorem it_X3 : Cond.instantiable RX3 6 ∈ wAll := tb_1 (List.mem_of_getElem? (i := 34) rfl) rfl
theorem ml_X2_11 : Cond.methodLink RX2 11 yX3_init ∈ wAll := tb_1 (List.mem_of_getElem? (i := 35) rfl) rfl
theorem im_X3_init : Cond.instanceMethod yX3_init ∈ wAll := tb_1 (List.mem_of_getElem? (i := 36) rfl) rfl
theorem co_X3_init : Cond.code yX3_init cX3_init 1 none ∈ wAll := tb_1 (List.mem_of_getElem? (i := 37) rfl) rfl
theorem ml_X3_3 : Cond.methodLink RX3 3 objectInit ∈ wAll := tb_1 (List.mem_of_getElem? (i := 38) rfl) rfl
theorem ml_X3_24 : Cond.methodLink RX3 24 yJ7_fill_53178 ∈ wAll := tb_1 (List.mem_of_getElem? (i := 39) rfl) rfl
theorem st_J7_fill_53178 : Cond.static yJ7_fill_53178 ∈ wAll := tb_1 (List.mem_of_getElem? (i := 40) rfl) rfl
theorem co_J7_fill_53178 : Cond.code yJ7_fill_53178 cJ7_fill_53178 4 none ∈ wAll := tb_1 (List.mem_of_getElem? (i := 41) rfl) rfl
theorem fl_X3_9 : Cond.fieldLink RX3 9 "SeenPages$Table" "values" "[I" ∈ wAll := tb_1 (List.mem_of_getElem? (i := 42) rfl) rfl
theorem fl_X6_78 : Cond.fieldLink RX6 78 "SeenPages$Table" "values" "[I" ∈ wAll := tb_1 (List.mem_of_getElem? (i := 43) rfl) rfl
theorem fl_X3_15 : Cond.fieldLink RX3 15 "SeenPages$Table" "cameBy" "[I" ∈ wAll := tb_1 (List.mem_of_getElem? (i := 44) rfl) rfl
theorem fl_X6_233 : Cond.fieldLink RX6 233 "SeenPages$Table" "cameBy" "[I" ∈ wAll := tb_1 (List.mem_of_getElem? (i := 45) rfl) rfl
theorem fl_X3_18 : Cond.fieldLink RX3 18 "SeenPages$Table" "wentBy" "[I" ∈ wAll := tb_1 (List.mem_of_getElem? (i := 46) rfl) rfl
theorem fl_X6_236 : Cond.fieldLink RX6 236 "SeenPages$Table" "wentBy" "[I" ∈ wAll := tb_1 (List.mem_of_getElem? (i := 47) rfl) rfl
theorem fl_X3_21 : Cond.fieldLink RX3 21 "SeenPages$Table" "markedBy" "[I" ∈ wAll := tb_1 (List.mem_of_getElem? (i := 48) rfl) rfl
theorem fl_X6_251 : Cond.fieldLink RX6 251 "SeenPages$Table" "markedBy" "[I" ∈ wAll := tb_1 (List.mem_of_getElem? (i := 49) rfl) rfl
theorem fl_X3_36 : Cond.fieldLink RX3 36 "SeenPages$Table" "clock" "I" ∈ wAll := tb_1 (List.mem_of_getElem? (i := 50) rfl) rfl
theorem fl_X2_42 : Cond.fieldLink RX2 42 "SeenPages$Table" "clock" "I" ∈ wAll := tb_1 (List.mem_of_getElem? (i := 51) rfl) rfl
theorem fl_X6_99 : Cond.fieldLink RX6 99 "SeenPages$Table" "clock" "I" ∈ wAll := tb_1 (List.mem_of_getElem? (i := 52) rfl) rfl
theorem fl_X3_40 : Cond.fieldLink RX3 40 "SeenPages$Table" "takenOut" "I" ∈ wAll := tb_1 (List.mem_of_getElem? (i := 53) rfl) rfl
theorem fl_X6_261 : Cond.fieldLink RX6 261 "SeenPages$Table" "takenOut" "I" ∈ wAll := tb_1 (List.mem_of_getElem? (i := 54) rfl) rfl
theorem ac_int : Cond.arrayClass .int ∈ wAll := tb_1 (List.mem_of_getElem? (i := 68) rfl) rfl
theorem cl_X2_18 : Cond.classLink RX2 18 RX0 ∈ wAll := tb_1 (List.mem_of_getElem? (i := 69) rfl) rfl
theorem it_X0 : Cond.instantiable RX0 2 ∈ wAll := tb_1 (List.mem_of_getElem? (i := 70) rfl) rfl
theorem ml_X2_20 : Cond.methodLink RX2 20 yX0_init ∈ wAll := tb_1 (List.mem_of_getElem? (i := 71) rfl) rfl
theorem im_X0_init : Cond.instanceMethod yX0_init ∈ wAll := tb_1 (List.mem_of_getElem? (i := 72) rfl) rfl
theorem co_X0_init : Cond.code yX0_init cX0_init 1 none ∈ wAll := tb_1 (List.mem_of_getElem? (i := 73) rfl) rfl
theorem ml_X0_3 : Cond.methodLink RX0 3 objectInit ∈ wAll := tb_1 (List.mem_of_getElem? (i := 74) rfl) rfl
theorem ml_X0_18 : Cond.methodLink RX0 18 yJ7_fill_53178 ∈ wAll := tb_1 (List.mem_of_getElem? (i := 75) rfl) rfl
theorem fl_X0_9 : Cond.fieldLink RX0 9 "SeenPages$Askers" "snapshots" "[I" ∈ wAll := tb_1 (List.mem_of_getElem? (i := 76) rfl) rfl
theorem fl_X6_94 : Cond.fieldLink RX6 94 "SeenPages$Askers" "snapshots" "[I" ∈ wAll := tb_1 (List.mem_of_getElem? (i := 77) rfl) rfl
theorem fl_X0_15 : Cond.fieldLink RX0 15 "SeenPages$Askers" "asked" "[I" ∈ wAll := tb_1 (List.mem_of_getElem? (i := 78) rfl) rfl
theorem fl_X6_119 : Cond.fieldLink RX6 119 "SeenPages$Askers" "asked" "[I" ∈ wAll := tb_1 (List.mem_of_getElem? (i := 79) rfl) rfl
theorem cl_X2_25 : Cond.classLink RX2 25 RX4 ∈ wAll := tb_1 (List.mem_of_getElem? (i := 85) rfl) rfl
theorem it_X4 : Cond.instantiable RX4 3 ∈ wAll := tb_1 (List.mem_of_getElem? (i := 86) rfl) rfl
theorem im_X4_init : Cond.instanceMethod yX4_init ∈ wAll := tb_1 (List.mem_of_getElem? (i := 88) rfl) rfl
theorem co_X4_init : Cond.code yX4_init cX4_init 1 none ∈ wAll := tb_1 (List.mem_of_getElem? (i := 89) rfl) rfl
theorem ml_X4_3 : Cond.methodLink RX4 3 objectInit ∈ wAll := tb_1 (List.mem_of_getElem? (i := 90) rfl) rfl
theorem fl_X4_9 : Cond.fieldLink RX4 9 "SeenPages$Tally" "asked" "[I" ∈ wAll := tb_1 (List.mem_of_getElem? (i := 91) rfl) rfl
theorem fl_X6_254 : Cond.fieldLink RX6 254 "SeenPages$Tally" "asked" "[I" ∈ wAll := tb_1 (List.mem_of_getElem? (i := 92) rfl) rfl
theorem fl_X4_21 : Cond.fieldLink RX4 21 "SeenPages$Tally" "marksNotTrusted" "I" ∈ wAll := tb_1 (List.mem_of_getElem? (i := 93) rfl) rfl
theorem fl_X6_255 : Cond.fieldLink RX6 255 "SeenPages$Tally" "marksNotTrusted" "I" ∈ wAll := tb_1 (List.mem_of_getElem? (i := 94) rfl) rfl
theorem fl_X4_25 : Cond.fieldLink RX4 25 "SeenPages$Tally" "costs" "I" ∈ wAll := tb_1 (List.mem_of_getElem? (i := 95) rfl) rfl
theorem fl_X6_258 : Cond.fieldLink RX6 258 "SeenPages$Tally" "costs" "I" ∈ wAll := tb_1 (List.mem_of_getElem? (i := 96) rfl) rfl
theorem fl_X2_12 : Cond.fieldLink RX2 12 "SeenPages$State" "table" "LSeenPages$Table;" ∈ wAll := tb_1 (List.mem_of_getElem? (i := 104) rfl) rfl
theorem fl_X6_41 : Cond.fieldLink RX6 41 "SeenPages$State" "table" "LSeenPages$Table;" ∈ wAll := tb_1 (List.mem_of_getElem? (i := 105) rfl) rfl
theorem fl_X2_21 : Cond.fieldLink RX2 21 "SeenPages$State" "askers" "LSeenPages$Askers;" ∈ wAll := tb_1 (List.mem_of_getElem? (i := 106) rfl) rfl
theorem fl_X6_90 : Cond.fieldLink RX6 90 "SeenPages$State" "askers" "LSeenPages$Askers;" ∈ wAll := tb_1 (List.mem_of_getElem? (i := 107) rfl) rfl
theorem fl_X2_28 : Cond.fieldLink RX2 28 "SeenPages$State" "tally" "LSeenPages$Tally;" ∈ wAll := tb_1 (List.mem_of_getElem? (i := 108) rfl) rfl
theorem fl_X6_122 : Cond.fieldLink RX6 122 "SeenPages$State" "tally" "LSeenPages$Tally;" ∈ wAll := tb_1 (List.mem_of_getElem? (i := 109) rfl) rfl
theorem cl_X6_16 : Cond.classLink RX6 16 RX1 ∈ wAll := tb_1 (List.mem_of_getElem? (i := 117) rfl) rfl
theorem it_X1 : Cond.instantiable RX1 3 ∈ wAll := tb_1 (List.mem_of_getElem? (i := 118) rfl) rfl
theorem ml_X6_18 : Cond.methodLink RX6 18 yX1_init ∈ wAll := tb_1 (List.mem_of_getElem? (i := 119) rfl) rfl
theorem im_X1_init : Cond.instanceMethod yX1_init ∈ wAll := tb_1 (List.mem_of_getElem? (i := 120) rfl) rfl
theorem co_X1_init : Cond.code yX1_init cX1_init 2 none ∈ wAll := tb_1 (List.mem_of_getElem? (i := 121) rfl) rfl
theorem ml_X1_3 : Cond.methodLink RX1 3 objectInit ∈ wAll := tb_1 (List.mem_of_getElem? (i := 122) rfl) rfl
theorem cl_X1_9 : Cond.classLink RX1 9 RX2 ∈ wAll := tb_1 (List.mem_of_getElem? (i := 123) rfl) rfl
theorem fl_X1_11 : Cond.fieldLink RX1 11 "SeenPages$History" "rows" "[LSeenPages$State;" ∈ wAll := tb_1 (List.mem_of_getElem? (i := 126) rfl) rfl
theorem fl_X1_18 : Cond.fieldLink RX1 18 "SeenPages$History" "next" "I" ∈ wAll := tb_1 (List.mem_of_getElem? (i := 127) rfl) rfl
theorem fl_X1_26 : Cond.fieldLink RX1 26 "SeenPages$History" "size" "I" ∈ wAll := tb_1 (List.mem_of_getElem? (i := 128) rfl) rfl
theorem fl_X6_166 : Cond.fieldLink RX6 166 "SeenPages$History" "size" "I" ∈ wAll := tb_1 (List.mem_of_getElem? (i := 129) rfl) rfl
theorem cl_X6_23 : Cond.classLink RX6 23 RX5 ∈ wAll := tb_1 (List.mem_of_getElem? (i := 137) rfl) rfl
theorem it_X5 : Cond.instantiable RX5 6 ∈ wAll := tb_1 (List.mem_of_getElem? (i := 138) rfl) rfl
theorem im_X5_init : Cond.instanceMethod yX5_init ∈ wAll := tb_1 (List.mem_of_getElem? (i := 140) rfl) rfl
theorem co_X5_init : Cond.code yX5_init cX5_init 1 none ∈ wAll := tb_1 (List.mem_of_getElem? (i := 141) rfl) rfl
theorem ml_X5_3 : Cond.methodLink RX5 3 objectInit ∈ wAll := tb_1 (List.mem_of_getElem? (i := 142) rfl) rfl
theorem fl_X5_9 : Cond.fieldLink RX5 9 "SeenPages$Text" "signs" "[C" ∈ wAll := tb_1 (List.mem_of_getElem? (i := 143) rfl) rfl
theorem fl_X5_15 : Cond.fieldLink RX5 15 "SeenPages$Text" "length" "I" ∈ wAll := tb_1 (List.mem_of_getElem? (i := 144) rfl) rfl
theorem fl_X6_144 : Cond.fieldLink RX6 144 "SeenPages$Text" "length" "I" ∈ wAll := tb_1 (List.mem_of_getElem? (i := 145) rfl) rfl
theorem fl_X5_19 : Cond.fieldLink RX5 19 "SeenPages$Text" "at" "I" ∈ wAll := tb_1 (List.mem_of_getElem? (i := 146) rfl) rfl
theorem fl_X6_158 : Cond.fieldLink RX6 158 "SeenPages$Text" "at" "I" ∈ wAll := tb_1 (List.mem_of_getElem? (i := 147) rfl) rfl
theorem fl_X5_37 : Cond.fieldLink RX5 37 "SeenPages$Text" "kind" "C" ∈ wAll := tb_1 (List.mem_of_getElem? (i := 148) rfl) rfl
theorem fl_X6_275 : Cond.fieldLink RX6 275 "SeenPages$Text" "kind" "C" ∈ wAll := tb_1 (List.mem_of_getElem? (i := 149) rfl) rfl
theorem fl_X5_55 : Cond.fieldLink RX5 55 "SeenPages$Text" "place" "I" ∈ wAll := tb_1 (List.mem_of_getElem? (i := 150) rfl) rfl
theorem fl_X6_279 : Cond.fieldLink RX6 279 "SeenPages$Text" "place" "I" ∈ wAll := tb_1 (List.mem_of_getElem? (i := 151) rfl) rfl
theorem fl_X5_52 : Cond.fieldLink RX5 52 "SeenPages$Text" "digit" "I" ∈ wAll := tb_1 (List.mem_of_getElem? (i := 152) rfl) rfl
theorem fl_X6_282 : Cond.fieldLink RX6 282 "SeenPages$Text" "digit" "I" ∈ wAll := tb_1 (List.mem_of_getElem? (i := 153) rfl) rfl
theorem ac_char : Cond.arrayClass .char ∈ wAll := tb_1 (List.mem_of_getElem? (i := 167) rfl) rfl
theorem fl_X6_12 : Cond.fieldLink RX6 12 "SeenPages" "state" "LSeenPages$State;" ∈ wAll := tb_1 (List.mem_of_getElem? (i := 168) rfl) rfl
theorem fl_X6_19 : Cond.fieldLink RX6 19 "SeenPages" "history" "LSeenPages$History;" ∈ wAll := tb_1 (List.mem_of_getElem? (i := 169) rfl) rfl
theorem fl_X6_26 : Cond.fieldLink RX6 26 "SeenPages" "text" "LSeenPages$Text;" ∈ wAll := tb_1 (List.mem_of_getElem? (i := 170) rfl) rfl
theorem ml_L_100 : Cond.methodLink RL 100 yX6_sweepAll ∈ wAll := tb_1 (List.mem_of_getElem? (i := 178) rfl) rfl
theorem im_X6_sweepAll : Cond.instanceMethod yX6_sweepAll ∈ wAll := tb_1 (List.mem_of_getElem? (i := 179) rfl) rfl
theorem se_X6_sweepAll : Cond.selects RX6 yX6_sweepAll yX6_sweepAll ∈ wAll := tb_1 (List.mem_of_getElem? (i := 180) rfl) rfl
theorem co_X6_sweepAll : Cond.code yX6_sweepAll cX6_sweepAll 3 (some .int) ∈ wAll := tb_1 (List.mem_of_getElem? (i := 181) rfl) rfl
theorem ml_X6_56 : Cond.methodLink RX6 56 yX1_save ∈ wAll := tb_1 (List.mem_of_getElem? (i := 182) rfl) rfl
theorem im_X1_save : Cond.instanceMethod yX1_save ∈ wAll := tb_1 (List.mem_of_getElem? (i := 183) rfl) rfl
theorem se_X1_save : Cond.selects RX1 yX1_save yX1_save ∈ wAll := tb_1 (List.mem_of_getElem? (i := 184) rfl) rfl
theorem co_X1_save : Cond.code yX1_save cX1_save 2 none ∈ wAll := tb_1 (List.mem_of_getElem? (i := 185) rfl) rfl
theorem ml_X1_22 : Cond.methodLink RX1 22 yX2_copyFrom ∈ wAll := tb_1 (List.mem_of_getElem? (i := 186) rfl) rfl
theorem im_X2_copyFrom : Cond.instanceMethod yX2_copyFrom ∈ wAll := tb_1 (List.mem_of_getElem? (i := 187) rfl) rfl
theorem se_X2_copyFrom : Cond.selects RX2 yX2_copyFrom yX2_copyFrom ∈ wAll := tb_1 (List.mem_of_getElem? (i := 188) rfl) rfl
theorem co_X2_copyFrom : Cond.code yX2_copyFrom cX2_copyFrom 2 none ∈ wAll := tb_1 (List.mem_of_getElem? (i := 189) rfl) rfl
theorem ml_X2_32 : Cond.methodLink RX2 32 yX3_copyFrom ∈ wAll := tb_1 (List.mem_of_getElem? (i := 190) rfl) rfl
theorem im_X3_copyFrom : Cond.instanceMethod yX3_copyFrom ∈ wAll := tb_1 (List.mem_of_getElem? (i := 191) rfl) rfl
theorem se_X3_copyFrom : Cond.selects RX3 yX3_copyFrom yX3_copyFrom ∈ wAll := tb_1 (List.mem_of_getElem? (i := 192) rfl) rfl
theorem co_X3_copyFrom : Cond.code yX3_copyFrom cX3_copyFrom 2 none ∈ wAll := tb_1 (List.mem_of_getElem? (i := 193) rfl) rfl
theorem ml_X3_30 : Cond.methodLink RX3 30 arraycopyName ∈ wAll := tb_1 (List.mem_of_getElem? (i := 194) rfl) rfl
theorem st_arraycopy : Cond.static arraycopyName ∈ wAll := tb_1 (List.mem_of_getElem? (i := 195) rfl) rfl
theorem na_arraycopy : Cond.native arraycopyName ∈ wAll := tb_1 (List.mem_of_getElem? (i := 196) rfl) rfl
theorem ml_X2_36 : Cond.methodLink RX2 36 yX0_copyFrom ∈ wAll := tb_1 (List.mem_of_getElem? (i := 197) rfl) rfl
theorem im_X0_copyFrom : Cond.instanceMethod yX0_copyFrom ∈ wAll := tb_1 (List.mem_of_getElem? (i := 198) rfl) rfl
theorem se_X0_copyFrom : Cond.selects RX0 yX0_copyFrom yX0_copyFrom ∈ wAll := tb_1 (List.mem_of_getElem? (i := 199) rfl) rfl
theorem co_X0_copyFrom : Cond.code yX0_copyFrom cX0_copyFrom 2 none ∈ wAll := tb_1 (List.mem_of_getElem? (i := 200) rfl) rfl
theorem ml_X0_24 : Cond.methodLink RX0 24 arraycopyName ∈ wAll := tb_1 (List.mem_of_getElem? (i := 201) rfl) rfl
theorem ml_X2_39 : Cond.methodLink RX2 39 yX4_copyFrom ∈ wAll := tb_1 (List.mem_of_getElem? (i := 202) rfl) rfl
theorem im_X4_copyFrom : Cond.instanceMethod yX4_copyFrom ∈ wAll := tb_1 (List.mem_of_getElem? (i := 203) rfl) rfl
theorem se_X4_copyFrom : Cond.selects RX4 yX4_copyFrom yX4_copyFrom ∈ wAll := tb_1 (List.mem_of_getElem? (i := 204) rfl) rfl
theorem co_X4_copyFrom : Cond.code yX4_copyFrom cX4_copyFrom 2 none ∈ wAll := tb_1 (List.mem_of_getElem? (i := 205) rfl) rfl
theorem ml_X4_15 : Cond.methodLink RX4 15 arraycopyName ∈ wAll := tb_1 (List.mem_of_getElem? (i := 206) rfl) rfl
theorem ml_X6_107 : Cond.methodLink RX6 107 yX2_horizon ∈ wAll := tb_1 (List.mem_of_getElem? (i := 207) rfl) rfl
theorem im_X2_horizon : Cond.instanceMethod yX2_horizon ∈ wAll := tb_1 (List.mem_of_getElem? (i := 208) rfl) rfl
theorem se_X2_horizon : Cond.selects RX2 yX2_horizon yX2_horizon ∈ wAll := tb_1 (List.mem_of_getElem? (i := 209) rfl) rfl
theorem co_X2_horizon : Cond.code yX2_horizon cX2_horizon 1 (some .int) ∈ wAll := tb_1 (List.mem_of_getElem? (i := 210) rfl) rfl
theorem ml_X2_46 : Cond.methodLink RX2 46 yX0_horizonWithout ∈ wAll := tb_1 (List.mem_of_getElem? (i := 211) rfl) rfl
theorem im_X0_horizonWithout : Cond.instanceMethod yX0_horizonWithout ∈ wAll := tb_1 (List.mem_of_getElem? (i := 212) rfl) rfl
theorem se_X0_horizonWithout : Cond.selects RX0 yX0_horizonWithout yX0_horizonWithout ∈ wAll := tb_1 (List.mem_of_getElem? (i := 213) rfl) rfl
theorem co_X0_horizonWithout : Cond.code yX0_horizonWithout cX0_horizonWithout 5 (some .int) ∈ wAll := tb_1 (List.mem_of_getElem? (i := 214) rfl) rfl
theorem ml_X6_111 : Cond.methodLink RX6 111 yX3_sweepPage ∈ wAll := tb_1 (List.mem_of_getElem? (i := 215) rfl) rfl
theorem im_X3_sweepPage : Cond.instanceMethod yX3_sweepPage ∈ wAll := tb_1 (List.mem_of_getElem? (i := 216) rfl) rfl
theorem se_X3_sweepPage : Cond.selects RX3 yX3_sweepPage yX3_sweepPage ∈ wAll := tb_1 (List.mem_of_getElem? (i := 217) rfl) rfl
theorem co_X3_sweepPage : Cond.code yX3_sweepPage cX3_sweepPage 7 (some .int) ∈ wAll := tb_1 (List.mem_of_getElem? (i := 218) rfl) rfl
theorem ml_X3_63 : Cond.methodLink RX3 63 yX3_isToTakeOut ∈ wAll := tb_1 (List.mem_of_getElem? (i := 219) rfl) rfl
theorem im_X3_isToTakeOut : Cond.instanceMethod yX3_isToTakeOut ∈ wAll := tb_1 (List.mem_of_getElem? (i := 221) rfl) rfl
theorem co_X3_isToTakeOut : Cond.code yX3_isToTakeOut cX3_isToTakeOut 3 (some .boolean) ∈ wAll := tb_1 (List.mem_of_getElem? (i := 222) rfl) rfl
theorem ml_X3_66 : Cond.methodLink RX3 66 yX3_empty ∈ wAll := tb_1 (List.mem_of_getElem? (i := 223) rfl) rfl
theorem im_X3_empty : Cond.instanceMethod yX3_empty ∈ wAll := tb_1 (List.mem_of_getElem? (i := 225) rfl) rfl
theorem co_X3_empty : Cond.code yX3_empty cX3_empty 2 none ∈ wAll := tb_1 (List.mem_of_getElem? (i := 226) rfl) rfl
theorem ml_X3_69 : Cond.methodLink RX3 69 yX3_isSeenByAll ∈ wAll := tb_1 (List.mem_of_getElem? (i := 227) rfl) rfl
theorem im_X3_isSeenByAll : Cond.instanceMethod yX3_isSeenByAll ∈ wAll := tb_1 (List.mem_of_getElem? (i := 229) rfl) rfl
theorem co_X3_isSeenByAll : Cond.code yX3_isSeenByAll cX3_isSeenByAll 3 (some .boolean) ∈ wAll := tb_1 (List.mem_of_getElem? (i := 230) rfl) rfl
theorem ml_X6_114 : Cond.methodLink RX6 114 yX3_markedPages ∈ wAll := tb_1 (List.mem_of_getElem? (i := 231) rfl) rfl
theorem im_X3_markedPages : Cond.instanceMethod yX3_markedPages ∈ wAll := tb_1 (List.mem_of_getElem? (i := 232) rfl) rfl
theorem se_X3_markedPages : Cond.selects RX3 yX3_markedPages yX3_markedPages ∈ wAll := tb_1 (List.mem_of_getElem? (i := 233) rfl) rfl
theorem co_X3_markedPages : Cond.code yX3_markedPages cX3_markedPages 3 (some .int) ∈ wAll := tb_1 (List.mem_of_getElem? (i := 234) rfl) rfl
theorem ml_X3_72 : Cond.methodLink RX3 72 yX3_isMarked ∈ wAll := tb_1 (List.mem_of_getElem? (i := 235) rfl) rfl
theorem im_X3_isMarked : Cond.instanceMethod yX3_isMarked ∈ wAll := tb_1 (List.mem_of_getElem? (i := 236) rfl) rfl
theorem se_X3_isMarked : Cond.selects RX3 yX3_isMarked yX3_isMarked ∈ wAll := tb_1 (List.mem_of_getElem? (i := 237) rfl) rfl
theorem co_X3_isMarked : Cond.code yX3_isMarked cX3_isMarked 2 (some .boolean) ∈ wAll := tb_1 (List.mem_of_getElem? (i := 238) rfl) rfl
theorem ml_L_111 : Cond.methodLink RL 111 yX6_clearBuffer ∈ wAll := tb_1 (List.mem_of_getElem? (i := 239) rfl) rfl
theorem im_X6_clearBuffer : Cond.instanceMethod yX6_clearBuffer ∈ wAll := tb_2 (List.mem_of_getElem? (i := 0) rfl) rfl
theorem se_X6_clearBuffer : Cond.selects RX6 yX6_clearBuffer yX6_clearBuffer ∈ wAll := tb_2 (List.mem_of_getElem? (i := 1) rfl) rfl
theorem co_X6_clearBuffer : Cond.code yX6_clearBuffer cX6_clearBuffer 1 (some .int) ∈ wAll := tb_2 (List.mem_of_getElem? (i := 2) rfl) rfl
theorem ml_X6_152 : Cond.methodLink RX6 152 yX5_wipe ∈ wAll := tb_2 (List.mem_of_getElem? (i := 3) rfl) rfl
theorem im_X5_wipe : Cond.instanceMethod yX5_wipe ∈ wAll := tb_2 (List.mem_of_getElem? (i := 4) rfl) rfl
theorem se_X5_wipe : Cond.selects RX5 yX5_wipe yX5_wipe ∈ wAll := tb_2 (List.mem_of_getElem? (i := 5) rfl) rfl
theorem co_X5_wipe : Cond.code yX5_wipe cX5_wipe 2 (some .int) ∈ wAll := tb_2 (List.mem_of_getElem? (i := 6) rfl) rfl
theorem ml_L_115 : Cond.methodLink RL 115 yX6_firstError ∈ wAll := tb_2 (List.mem_of_getElem? (i := 7) rfl) rfl
theorem im_X6_firstError : Cond.instanceMethod yX6_firstError ∈ wAll := tb_2 (List.mem_of_getElem? (i := 8) rfl) rfl
theorem se_X6_firstError : Cond.selects RX6 yX6_firstError yX6_firstError ∈ wAll := tb_2 (List.mem_of_getElem? (i := 9) rfl) rfl
theorem co_X6_firstError : Cond.code yX6_firstError cX6_firstError 1 (some .int) ∈ wAll := tb_2 (List.mem_of_getElem? (i := 10) rfl) rfl
theorem ml_X6_155 : Cond.methodLink RX6 155 yX5_readAll ∈ wAll := tb_2 (List.mem_of_getElem? (i := 11) rfl) rfl
theorem im_X5_readAll : Cond.instanceMethod yX5_readAll ∈ wAll := tb_2 (List.mem_of_getElem? (i := 12) rfl) rfl
theorem se_X5_readAll : Cond.selects RX5 yX5_readAll yX5_readAll ∈ wAll := tb_2 (List.mem_of_getElem? (i := 13) rfl) rfl
theorem co_X5_readAll : Cond.code yX5_readAll cX5_readAll 3 (some .boolean) ∈ wAll := tb_2 (List.mem_of_getElem? (i := 14) rfl) rfl
theorem ml_X5_22 : Cond.methodLink RX5 22 yX5_rewind ∈ wAll := tb_2 (List.mem_of_getElem? (i := 15) rfl) rfl
theorem im_X5_rewind : Cond.instanceMethod yX5_rewind ∈ wAll := tb_2 (List.mem_of_getElem? (i := 16) rfl) rfl
theorem se_X5_rewind : Cond.selects RX5 yX5_rewind yX5_rewind ∈ wAll := tb_2 (List.mem_of_getElem? (i := 17) rfl) rfl
theorem co_X5_rewind : Cond.code yX5_rewind cX5_rewind 1 none ∈ wAll := tb_2 (List.mem_of_getElem? (i := 18) rfl) rfl
theorem ml_X5_25 : Cond.methodLink RX5 25 yX5_readNext ∈ wAll := tb_2 (List.mem_of_getElem? (i := 19) rfl) rfl
theorem im_X5_readNext : Cond.instanceMethod yX5_readNext ∈ wAll := tb_2 (List.mem_of_getElem? (i := 20) rfl) rfl
theorem se_X5_readNext : Cond.selects RX5 yX5_readNext yX5_readNext ∈ wAll := tb_2 (List.mem_of_getElem? (i := 21) rfl) rfl
theorem co_X5_readNext : Cond.code yX5_readNext cX5_readNext 2 (some .boolean) ∈ wAll := tb_2 (List.mem_of_getElem? (i := 22) rfl) rfl
theorem ml_X5_29 : Cond.methodLink RX5 29 yX5_readSign ∈ wAll := tb_2 (List.mem_of_getElem? (i := 23) rfl) rfl
theorem im_X5_readSign : Cond.instanceMethod yX5_readSign ∈ wAll := tb_2 (List.mem_of_getElem? (i := 25) rfl) rfl
theorem co_X5_readSign : Cond.code yX5_readSign cX5_readSign 2 (some .boolean) ∈ wAll := tb_2 (List.mem_of_getElem? (i := 26) rfl) rfl
theorem ml_X5_33 : Cond.methodLink RX5 33 yX5_signAt ∈ wAll := tb_2 (List.mem_of_getElem? (i := 27) rfl) rfl
theorem im_X5_signAt : Cond.instanceMethod yX5_signAt ∈ wAll := tb_2 (List.mem_of_getElem? (i := 28) rfl) rfl
theorem se_X5_signAt : Cond.selects RX5 yX5_signAt yX5_signAt ∈ wAll := tb_2 (List.mem_of_getElem? (i := 29) rfl) rfl
theorem co_X5_signAt : Cond.code yX5_signAt cX5_signAt 2 (some .char) ∈ wAll := tb_2 (List.mem_of_getElem? (i := 30) rfl) rfl
theorem ml_X5_41 : Cond.methodLink RX5 41 yX5_readDigit ∈ wAll := tb_2 (List.mem_of_getElem? (i := 31) rfl) rfl
theorem im_X5_readDigit : Cond.instanceMethod yX5_readDigit ∈ wAll := tb_2 (List.mem_of_getElem? (i := 33) rfl) rfl
theorem co_X5_readDigit : Cond.code yX5_readDigit cX5_readDigit 3 (some .boolean) ∈ wAll := tb_2 (List.mem_of_getElem? (i := 34) rfl) rfl
theorem ml_X5_48 : Cond.methodLink RX5 48 yX5_digitHere ∈ wAll := tb_2 (List.mem_of_getElem? (i := 35) rfl) rfl
theorem im_X5_digitHere : Cond.instanceMethod yX5_digitHere ∈ wAll := tb_2 (List.mem_of_getElem? (i := 37) rfl) rfl
theorem co_X5_digitHere : Cond.code yX5_digitHere cX5_digitHere 2 (some .int) ∈ wAll := tb_2 (List.mem_of_getElem? (i := 38) rfl) rfl
theorem ml_X5_45 : Cond.methodLink RX5 45 yX5_readPlace ∈ wAll := tb_2 (List.mem_of_getElem? (i := 39) rfl) rfl
theorem im_X5_readPlace : Cond.instanceMethod yX5_readPlace ∈ wAll := tb_2 (List.mem_of_getElem? (i := 41) rfl) rfl
theorem co_X5_readPlace : Cond.code yX5_readPlace cX5_readPlace 3 (some .boolean) ∈ wAll := tb_2 (List.mem_of_getElem? (i := 42) rfl) rfl
theorem ml_L_148 : Cond.methodLink RL 148 yX6_holder ∈ wAll := tb_2 (List.mem_of_getElem? (i := 43) rfl) rfl
theorem im_X6_holder : Cond.instanceMethod yX6_holder ∈ wAll := tb_2 (List.mem_of_getElem? (i := 44) rfl) rfl
theorem se_X6_holder : Cond.selects RX6 yX6_holder yX6_holder ∈ wAll := tb_2 (List.mem_of_getElem? (i := 45) rfl) rfl
theorem co_X6_holder : Cond.code yX6_holder cX6_holder 1 (some .int) ∈ wAll := tb_2 (List.mem_of_getElem? (i := 46) rfl) rfl
theorem ml_X6_204 : Cond.methodLink RX6 204 yX6_mostHolding ∈ wAll := tb_2 (List.mem_of_getElem? (i := 47) rfl) rfl
theorem im_X6_mostHolding : Cond.instanceMethod yX6_mostHolding ∈ wAll := tb_2 (List.mem_of_getElem? (i := 49) rfl) rfl
theorem co_X6_mostHolding : Cond.code yX6_mostHolding cX6_mostHolding 6 (some .int) ∈ wAll := tb_2 (List.mem_of_getElem? (i := 50) rfl) rfl
theorem ml_X6_248 : Cond.methodLink RX6 248 yX3_versionsToTakeOut ∈ wAll := tb_2 (List.mem_of_getElem? (i := 51) rfl) rfl
theorem im_X3_versionsToTakeOut : Cond.instanceMethod yX3_versionsToTakeOut ∈ wAll := tb_2 (List.mem_of_getElem? (i := 52) rfl) rfl
theorem se_X3_versionsToTakeOut : Cond.selects RX3 yX3_versionsToTakeOut yX3_versionsToTakeOut ∈ wAll := tb_2 (List.mem_of_getElem? (i := 53) rfl) rfl
theorem co_X3_versionsToTakeOut : Cond.code yX3_versionsToTakeOut cX3_versionsToTakeOut 6 (some .int) ∈ wAll := tb_2 (List.mem_of_getElem? (i := 54) rfl) rfl
theorem ml_X6_264 : Cond.methodLink RX6 264 yX0_horizonWithout ∈ wAll := tb_2 (List.mem_of_getElem? (i := 55) rfl) rfl
theorem ml_L_152 : Cond.methodLink RL 152 yX6_marked ∈ wAll := tb_2 (List.mem_of_getElem? (i := 56) rfl) rfl
theorem im_X6_marked : Cond.instanceMethod yX6_marked ∈ wAll := tb_2 (List.mem_of_getElem? (i := 57) rfl) rfl
theorem se_X6_marked : Cond.selects RX6 yX6_marked yX6_marked ∈ wAll := tb_2 (List.mem_of_getElem? (i := 58) rfl) rfl
theorem co_X6_marked : Cond.code yX6_marked cX6_marked 1 (some .double) ∈ wAll := tb_2 (List.mem_of_getElem? (i := 59) rfl) rfl
theorem ml_X6_207 : Cond.methodLink RX6 207 yX6_markedShare ∈ wAll := tb_2 (List.mem_of_getElem? (i := 60) rfl) rfl
theorem im_X6_markedShare : Cond.instanceMethod yX6_markedShare ∈ wAll := tb_2 (List.mem_of_getElem? (i := 62) rfl) rfl
theorem co_X6_markedShare : Cond.code yX6_markedShare cX6_markedShare 1 (some .double) ∈ wAll := tb_2 (List.mem_of_getElem? (i := 63) rfl) rfl
theorem kc_X6_267 : Cond.constantDouble RX6 267 (4618441417868443648) ∈ wAll := tb_2 (List.mem_of_getElem? (i := 64) rfl) rfl
theorem ml_L_157 : Cond.methodLink RL 157 yX6_digest ∈ wAll := tb_2 (List.mem_of_getElem? (i := 65) rfl) rfl
theorem im_X6_digest : Cond.instanceMethod yX6_digest ∈ wAll := tb_2 (List.mem_of_getElem? (i := 66) rfl) rfl
theorem se_X6_digest : Cond.selects RX6 yX6_digest yX6_digest ∈ wAll := tb_2 (List.mem_of_getElem? (i := 67) rfl) rfl
theorem co_X6_digest : Cond.code yX6_digest cX6_digest 4 (some .long) ∈ wAll := tb_2 (List.mem_of_getElem? (i := 68) rfl) rfl
theorem kc_X6_211 : Cond.constantLong RX6 211 (3467) ∈ wAll := tb_2 (List.mem_of_getElem? (i := 69) rfl) rfl
theorem ml_X6_191 : Cond.methodLink RX6 191 yX6_countNumber ∈ wAll := tb_2 (List.mem_of_getElem? (i := 70) rfl) rfl
theorem im_X6_countNumber : Cond.instanceMethod yX6_countNumber ∈ wAll := tb_2 (List.mem_of_getElem? (i := 72) rfl) rfl
theorem co_X6_countNumber : Cond.code yX6_countNumber cX6_countNumber 3 (some .int) ∈ wAll := tb_2 (List.mem_of_getElem? (i := 73) rfl) rfl
theorem ml_X6_242 : Cond.methodLink RX6 242 yX3_versions ∈ wAll := tb_2 (List.mem_of_getElem? (i := 74) rfl) rfl
theorem im_X3_versions : Cond.instanceMethod yX3_versions ∈ wAll := tb_2 (List.mem_of_getElem? (i := 75) rfl) rfl
theorem se_X3_versions : Cond.selects RX3 yX3_versions yX3_versions ∈ wAll := tb_2 (List.mem_of_getElem? (i := 76) rfl) rfl
theorem co_X3_versions : Cond.code yX3_versions cX3_versions 5 (some .int) ∈ wAll := tb_2 (List.mem_of_getElem? (i := 77) rfl) rfl
theorem ml_X6_245 : Cond.methodLink RX6 245 yX3_versionsSeen ∈ wAll := tb_2 (List.mem_of_getElem? (i := 78) rfl) rfl
theorem im_X3_versionsSeen : Cond.instanceMethod yX3_versionsSeen ∈ wAll := tb_2 (List.mem_of_getElem? (i := 79) rfl) rfl
theorem se_X3_versionsSeen : Cond.selects RX3 yX3_versionsSeen yX3_versionsSeen ∈ wAll := tb_2 (List.mem_of_getElem? (i := 80) rfl) rfl
theorem co_X3_versionsSeen : Cond.code yX3_versionsSeen cX3_versionsSeen 6 (some .int) ∈ wAll := tb_2 (List.mem_of_getElem? (i := 81) rfl) rfl
theorem ml_X3_43 : Cond.methodLink RX3 43 yX3_isSeen ∈ wAll := tb_2 (List.mem_of_getElem? (i := 82) rfl) rfl
theorem im_X3_isSeen : Cond.instanceMethod yX3_isSeen ∈ wAll := tb_2 (List.mem_of_getElem? (i := 83) rfl) rfl
theorem se_X3_isSeen : Cond.selects RX3 yX3_isSeen yX3_isSeen ∈ wAll := tb_2 (List.mem_of_getElem? (i := 84) rfl) rfl
theorem co_X3_isSeen : Cond.code yX3_isSeen cX3_isSeen 3 (some .boolean) ∈ wAll := tb_2 (List.mem_of_getElem? (i := 85) rfl) rfl
theorem ml_X6_213 : Cond.methodLink RX6 213 yX6_mix ∈ wAll := tb_2 (List.mem_of_getElem? (i := 86) rfl) rfl
theorem st_X6_mix : Cond.static yX6_mix ∈ wAll := tb_2 (List.mem_of_getElem? (i := 87) rfl) rfl
theorem co_X6_mix : Cond.code yX6_mix cX6_mix 4 (some .long) ∈ wAll := tb_2 (List.mem_of_getElem? (i := 88) rfl) rfl
theorem kc_X6_289 : Cond.constantLong RX6 289 (31) ∈ wAll := tb_2 (List.mem_of_getElem? (i := 89) rfl) rfl
theorem ml_X6_217 : Cond.methodLink RX6 217 yX6_mixParts ∈ wAll := tb_2 (List.mem_of_getElem? (i := 90) rfl) rfl
theorem im_X6_mixParts : Cond.instanceMethod yX6_mixParts ∈ wAll := tb_2 (List.mem_of_getElem? (i := 92) rfl) rfl
theorem co_X6_mixParts : Cond.code yX6_mixParts cX6_mixParts 7 (some .long) ∈ wAll := tb_2 (List.mem_of_getElem? (i := 93) rfl) rfl
theorem ml_X6_176 : Cond.methodLink RX6 176 yX6_slotNumber ∈ wAll := tb_2 (List.mem_of_getElem? (i := 94) rfl) rfl
theorem im_X6_slotNumber : Cond.instanceMethod yX6_slotNumber ∈ wAll := tb_2 (List.mem_of_getElem? (i := 96) rfl) rfl
theorem co_X6_slotNumber : Cond.code yX6_slotNumber cX6_slotNumber 4 (some .int) ∈ wAll := tb_2 (List.mem_of_getElem? (i := 97) rfl) rfl
theorem ml_X6_69 : Cond.methodLink RX6 69 yX3_isSeenNow ∈ wAll := tb_2 (List.mem_of_getElem? (i := 98) rfl) rfl
theorem im_X3_isSeenNow : Cond.instanceMethod yX3_isSeenNow ∈ wAll := tb_2 (List.mem_of_getElem? (i := 99) rfl) rfl
theorem se_X3_isSeenNow : Cond.selects RX3 yX3_isSeenNow yX3_isSeenNow ∈ wAll := tb_2 (List.mem_of_getElem? (i := 100) rfl) rfl
theorem co_X3_isSeenNow : Cond.code yX3_isSeenNow cX3_isSeenNow 2 (some .boolean) ∈ wAll := tb_2 (List.mem_of_getElem? (i := 101) rfl) rfl
theorem ml_X6_181 : Cond.methodLink RX6 181 yX6_pageNumber ∈ wAll := tb_2 (List.mem_of_getElem? (i := 102) rfl) rfl
theorem im_X6_pageNumber : Cond.instanceMethod yX6_pageNumber ∈ wAll := tb_2 (List.mem_of_getElem? (i := 104) rfl) rfl
theorem co_X6_pageNumber : Cond.code yX6_pageNumber cX6_pageNumber 6 (some .int) ∈ wAll := tb_2 (List.mem_of_getElem? (i := 105) rfl) rfl
theorem ml_X6_239 : Cond.methodLink RX6 239 yX3_isMarked ∈ wAll := tb_2 (List.mem_of_getElem? (i := 106) rfl) rfl
theorem ml_X6_186 : Cond.methodLink RX6 186 yX6_askerNumber ∈ wAll := tb_2 (List.mem_of_getElem? (i := 107) rfl) rfl
theorem im_X6_askerNumber : Cond.instanceMethod yX6_askerNumber ∈ wAll := tb_2 (List.mem_of_getElem? (i := 109) rfl) rfl
theorem co_X6_askerNumber : Cond.code yX6_askerNumber cX6_askerNumber 4 (some .int) ∈ wAll := tb_2 (List.mem_of_getElem? (i := 110) rfl) rfl
theorem ml_X6_221 : Cond.methodLink RX6 221 yX6_mixValue ∈ wAll := tb_2 (List.mem_of_getElem? (i := 111) rfl) rfl
theorem im_X6_mixValue : Cond.instanceMethod yX6_mixValue ∈ wAll := tb_2 (List.mem_of_getElem? (i := 113) rfl) rfl
theorem co_X6_mixValue : Cond.code yX6_mixValue cX6_mixValue 8 (some .long) ∈ wAll := tb_2 (List.mem_of_getElem? (i := 114) rfl) rfl
theorem ml_X6_139 : Cond.methodLink RX6 139 yX3_answer ∈ wAll := tb_2 (List.mem_of_getElem? (i := 115) rfl) rfl
theorem im_X3_answer : Cond.instanceMethod yX3_answer ∈ wAll := tb_2 (List.mem_of_getElem? (i := 116) rfl) rfl
theorem se_X3_answer : Cond.selects RX3 yX3_answer yX3_answer ∈ wAll := tb_2 (List.mem_of_getElem? (i := 117) rfl) rfl
theorem co_X3_answer : Cond.code yX3_answer cX3_answer 7 (some .int) ∈ wAll := tb_2 (List.mem_of_getElem? (i := 118) rfl) rfl
theorem ml_X3_75 : Cond.methodLink RX3 75 yX3_mayTrustMarks ∈ wAll := tb_2 (List.mem_of_getElem? (i := 119) rfl) rfl
theorem im_X3_mayTrustMarks : Cond.instanceMethod yX3_mayTrustMarks ∈ wAll := tb_2 (List.mem_of_getElem? (i := 120) rfl) rfl
theorem se_X3_mayTrustMarks : Cond.selects RX3 yX3_mayTrustMarks yX3_mayTrustMarks ∈ wAll := tb_2 (List.mem_of_getElem? (i := 121) rfl) rfl
theorem co_X3_mayTrustMarks : Cond.code yX3_mayTrustMarks cX3_mayTrustMarks 3 (some .boolean) ∈ wAll := tb_2 (List.mem_of_getElem? (i := 122) rfl) rfl
theorem ml_X6_126 : Cond.methodLink RX6 126 yX3_cost ∈ wAll := tb_2 (List.mem_of_getElem? (i := 123) rfl) rfl
theorem im_X3_cost : Cond.instanceMethod yX3_cost ∈ wAll := tb_2 (List.mem_of_getElem? (i := 124) rfl) rfl
theorem se_X3_cost : Cond.selects RX3 yX3_cost yX3_cost ∈ wAll := tb_2 (List.mem_of_getElem? (i := 125) rfl) rfl
theorem co_X3_cost : Cond.code yX3_cost cX3_cost 7 (some .int) ∈ wAll := tb_2 (List.mem_of_getElem? (i := 126) rfl) rfl
theorem ml_X3_78 : Cond.methodLink RX3 78 yX3_indexHas ∈ wAll := tb_2 (List.mem_of_getElem? (i := 127) rfl) rfl
theorem im_X3_indexHas : Cond.instanceMethod yX3_indexHas ∈ wAll := tb_2 (List.mem_of_getElem? (i := 129) rfl) rfl
theorem co_X3_indexHas : Cond.code yX3_indexHas cX3_indexHas 5 (some .boolean) ∈ wAll := tb_2 (List.mem_of_getElem? (i := 130) rfl) rfl
theorem ml_X6_198 : Cond.methodLink RX6 198 yX3_wronglyTold ∈ wAll := tb_2 (List.mem_of_getElem? (i := 131) rfl) rfl
theorem im_X3_wronglyTold : Cond.instanceMethod yX3_wronglyTold ∈ wAll := tb_2 (List.mem_of_getElem? (i := 132) rfl) rfl
theorem se_X3_wronglyTold : Cond.selects RX3 yX3_wronglyTold yX3_wronglyTold ∈ wAll := tb_2 (List.mem_of_getElem? (i := 133) rfl) rfl
theorem co_X3_wronglyTold : Cond.code yX3_wronglyTold cX3_wronglyTold 4 (some .int) ∈ wAll := tb_2 (List.mem_of_getElem? (i := 134) rfl) rfl
theorem ml_X3_55 : Cond.methodLink RX3 55 yX3_isSeenNow ∈ wAll := tb_2 (List.mem_of_getElem? (i := 135) rfl) rfl
theorem ml_X6_201 : Cond.methodLink RX6 201 yX3_leastCostWay ∈ wAll := tb_2 (List.mem_of_getElem? (i := 136) rfl) rfl
theorem im_X3_leastCostWay : Cond.instanceMethod yX3_leastCostWay ∈ wAll := tb_2 (List.mem_of_getElem? (i := 137) rfl) rfl
theorem se_X3_leastCostWay : Cond.selects RX3 yX3_leastCostWay yX3_leastCostWay ∈ wAll := tb_2 (List.mem_of_getElem? (i := 138) rfl) rfl
theorem co_X3_leastCostWay : Cond.code yX3_leastCostWay cX3_leastCostWay 4 (some .int) ∈ wAll := tb_2 (List.mem_of_getElem? (i := 139) rfl) rfl
theorem ml_X3_81 : Cond.methodLink RX3 81 yX3_cost ∈ wAll := tb_2 (List.mem_of_getElem? (i := 140) rfl) rfl
theorem ml_X6_225 : Cond.methodLink RX6 225 yX6_bitsOfShare ∈ wAll := tb_2 (List.mem_of_getElem? (i := 141) rfl) rfl
theorem st_X6_bitsOfShare : Cond.static yX6_bitsOfShare ∈ wAll := tb_2 (List.mem_of_getElem? (i := 142) rfl) rfl
theorem co_X6_bitsOfShare : Cond.code yX6_bitsOfShare cX6_bitsOfShare 7 (some .long) ∈ wAll := tb_2 (List.mem_of_getElem? (i := 143) rfl) rfl
theorem kc_X6_291 : Cond.constantDouble RX6 291 (4611686018427387904) ∈ wAll := tb_2 (List.mem_of_getElem? (i := 144) rfl) rfl
theorem kc_X6_293 : Cond.constantDouble RX6 293 (4841369599423283200) ∈ wAll := tb_2 (List.mem_of_getElem? (i := 145) rfl) rfl
theorem ml_X6_229 : Cond.methodLink RX6 229 yX5_signAt ∈ wAll := tb_2 (List.mem_of_getElem? (i := 146) rfl) rfl
theorem ml_L_75 : Cond.methodLink RL 75 yL_put ∈ wAll := tb_2 (List.mem_of_getElem? (i := 147) rfl) rfl
theorem st_L_put : Cond.static yL_put ∈ wAll := tb_2 (List.mem_of_getElem? (i := 148) rfl) rfl
theorem co_L_put : Cond.codeWith yL_put cL_put 4 (some .int) [(0, 9, 12, 13), (0, 9, 15, 15)] ∈ wAll := tb_2 (List.mem_of_getElem? (i := 149) rfl) rfl
theorem cl_L_13 : Cond.classLink RL 13 "java/lang/IllegalArgumentException" ∈ wAll := tb_2 (List.mem_of_getElem? (i := 150) rfl) rfl
theorem cl_L_15 : Cond.classLink RL 15 "java/lang/IllegalStateException" ∈ wAll := tb_2 (List.mem_of_getElem? (i := 151) rfl) rfl
theorem ml_L_7 : Cond.methodLink RL 7 yX6_put ∈ wAll := tb_2 (List.mem_of_getElem? (i := 152) rfl) rfl
theorem im_X6_put : Cond.instanceMethod yX6_put ∈ wAll := tb_2 (List.mem_of_getElem? (i := 153) rfl) rfl
theorem se_X6_put : Cond.selects RX6 yX6_put yX6_put ∈ wAll := tb_2 (List.mem_of_getElem? (i := 154) rfl) rfl
theorem co_X6_put : Cond.code yX6_put cX6_put 2 (some .int) ∈ wAll := tb_2 (List.mem_of_getElem? (i := 155) rfl) rfl
theorem ml_X6_30 : Cond.methodLink RX6 30 yX6_isOutside ∈ wAll := tb_2 (List.mem_of_getElem? (i := 156) rfl) rfl
theorem st_X6_isOutside : Cond.static yX6_isOutside ∈ wAll := tb_2 (List.mem_of_getElem? (i := 157) rfl) rfl
theorem co_X6_isOutside : Cond.code yX6_isOutside cX6_isOutside 2 (some .boolean) ∈ wAll := tb_2 (List.mem_of_getElem? (i := 158) rfl) rfl
theorem cl_X6_34 : Cond.classLink RX6 34 "java/lang/IllegalArgumentException" ∈ wAll := tb_2 (List.mem_of_getElem? (i := 159) rfl) rfl
theorem it_javalangIllegalArgumentException : Cond.instantiable "java/lang/IllegalArgumentException" 6 ∈ wAll := tb_2 (List.mem_of_getElem? (i := 160) rfl) rfl
theorem it_javalangThrowable : Cond.instantiable "java/lang/Throwable" 6 ∈ wAll := tb_2 (List.mem_of_getElem? (i := 198) rfl) rfl
theorem ac_byte : Cond.arrayClass .byte ∈ wAll := tb_2 (List.mem_of_getElem? (i := 226) rfl) rfl
theorem ml_X6_45 : Cond.methodLink RX6 45 yX3_hasEmptySlot ∈ wAll := tb_2 (List.mem_of_getElem? (i := 227) rfl) rfl
theorem im_X3_hasEmptySlot : Cond.instanceMethod yX3_hasEmptySlot ∈ wAll := tb_2 (List.mem_of_getElem? (i := 228) rfl) rfl
theorem se_X3_hasEmptySlot : Cond.selects RX3 yX3_hasEmptySlot yX3_hasEmptySlot ∈ wAll := tb_2 (List.mem_of_getElem? (i := 229) rfl) rfl
theorem co_X3_hasEmptySlot : Cond.code yX3_hasEmptySlot cX3_hasEmptySlot 1 (some .boolean) ∈ wAll := tb_2 (List.mem_of_getElem? (i := 230) rfl) rfl
theorem ml_X3_47 : Cond.methodLink RX3 47 yX3_lowestEmptySlot ∈ wAll := tb_2 (List.mem_of_getElem? (i := 231) rfl) rfl
theorem im_X3_lowestEmptySlot : Cond.instanceMethod yX3_lowestEmptySlot ∈ wAll := tb_2 (List.mem_of_getElem? (i := 232) rfl) rfl
theorem se_X3_lowestEmptySlot : Cond.selects RX3 yX3_lowestEmptySlot yX3_lowestEmptySlot ∈ wAll := tb_2 (List.mem_of_getElem? (i := 233) rfl) rfl
theorem co_X3_lowestEmptySlot : Cond.code yX3_lowestEmptySlot cX3_lowestEmptySlot 2 (some .int) ∈ wAll := tb_2 (List.mem_of_getElem? (i := 234) rfl) rfl
theorem cl_X6_51 : Cond.classLink RX6 51 "java/lang/IllegalStateException" ∈ wAll := tb_2 (List.mem_of_getElem? (i := 235) rfl) rfl
theorem it_javalangIllegalStateException : Cond.instantiable "java/lang/IllegalStateException" 6 ∈ wAll := tb_2 (List.mem_of_getElem? (i := 236) rfl) rfl
theorem ml_X6_60 : Cond.methodLink RX6 60 yX3_putValue ∈ wAll := tb_3 (List.mem_of_getElem? (i := 11) rfl) rfl
theorem im_X3_putValue : Cond.instanceMethod yX3_putValue ∈ wAll := tb_3 (List.mem_of_getElem? (i := 12) rfl) rfl
theorem se_X3_putValue : Cond.selects RX3 yX3_putValue yX3_putValue ∈ wAll := tb_3 (List.mem_of_getElem? (i := 13) rfl) rfl
theorem co_X3_putValue : Cond.code yX3_putValue cX3_putValue 3 (some .int) ∈ wAll := tb_3 (List.mem_of_getElem? (i := 14) rfl) rfl
theorem ml_X3_51 : Cond.methodLink RX3 51 yX3_come ∈ wAll := tb_3 (List.mem_of_getElem? (i := 15) rfl) rfl
theorem im_X3_come : Cond.instanceMethod yX3_come ∈ wAll := tb_3 (List.mem_of_getElem? (i := 17) rfl) rfl
theorem co_X3_come : Cond.code yX3_come cX3_come 3 none ∈ wAll := tb_3 (List.mem_of_getElem? (i := 18) rfl) rfl
theorem ml_L_84 : Cond.methodLink RL 84 yL_take ∈ wAll := tb_3 (List.mem_of_getElem? (i := 19) rfl) rfl
theorem st_L_take : Cond.static yL_take ∈ wAll := tb_3 (List.mem_of_getElem? (i := 20) rfl) rfl
theorem co_L_take : Cond.codeWith yL_take cL_take 4 (some .int) [(0, 9, 12, 20), (0, 9, 15, 15)] ∈ wAll := tb_3 (List.mem_of_getElem? (i := 21) rfl) rfl
theorem cl_L_20 : Cond.classLink RL 20 "java/lang/IndexOutOfBoundsException" ∈ wAll := tb_3 (List.mem_of_getElem? (i := 22) rfl) rfl
theorem ml_L_17 : Cond.methodLink RL 17 yX6_take ∈ wAll := tb_3 (List.mem_of_getElem? (i := 23) rfl) rfl
theorem im_X6_take : Cond.instanceMethod yX6_take ∈ wAll := tb_3 (List.mem_of_getElem? (i := 24) rfl) rfl
theorem se_X6_take : Cond.selects RX6 yX6_take yX6_take ∈ wAll := tb_3 (List.mem_of_getElem? (i := 25) rfl) rfl
theorem co_X6_take : Cond.code yX6_take cX6_take 2 (some .int) ∈ wAll := tb_3 (List.mem_of_getElem? (i := 26) rfl) rfl
theorem cl_X6_64 : Cond.classLink RX6 64 "java/lang/IndexOutOfBoundsException" ∈ wAll := tb_3 (List.mem_of_getElem? (i := 27) rfl) rfl
theorem it_javalangIndexOutOfBoundsException : Cond.instantiable "java/lang/IndexOutOfBoundsException" 6 ∈ wAll := tb_3 (List.mem_of_getElem? (i := 28) rfl) rfl
theorem ml_X6_75 : Cond.methodLink RX6 75 yX3_takeAway ∈ wAll := tb_3 (List.mem_of_getElem? (i := 44) rfl) rfl
theorem im_X3_takeAway : Cond.instanceMethod yX3_takeAway ∈ wAll := tb_3 (List.mem_of_getElem? (i := 45) rfl) rfl
theorem se_X3_takeAway : Cond.selects RX3 yX3_takeAway yX3_takeAway ∈ wAll := tb_3 (List.mem_of_getElem? (i := 46) rfl) rfl
theorem co_X3_takeAway : Cond.code yX3_takeAway cX3_takeAway 2 (some .boolean) ∈ wAll := tb_3 (List.mem_of_getElem? (i := 47) rfl) rfl
theorem ml_X3_59 : Cond.methodLink RX3 59 yX3_go ∈ wAll := tb_3 (List.mem_of_getElem? (i := 48) rfl) rfl
theorem im_X3_go : Cond.instanceMethod yX3_go ∈ wAll := tb_3 (List.mem_of_getElem? (i := 50) rfl) rfl
theorem co_X3_go : Cond.code yX3_go cX3_go 2 none ∈ wAll := tb_3 (List.mem_of_getElem? (i := 51) rfl) rfl
theorem ml_L_87 : Cond.methodLink RL 87 yL_change ∈ wAll := tb_3 (List.mem_of_getElem? (i := 52) rfl) rfl
theorem st_L_change : Cond.static yL_change ∈ wAll := tb_3 (List.mem_of_getElem? (i := 53) rfl) rfl
theorem co_L_change : Cond.codeWith yL_change cL_change 5 (some .int) [(0, 10, 13, 20), (0, 10, 17, 13), (0, 10, 21, 15)] ∈ wAll := tb_3 (List.mem_of_getElem? (i := 54) rfl) rfl
theorem ml_L_22 : Cond.methodLink RL 22 yX6_change ∈ wAll := tb_3 (List.mem_of_getElem? (i := 55) rfl) rfl
theorem im_X6_change : Cond.instanceMethod yX6_change ∈ wAll := tb_3 (List.mem_of_getElem? (i := 56) rfl) rfl
theorem se_X6_change : Cond.selects RX6 yX6_change yX6_change ∈ wAll := tb_3 (List.mem_of_getElem? (i := 57) rfl) rfl
theorem co_X6_change : Cond.code yX6_change cX6_change 3 (some .int) ∈ wAll := tb_3 (List.mem_of_getElem? (i := 58) rfl) rfl
theorem ml_X6_84 : Cond.methodLink RX6 84 yX3_changeTo ∈ wAll := tb_3 (List.mem_of_getElem? (i := 60) rfl) rfl
theorem im_X3_changeTo : Cond.instanceMethod yX3_changeTo ∈ wAll := tb_3 (List.mem_of_getElem? (i := 61) rfl) rfl
theorem se_X3_changeTo : Cond.selects RX3 yX3_changeTo yX3_changeTo ∈ wAll := tb_3 (List.mem_of_getElem? (i := 62) rfl) rfl
theorem co_X3_changeTo : Cond.code yX3_changeTo cX3_changeTo 4 (some .int) ∈ wAll := tb_3 (List.mem_of_getElem? (i := 63) rfl) rfl
theorem ml_L_91 : Cond.methodLink RL 91 yL_open ∈ wAll := tb_3 (List.mem_of_getElem? (i := 64) rfl) rfl
theorem st_L_open : Cond.static yL_open ∈ wAll := tb_3 (List.mem_of_getElem? (i := 65) rfl) rfl
theorem co_L_open : Cond.codeWith yL_open cL_open 4 (some .int) [(0, 9, 12, 20)] ∈ wAll := tb_3 (List.mem_of_getElem? (i := 66) rfl) rfl
theorem ml_L_26 : Cond.methodLink RL 26 yX6_open ∈ wAll := tb_3 (List.mem_of_getElem? (i := 67) rfl) rfl
theorem im_X6_open : Cond.instanceMethod yX6_open ∈ wAll := tb_3 (List.mem_of_getElem? (i := 68) rfl) rfl
theorem se_X6_open : Cond.selects RX6 yX6_open yX6_open ∈ wAll := tb_3 (List.mem_of_getElem? (i := 69) rfl) rfl
theorem co_X6_open : Cond.code yX6_open cX6_open 2 (some .int) ∈ wAll := tb_3 (List.mem_of_getElem? (i := 70) rfl) rfl
theorem ml_L_94 : Cond.methodLink RL 94 yL_close ∈ wAll := tb_3 (List.mem_of_getElem? (i := 72) rfl) rfl
theorem st_L_close : Cond.static yL_close ∈ wAll := tb_3 (List.mem_of_getElem? (i := 73) rfl) rfl
theorem co_L_close : Cond.codeWith yL_close cL_close 4 (some .int) [(0, 9, 12, 20), (0, 9, 15, 15)] ∈ wAll := tb_3 (List.mem_of_getElem? (i := 74) rfl) rfl
theorem ml_L_29 : Cond.methodLink RL 29 yX6_close ∈ wAll := tb_3 (List.mem_of_getElem? (i := 75) rfl) rfl
theorem im_X6_close : Cond.instanceMethod yX6_close ∈ wAll := tb_3 (List.mem_of_getElem? (i := 76) rfl) rfl
theorem se_X6_close : Cond.selects RX6 yX6_close yX6_close ∈ wAll := tb_3 (List.mem_of_getElem? (i := 77) rfl) rfl
theorem co_X6_close : Cond.code yX6_close cX6_close 3 (some .int) ∈ wAll := tb_3 (List.mem_of_getElem? (i := 78) rfl) rfl
theorem ml_L_97 : Cond.methodLink RL 97 yL_sweep ∈ wAll := tb_3 (List.mem_of_getElem? (i := 80) rfl) rfl
theorem st_L_sweep : Cond.static yL_sweep ∈ wAll := tb_3 (List.mem_of_getElem? (i := 81) rfl) rfl
theorem co_L_sweep : Cond.codeWith yL_sweep cL_sweep 4 (some .int) [(0, 9, 12, 20)] ∈ wAll := tb_3 (List.mem_of_getElem? (i := 82) rfl) rfl
theorem ml_L_32 : Cond.methodLink RL 32 yX6_sweep ∈ wAll := tb_3 (List.mem_of_getElem? (i := 83) rfl) rfl
theorem im_X6_sweep : Cond.instanceMethod yX6_sweep ∈ wAll := tb_3 (List.mem_of_getElem? (i := 84) rfl) rfl
theorem se_X6_sweep : Cond.selects RX6 yX6_sweep yX6_sweep ∈ wAll := tb_3 (List.mem_of_getElem? (i := 85) rfl) rfl
theorem co_X6_sweep : Cond.code yX6_sweep cX6_sweep 2 (some .int) ∈ wAll := tb_3 (List.mem_of_getElem? (i := 86) rfl) rfl
theorem ml_L_104 : Cond.methodLink RL 104 yL_ask ∈ wAll := tb_3 (List.mem_of_getElem? (i := 88) rfl) rfl
theorem st_L_ask : Cond.static yL_ask ∈ wAll := tb_3 (List.mem_of_getElem? (i := 89) rfl) rfl
theorem co_L_ask : Cond.codeWith yL_ask cL_ask 6 (some .int) [(0, 12, 15, 20), (0, 12, 19, 13), (0, 12, 23, 15)] ∈ wAll := tb_3 (List.mem_of_getElem? (i := 90) rfl) rfl
theorem ml_L_35 : Cond.methodLink RL 35 yX6_ask ∈ wAll := tb_3 (List.mem_of_getElem? (i := 91) rfl) rfl
theorem im_X6_ask : Cond.instanceMethod yX6_ask ∈ wAll := tb_3 (List.mem_of_getElem? (i := 92) rfl) rfl
theorem se_X6_ask : Cond.selects RX6 yX6_ask yX6_ask ∈ wAll := tb_3 (List.mem_of_getElem? (i := 93) rfl) rfl
theorem co_X6_ask : Cond.code yX6_ask cX6_ask 5 (some .int) ∈ wAll := tb_3 (List.mem_of_getElem? (i := 94) rfl) rfl
theorem ml_X6_130 : Cond.methodLink RX6 130 yX3_mayTrustMarks ∈ wAll := tb_3 (List.mem_of_getElem? (i := 96) rfl) rfl
theorem ml_X6_133 : Cond.methodLink RX6 133 yX4_add ∈ wAll := tb_3 (List.mem_of_getElem? (i := 97) rfl) rfl
theorem im_X4_add : Cond.instanceMethod yX4_add ∈ wAll := tb_3 (List.mem_of_getElem? (i := 98) rfl) rfl
theorem se_X4_add : Cond.selects RX4 yX4_add yX4_add ∈ wAll := tb_3 (List.mem_of_getElem? (i := 99) rfl) rfl
theorem co_X4_add : Cond.code yX4_add cX4_add 4 none ∈ wAll := tb_3 (List.mem_of_getElem? (i := 100) rfl) rfl
theorem ml_L_108 : Cond.methodLink RL 108 yL_append ∈ wAll := tb_3 (List.mem_of_getElem? (i := 101) rfl) rfl
theorem st_L_append : Cond.static yL_append ∈ wAll := tb_3 (List.mem_of_getElem? (i := 102) rfl) rfl
theorem co_L_append : Cond.codeWith yL_append cL_append 4 (some .int) [(0, 9, 12, 13), (0, 9, 15, 15)] ∈ wAll := tb_3 (List.mem_of_getElem? (i := 103) rfl) rfl
theorem ml_L_39 : Cond.methodLink RL 39 yX6_append ∈ wAll := tb_3 (List.mem_of_getElem? (i := 104) rfl) rfl
theorem im_X6_append : Cond.instanceMethod yX6_append ∈ wAll := tb_3 (List.mem_of_getElem? (i := 105) rfl) rfl
theorem se_X6_append : Cond.selects RX6 yX6_append yX6_append ∈ wAll := tb_3 (List.mem_of_getElem? (i := 106) rfl) rfl
theorem co_X6_append : Cond.code yX6_append cX6_append 2 (some .int) ∈ wAll := tb_3 (List.mem_of_getElem? (i := 107) rfl) rfl
theorem ml_X6_149 : Cond.methodLink RX6 149 yX5_add ∈ wAll := tb_3 (List.mem_of_getElem? (i := 110) rfl) rfl
theorem im_X5_add : Cond.instanceMethod yX5_add ∈ wAll := tb_3 (List.mem_of_getElem? (i := 111) rfl) rfl
theorem se_X5_add : Cond.selects RX5 yX5_add yX5_add ∈ wAll := tb_3 (List.mem_of_getElem? (i := 112) rfl) rfl
theorem co_X5_add : Cond.code yX5_add cX5_add 2 (some .int) ∈ wAll := tb_3 (List.mem_of_getElem? (i := 113) rfl) rfl
theorem ml_L_119 : Cond.methodLink RL 119 yL_play ∈ wAll := tb_3 (List.mem_of_getElem? (i := 114) rfl) rfl
theorem st_L_play : Cond.static yL_play ∈ wAll := tb_3 (List.mem_of_getElem? (i := 115) rfl) rfl
theorem co_L_play : Cond.codeWith yL_play cL_play 3 (some .int) [(0, 8, 11, 13)] ∈ wAll := tb_3 (List.mem_of_getElem? (i := 116) rfl) rfl
theorem ml_L_42 : Cond.methodLink RL 42 yX6_play ∈ wAll := tb_3 (List.mem_of_getElem? (i := 117) rfl) rfl
theorem im_X6_play : Cond.instanceMethod yX6_play ∈ wAll := tb_3 (List.mem_of_getElem? (i := 118) rfl) rfl
theorem se_X6_play : Cond.selects RX6 yX6_play yX6_play ∈ wAll := tb_3 (List.mem_of_getElem? (i := 119) rfl) rfl
theorem co_X6_play : Cond.code yX6_play cX6_play 2 (some .int) ∈ wAll := tb_3 (List.mem_of_getElem? (i := 120) rfl) rfl
theorem ml_X6_163 : Cond.methodLink RX6 163 yX6_makeParts ∈ wAll := tb_3 (List.mem_of_getElem? (i := 122) rfl) rfl
theorem im_X6_makeParts : Cond.instanceMethod yX6_makeParts ∈ wAll := tb_3 (List.mem_of_getElem? (i := 124) rfl) rfl
theorem co_X6_makeParts : Cond.code yX6_makeParts cX6_makeParts 3 (some .int) ∈ wAll := tb_3 (List.mem_of_getElem? (i := 125) rfl) rfl
theorem ml_X6_269 : Cond.methodLink RX6 269 yX5_rewind ∈ wAll := tb_3 (List.mem_of_getElem? (i := 126) rfl) rfl
theorem ml_X6_272 : Cond.methodLink RX6 272 yX5_readNext ∈ wAll := tb_3 (List.mem_of_getElem? (i := 127) rfl) rfl
theorem ml_X6_285 : Cond.methodLink RX6 285 yX2_make ∈ wAll := tb_3 (List.mem_of_getElem? (i := 128) rfl) rfl
theorem im_X2_make : Cond.instanceMethod yX2_make ∈ wAll := tb_3 (List.mem_of_getElem? (i := 129) rfl) rfl
theorem se_X2_make : Cond.selects RX2 yX2_make yX2_make ∈ wAll := tb_3 (List.mem_of_getElem? (i := 130) rfl) rfl
theorem co_X2_make : Cond.code yX2_make cX2_make 4 (some .boolean) ∈ wAll := tb_3 (List.mem_of_getElem? (i := 131) rfl) rfl
theorem ml_X2_50 : Cond.methodLink RX2 50 yX3_putValue ∈ wAll := tb_3 (List.mem_of_getElem? (i := 132) rfl) rfl
theorem ml_X2_54 : Cond.methodLink RX2 54 yX3_takeAway ∈ wAll := tb_3 (List.mem_of_getElem? (i := 133) rfl) rfl
theorem ml_X2_58 : Cond.methodLink RX2 58 yX3_changeTo ∈ wAll := tb_3 (List.mem_of_getElem? (i := 134) rfl) rfl
theorem ml_X2_61 : Cond.methodLink RX2 61 yX2_horizon ∈ wAll := tb_3 (List.mem_of_getElem? (i := 135) rfl) rfl
theorem ml_X2_65 : Cond.methodLink RX2 65 yX3_sweepPage ∈ wAll := tb_3 (List.mem_of_getElem? (i := 136) rfl) rfl
theorem ml_L_123 : Cond.methodLink RL 123 yL_undo ∈ wAll := tb_3 (List.mem_of_getElem? (i := 137) rfl) rfl
theorem st_L_undo : Cond.static yL_undo ∈ wAll := tb_3 (List.mem_of_getElem? (i := 138) rfl) rfl
theorem co_L_undo : Cond.codeWith yL_undo cL_undo 3 (some .int) [(0, 8, 11, 15)] ∈ wAll := tb_3 (List.mem_of_getElem? (i := 139) rfl) rfl
theorem ml_L_46 : Cond.methodLink RL 46 yX6_undo ∈ wAll := tb_3 (List.mem_of_getElem? (i := 140) rfl) rfl
theorem im_X6_undo : Cond.instanceMethod yX6_undo ∈ wAll := tb_3 (List.mem_of_getElem? (i := 141) rfl) rfl
theorem se_X6_undo : Cond.selects RX6 yX6_undo yX6_undo ∈ wAll := tb_3 (List.mem_of_getElem? (i := 142) rfl) rfl
theorem co_X6_undo : Cond.code yX6_undo cX6_undo 1 (some .int) ∈ wAll := tb_3 (List.mem_of_getElem? (i := 143) rfl) rfl
theorem ml_X6_171 : Cond.methodLink RX6 171 yX1_restore ∈ wAll := tb_3 (List.mem_of_getElem? (i := 145) rfl) rfl
theorem im_X1_restore : Cond.instanceMethod yX1_restore ∈ wAll := tb_3 (List.mem_of_getElem? (i := 146) rfl) rfl
theorem se_X1_restore : Cond.selects RX1 yX1_restore yX1_restore ∈ wAll := tb_3 (List.mem_of_getElem? (i := 147) rfl) rfl
theorem co_X1_restore : Cond.code yX1_restore cX1_restore 2 none ∈ wAll := tb_3 (List.mem_of_getElem? (i := 148) rfl) rfl
theorem ml_L_126 : Cond.methodLink RL 126 yL_slot ∈ wAll := tb_3 (List.mem_of_getElem? (i := 149) rfl) rfl
theorem st_L_slot : Cond.static yL_slot ∈ wAll := tb_3 (List.mem_of_getElem? (i := 150) rfl) rfl
theorem co_L_slot : Cond.codeWith yL_slot cL_slot 5 (some .int) [(0, 10, 13, 20), (0, 10, 17, 13)] ∈ wAll := tb_3 (List.mem_of_getElem? (i := 151) rfl) rfl
theorem ml_L_49 : Cond.methodLink RL 49 yX6_slot ∈ wAll := tb_3 (List.mem_of_getElem? (i := 152) rfl) rfl
theorem im_X6_slot : Cond.instanceMethod yX6_slot ∈ wAll := tb_3 (List.mem_of_getElem? (i := 153) rfl) rfl
theorem se_X6_slot : Cond.selects RX6 yX6_slot yX6_slot ∈ wAll := tb_3 (List.mem_of_getElem? (i := 154) rfl) rfl
theorem co_X6_slot : Cond.code yX6_slot cX6_slot 3 (some .int) ∈ wAll := tb_3 (List.mem_of_getElem? (i := 155) rfl) rfl
theorem ml_L_129 : Cond.methodLink RL 129 yL_page ∈ wAll := tb_3 (List.mem_of_getElem? (i := 157) rfl) rfl
theorem st_L_page : Cond.static yL_page ∈ wAll := tb_3 (List.mem_of_getElem? (i := 158) rfl) rfl
theorem co_L_page : Cond.codeWith yL_page cL_page 5 (some .int) [(0, 10, 13, 20), (0, 10, 17, 13)] ∈ wAll := tb_3 (List.mem_of_getElem? (i := 159) rfl) rfl
theorem ml_L_52 : Cond.methodLink RL 52 yX6_page ∈ wAll := tb_3 (List.mem_of_getElem? (i := 160) rfl) rfl
theorem im_X6_page : Cond.instanceMethod yX6_page ∈ wAll := tb_3 (List.mem_of_getElem? (i := 161) rfl) rfl
theorem se_X6_page : Cond.selects RX6 yX6_page yX6_page ∈ wAll := tb_3 (List.mem_of_getElem? (i := 162) rfl) rfl
theorem co_X6_page : Cond.code yX6_page cX6_page 3 (some .int) ∈ wAll := tb_3 (List.mem_of_getElem? (i := 163) rfl) rfl
theorem ml_L_132 : Cond.methodLink RL 132 yL_asker ∈ wAll := tb_3 (List.mem_of_getElem? (i := 165) rfl) rfl
theorem st_L_asker : Cond.static yL_asker ∈ wAll := tb_3 (List.mem_of_getElem? (i := 166) rfl) rfl
theorem co_L_asker : Cond.codeWith yL_asker cL_asker 5 (some .int) [(0, 10, 13, 20), (0, 10, 17, 13)] ∈ wAll := tb_3 (List.mem_of_getElem? (i := 167) rfl) rfl
theorem ml_L_55 : Cond.methodLink RL 55 yX6_asker ∈ wAll := tb_3 (List.mem_of_getElem? (i := 168) rfl) rfl
theorem im_X6_asker : Cond.instanceMethod yX6_asker ∈ wAll := tb_3 (List.mem_of_getElem? (i := 169) rfl) rfl
theorem se_X6_asker : Cond.selects RX6 yX6_asker yX6_asker ∈ wAll := tb_3 (List.mem_of_getElem? (i := 170) rfl) rfl
theorem co_X6_asker : Cond.code yX6_asker cX6_asker 3 (some .int) ∈ wAll := tb_3 (List.mem_of_getElem? (i := 171) rfl) rfl
theorem ml_L_135 : Cond.methodLink RL 135 yL_count ∈ wAll := tb_3 (List.mem_of_getElem? (i := 173) rfl) rfl
theorem st_L_count : Cond.static yL_count ∈ wAll := tb_3 (List.mem_of_getElem? (i := 174) rfl) rfl
theorem co_L_count : Cond.codeWith yL_count cL_count 4 (some .int) [(0, 9, 12, 13)] ∈ wAll := tb_3 (List.mem_of_getElem? (i := 175) rfl) rfl
theorem ml_L_58 : Cond.methodLink RL 58 yX6_count ∈ wAll := tb_3 (List.mem_of_getElem? (i := 176) rfl) rfl
theorem im_X6_count : Cond.instanceMethod yX6_count ∈ wAll := tb_3 (List.mem_of_getElem? (i := 177) rfl) rfl
theorem se_X6_count : Cond.selects RX6 yX6_count yX6_count ∈ wAll := tb_3 (List.mem_of_getElem? (i := 178) rfl) rfl
theorem co_X6_count : Cond.code yX6_count cX6_count 2 (some .int) ∈ wAll := tb_3 (List.mem_of_getElem? (i := 179) rfl) rfl
theorem ml_L_138 : Cond.methodLink RL 138 yL_ifAsked ∈ wAll := tb_3 (List.mem_of_getElem? (i := 181) rfl) rfl
theorem st_L_ifAsked : Cond.static yL_ifAsked ∈ wAll := tb_3 (List.mem_of_getElem? (i := 182) rfl) rfl
theorem co_L_ifAsked : Cond.codeWith yL_ifAsked cL_ifAsked 7 (some .int) [(0, 14, 17, 13)] ∈ wAll := tb_3 (List.mem_of_getElem? (i := 183) rfl) rfl
theorem ml_L_61 : Cond.methodLink RL 61 yX6_ifAsked ∈ wAll := tb_3 (List.mem_of_getElem? (i := 184) rfl) rfl
theorem im_X6_ifAsked : Cond.instanceMethod yX6_ifAsked ∈ wAll := tb_3 (List.mem_of_getElem? (i := 185) rfl) rfl
theorem se_X6_ifAsked : Cond.selects RX6 yX6_ifAsked yX6_ifAsked ∈ wAll := tb_3 (List.mem_of_getElem? (i := 186) rfl) rfl
theorem co_X6_ifAsked : Cond.code yX6_ifAsked cX6_ifAsked 5 (some .int) ∈ wAll := tb_3 (List.mem_of_getElem? (i := 187) rfl) rfl
theorem ml_L_142 : Cond.methodLink RL 142 yL_lies ∈ wAll := tb_3 (List.mem_of_getElem? (i := 190) rfl) rfl
theorem st_L_lies : Cond.static yL_lies ∈ wAll := tb_3 (List.mem_of_getElem? (i := 191) rfl) rfl
theorem co_L_lies : Cond.codeWith yL_lies cL_lies 4 (some .int) [(0, 9, 12, 13)] ∈ wAll := tb_3 (List.mem_of_getElem? (i := 192) rfl) rfl
theorem ml_L_65 : Cond.methodLink RL 65 yX6_lies ∈ wAll := tb_3 (List.mem_of_getElem? (i := 193) rfl) rfl
theorem im_X6_lies : Cond.instanceMethod yX6_lies ∈ wAll := tb_3 (List.mem_of_getElem? (i := 194) rfl) rfl
theorem se_X6_lies : Cond.selects RX6 yX6_lies yX6_lies ∈ wAll := tb_3 (List.mem_of_getElem? (i := 195) rfl) rfl
theorem co_X6_lies : Cond.code yX6_lies cX6_lies 2 (some .int) ∈ wAll := tb_3 (List.mem_of_getElem? (i := 196) rfl) rfl
theorem ml_L_145 : Cond.methodLink RL 145 yL_cheapest ∈ wAll := tb_3 (List.mem_of_getElem? (i := 197) rfl) rfl
theorem st_L_cheapest : Cond.static yL_cheapest ∈ wAll := tb_3 (List.mem_of_getElem? (i := 198) rfl) rfl
theorem co_L_cheapest : Cond.codeWith yL_cheapest cL_cheapest 4 (some .int) [(0, 9, 12, 13)] ∈ wAll := tb_3 (List.mem_of_getElem? (i := 199) rfl) rfl
theorem ml_L_68 : Cond.methodLink RL 68 yX6_cheapest ∈ wAll := tb_3 (List.mem_of_getElem? (i := 200) rfl) rfl
theorem im_X6_cheapest : Cond.instanceMethod yX6_cheapest ∈ wAll := tb_3 (List.mem_of_getElem? (i := 201) rfl) rfl
theorem se_X6_cheapest : Cond.selects RX6 yX6_cheapest yX6_cheapest ∈ wAll := tb_3 (List.mem_of_getElem? (i := 202) rfl) rfl
theorem co_X6_cheapest : Cond.code yX6_cheapest cX6_cheapest 2 (some .int) ∈ wAll := tb_3 (List.mem_of_getElem? (i := 203) rfl) rfl
theorem cl_L_72 : Cond.classLink RL 72 RX7 ∈ wAll := tb_3 (List.mem_of_getElem? (i := 204) rfl) rfl
theorem it_X7 : Cond.instantiable RX7 11 ∈ wAll := tb_3 (List.mem_of_getElem? (i := 205) rfl) rfl
theorem ml_L_74 : Cond.methodLink RL 74 yX7_init ∈ wAll := tb_3 (List.mem_of_getElem? (i := 206) rfl) rfl
theorem im_X7_init : Cond.instanceMethod yX7_init ∈ wAll := tb_3 (List.mem_of_getElem? (i := 207) rfl) rfl
theorem co_X7_init : Cond.code yX7_init cX7_init 1 none ∈ wAll := tb_3 (List.mem_of_getElem? (i := 208) rfl) rfl
theorem ml_X7_1 : Cond.methodLink RX7 1 objectInit ∈ wAll := tb_3 (List.mem_of_getElem? (i := 209) rfl) rfl
theorem fl_X7_22 : Cond.fieldLink RX7 22 "SeenPagesModel" "thrown" "I" ∈ wAll := tb_3 (List.mem_of_getElem? (i := 210) rfl) rfl
theorem fl_X7_7 : Cond.fieldLink RX7 7 "SeenPagesModel" "s" "[I" ∈ wAll := tb_3 (List.mem_of_getElem? (i := 211) rfl) rfl
theorem fl_X7_13 : Cond.fieldLink RX7 13 "SeenPagesModel" "saved" "[I" ∈ wAll := tb_3 (List.mem_of_getElem? (i := 212) rfl) rfl
theorem fl_X7_30 : Cond.fieldLink RX7 30 "SeenPagesModel" "savedMany" "I" ∈ wAll := tb_3 (List.mem_of_getElem? (i := 213) rfl) rfl
theorem fl_X7_16 : Cond.fieldLink RX7 16 "SeenPagesModel" "buffer" "[I" ∈ wAll := tb_3 (List.mem_of_getElem? (i := 214) rfl) rfl
theorem fl_X7_129 : Cond.fieldLink RX7 129 "SeenPagesModel" "length" "I" ∈ wAll := tb_3 (List.mem_of_getElem? (i := 215) rfl) rfl
theorem fl_X7_132 : Cond.fieldLink RX7 132 "SeenPagesModel" "at" "I" ∈ wAll := tb_3 (List.mem_of_getElem? (i := 216) rfl) rfl
theorem fl_X7_135 : Cond.fieldLink RX7 135 "SeenPagesModel" "isWell" "Z" ∈ wAll := tb_3 (List.mem_of_getElem? (i := 217) rfl) rfl
theorem fl_X7_19 : Cond.fieldLink RX7 19 "SeenPagesModel" "read" "[I" ∈ wAll := tb_3 (List.mem_of_getElem? (i := 218) rfl) rfl
theorem fl_X7_145 : Cond.fieldLink RX7 145 "SeenPagesModel" "readMany" "I" ∈ wAll := tb_3 (List.mem_of_getElem? (i := 219) rfl) rfl
theorem fl_X7_196 : Cond.fieldLink RX7 196 "SeenPagesModel" "hash" "J" ∈ wAll := tb_3 (List.mem_of_getElem? (i := 220) rfl) rfl
theorem ml_L_81 : Cond.methodLink RL 81 yX7_thrown ∈ wAll := tb_4 (List.mem_of_getElem? (i := 4) rfl) rfl
theorem im_X7_thrown : Cond.instanceMethod yX7_thrown ∈ wAll := tb_4 (List.mem_of_getElem? (i := 5) rfl) rfl
theorem se_X7_thrown : Cond.selects RX7 yX7_thrown yX7_thrown ∈ wAll := tb_4 (List.mem_of_getElem? (i := 6) rfl) rfl
theorem co_X7_thrown : Cond.code yX7_thrown cX7_thrown 1 (some .int) ∈ wAll := tb_4 (List.mem_of_getElem? (i := 7) rfl) rfl
theorem ml_L_80 : Cond.methodLink RL 80 yX7_put ∈ wAll := tb_4 (List.mem_of_getElem? (i := 8) rfl) rfl
theorem im_X7_put : Cond.instanceMethod yX7_put ∈ wAll := tb_4 (List.mem_of_getElem? (i := 9) rfl) rfl
theorem se_X7_put : Cond.selects RX7 yX7_put yX7_put ∈ wAll := tb_4 (List.mem_of_getElem? (i := 10) rfl) rfl
theorem co_X7_put : Cond.code yX7_put cX7_put 2 (some .int) ∈ wAll := tb_4 (List.mem_of_getElem? (i := 11) rfl) rfl
theorem ml_X7_26 : Cond.methodLink RX7 26 yX7_in ∈ wAll := tb_4 (List.mem_of_getElem? (i := 12) rfl) rfl
theorem st_X7_in : Cond.static yX7_in ∈ wAll := tb_4 (List.mem_of_getElem? (i := 13) rfl) rfl
theorem co_X7_in : Cond.code yX7_in cX7_in 3 (some .boolean) ∈ wAll := tb_4 (List.mem_of_getElem? (i := 14) rfl) rfl
theorem ml_X7_67 : Cond.methodLink RX7 67 yX7_fails ∈ wAll := tb_4 (List.mem_of_getElem? (i := 15) rfl) rfl
theorem im_X7_fails : Cond.instanceMethod yX7_fails ∈ wAll := tb_4 (List.mem_of_getElem? (i := 17) rfl) rfl
theorem co_X7_fails : Cond.code yX7_fails cX7_fails 2 (some .int) ∈ wAll := tb_4 (List.mem_of_getElem? (i := 18) rfl) rfl
theorem ml_X7_71 : Cond.methodLink RX7 71 yX7_canChange ∈ wAll := tb_4 (List.mem_of_getElem? (i := 19) rfl) rfl
theorem im_X7_canChange : Cond.instanceMethod yX7_canChange ∈ wAll := tb_4 (List.mem_of_getElem? (i := 21) rfl) rfl
theorem co_X7_canChange : Cond.code yX7_canChange cX7_canChange 4 (some .boolean) ∈ wAll := tb_4 (List.mem_of_getElem? (i := 22) rfl) rfl
theorem ml_X7_60 : Cond.methodLink RX7 60 yX7_isPlace ∈ wAll := tb_4 (List.mem_of_getElem? (i := 23) rfl) rfl
theorem st_X7_isPlace : Cond.static yX7_isPlace ∈ wAll := tb_4 (List.mem_of_getElem? (i := 24) rfl) rfl
theorem co_X7_isPlace : Cond.code yX7_isPlace cX7_isPlace 1 (some .boolean) ∈ wAll := tb_4 (List.mem_of_getElem? (i := 25) rfl) rfl
theorem ml_X7_63 : Cond.methodLink RX7 63 yX7_isSeen ∈ wAll := tb_4 (List.mem_of_getElem? (i := 26) rfl) rfl
theorem im_X7_isSeen : Cond.instanceMethod yX7_isSeen ∈ wAll := tb_4 (List.mem_of_getElem? (i := 28) rfl) rfl
theorem co_X7_isSeen : Cond.code yX7_isSeen cX7_isSeen 4 (some .boolean) ∈ wAll := tb_4 (List.mem_of_getElem? (i := 29) rfl) rfl
theorem ml_X7_37 : Cond.methodLink RX7 37 yX7_isFull ∈ wAll := tb_4 (List.mem_of_getElem? (i := 30) rfl) rfl
theorem im_X7_isFull : Cond.instanceMethod yX7_isFull ∈ wAll := tb_4 (List.mem_of_getElem? (i := 32) rfl) rfl
theorem co_X7_isFull : Cond.code yX7_isFull cX7_isFull 2 (some .boolean) ∈ wAll := tb_4 (List.mem_of_getElem? (i := 33) rfl) rfl
theorem ml_X7_33 : Cond.methodLink RX7 33 yX7_of ∈ wAll := tb_4 (List.mem_of_getElem? (i := 34) rfl) rfl
theorem im_X7_of : Cond.instanceMethod yX7_of ∈ wAll := tb_4 (List.mem_of_getElem? (i := 36) rfl) rfl
theorem co_X7_of : Cond.code yX7_of cX7_of 3 (some .int) ∈ wAll := tb_4 (List.mem_of_getElem? (i := 37) rfl) rfl
theorem ml_X7_49 : Cond.methodLink RX7 49 yX7_lowestEmpty ∈ wAll := tb_4 (List.mem_of_getElem? (i := 38) rfl) rfl
theorem im_X7_lowestEmpty : Cond.instanceMethod yX7_lowestEmpty ∈ wAll := tb_4 (List.mem_of_getElem? (i := 40) rfl) rfl
theorem co_X7_lowestEmpty : Cond.code yX7_lowestEmpty cX7_lowestEmpty 2 (some .int) ∈ wAll := tb_4 (List.mem_of_getElem? (i := 41) rfl) rfl
theorem ml_X7_74 : Cond.methodLink RX7 74 yX7_saves ∈ wAll := tb_4 (List.mem_of_getElem? (i := 42) rfl) rfl
theorem im_X7_saves : Cond.instanceMethod yX7_saves ∈ wAll := tb_4 (List.mem_of_getElem? (i := 44) rfl) rfl
theorem co_X7_saves : Cond.code yX7_saves cX7_saves 2 none ∈ wAll := tb_4 (List.mem_of_getElem? (i := 45) rfl) rfl
theorem ml_X7_77 : Cond.methodLink RX7 77 yX7_changes ∈ wAll := tb_4 (List.mem_of_getElem? (i := 46) rfl) rfl
theorem im_X7_changes : Cond.instanceMethod yX7_changes ∈ wAll := tb_4 (List.mem_of_getElem? (i := 48) rfl) rfl
theorem co_X7_changes : Cond.code yX7_changes cX7_changes 5 (some .int) ∈ wAll := tb_4 (List.mem_of_getElem? (i := 49) rfl) rfl
theorem ml_X7_53 : Cond.methodLink RX7 53 yX7_goes ∈ wAll := tb_4 (List.mem_of_getElem? (i := 50) rfl) rfl
theorem im_X7_goes : Cond.instanceMethod yX7_goes ∈ wAll := tb_4 (List.mem_of_getElem? (i := 52) rfl) rfl
theorem co_X7_goes : Cond.code yX7_goes cX7_goes 2 none ∈ wAll := tb_4 (List.mem_of_getElem? (i := 53) rfl) rfl
theorem ml_X7_45 : Cond.methodLink RX7 45 yX7_unmarks ∈ wAll := tb_4 (List.mem_of_getElem? (i := 54) rfl) rfl
theorem im_X7_unmarks : Cond.instanceMethod yX7_unmarks ∈ wAll := tb_4 (List.mem_of_getElem? (i := 56) rfl) rfl
theorem co_X7_unmarks : Cond.code yX7_unmarks cX7_unmarks 2 none ∈ wAll := tb_4 (List.mem_of_getElem? (i := 57) rfl) rfl
theorem ml_X7_56 : Cond.methodLink RX7 56 yX7_comes ∈ wAll := tb_4 (List.mem_of_getElem? (i := 58) rfl) rfl
theorem im_X7_comes : Cond.instanceMethod yX7_comes ∈ wAll := tb_4 (List.mem_of_getElem? (i := 60) rfl) rfl
theorem co_X7_comes : Cond.code yX7_comes cX7_comes 3 none ∈ wAll := tb_4 (List.mem_of_getElem? (i := 61) rfl) rfl
theorem ml_X7_41 : Cond.methodLink RX7 41 yX7_lay ∈ wAll := tb_4 (List.mem_of_getElem? (i := 62) rfl) rfl
theorem im_X7_lay : Cond.instanceMethod yX7_lay ∈ wAll := tb_4 (List.mem_of_getElem? (i := 64) rfl) rfl
theorem co_X7_lay : Cond.code yX7_lay cX7_lay 5 none ∈ wAll := tb_4 (List.mem_of_getElem? (i := 65) rfl) rfl
theorem ml_L_86 : Cond.methodLink RL 86 yX7_take ∈ wAll := tb_4 (List.mem_of_getElem? (i := 66) rfl) rfl
theorem im_X7_take : Cond.instanceMethod yX7_take ∈ wAll := tb_4 (List.mem_of_getElem? (i := 67) rfl) rfl
theorem se_X7_take : Cond.selects RX7 yX7_take yX7_take ∈ wAll := tb_4 (List.mem_of_getElem? (i := 68) rfl) rfl
theorem co_X7_take : Cond.code yX7_take cX7_take 2 (some .int) ∈ wAll := tb_4 (List.mem_of_getElem? (i := 69) rfl) rfl
theorem ml_L_90 : Cond.methodLink RL 90 yX7_change ∈ wAll := tb_4 (List.mem_of_getElem? (i := 70) rfl) rfl
theorem im_X7_change : Cond.instanceMethod yX7_change ∈ wAll := tb_4 (List.mem_of_getElem? (i := 71) rfl) rfl
theorem se_X7_change : Cond.selects RX7 yX7_change yX7_change ∈ wAll := tb_4 (List.mem_of_getElem? (i := 72) rfl) rfl
theorem co_X7_change : Cond.code yX7_change cX7_change 3 (some .int) ∈ wAll := tb_4 (List.mem_of_getElem? (i := 73) rfl) rfl
theorem ml_L_93 : Cond.methodLink RL 93 yX7_open ∈ wAll := tb_4 (List.mem_of_getElem? (i := 74) rfl) rfl
theorem im_X7_open : Cond.instanceMethod yX7_open ∈ wAll := tb_4 (List.mem_of_getElem? (i := 75) rfl) rfl
theorem se_X7_open : Cond.selects RX7 yX7_open yX7_open ∈ wAll := tb_4 (List.mem_of_getElem? (i := 76) rfl) rfl
theorem co_X7_open : Cond.code yX7_open cX7_open 2 (some .int) ∈ wAll := tb_4 (List.mem_of_getElem? (i := 77) rfl) rfl
theorem ml_X7_87 : Cond.methodLink RX7 87 yX7_isAsker ∈ wAll := tb_4 (List.mem_of_getElem? (i := 78) rfl) rfl
theorem st_X7_isAsker : Cond.static yX7_isAsker ∈ wAll := tb_4 (List.mem_of_getElem? (i := 79) rfl) rfl
theorem co_X7_isAsker : Cond.code yX7_isAsker cX7_isAsker 1 (some .boolean) ∈ wAll := tb_4 (List.mem_of_getElem? (i := 80) rfl) rfl
theorem ml_L_96 : Cond.methodLink RL 96 yX7_close ∈ wAll := tb_4 (List.mem_of_getElem? (i := 81) rfl) rfl
theorem im_X7_close : Cond.instanceMethod yX7_close ∈ wAll := tb_4 (List.mem_of_getElem? (i := 82) rfl) rfl
theorem se_X7_close : Cond.selects RX7 yX7_close yX7_close ∈ wAll := tb_4 (List.mem_of_getElem? (i := 83) rfl) rfl
theorem co_X7_close : Cond.code yX7_close cX7_close 3 (some .int) ∈ wAll := tb_4 (List.mem_of_getElem? (i := 84) rfl) rfl
theorem ml_X7_81 : Cond.methodLink RX7 81 yX7_snapshotOf ∈ wAll := tb_4 (List.mem_of_getElem? (i := 85) rfl) rfl
theorem im_X7_snapshotOf : Cond.instanceMethod yX7_snapshotOf ∈ wAll := tb_4 (List.mem_of_getElem? (i := 87) rfl) rfl
theorem co_X7_snapshotOf : Cond.code yX7_snapshotOf cX7_snapshotOf 2 (some .int) ∈ wAll := tb_4 (List.mem_of_getElem? (i := 88) rfl) rfl
theorem ml_L_99 : Cond.methodLink RL 99 yX7_sweep ∈ wAll := tb_4 (List.mem_of_getElem? (i := 89) rfl) rfl
theorem im_X7_sweep : Cond.instanceMethod yX7_sweep ∈ wAll := tb_4 (List.mem_of_getElem? (i := 90) rfl) rfl
theorem se_X7_sweep : Cond.selects RX7 yX7_sweep yX7_sweep ∈ wAll := tb_4 (List.mem_of_getElem? (i := 91) rfl) rfl
theorem co_X7_sweep : Cond.code yX7_sweep cX7_sweep 2 (some .int) ∈ wAll := tb_4 (List.mem_of_getElem? (i := 92) rfl) rfl
theorem ml_X7_99 : Cond.methodLink RX7 99 yX7_isPage ∈ wAll := tb_4 (List.mem_of_getElem? (i := 93) rfl) rfl
theorem st_X7_isPage : Cond.static yX7_isPage ∈ wAll := tb_4 (List.mem_of_getElem? (i := 94) rfl) rfl
theorem co_X7_isPage : Cond.code yX7_isPage cX7_isPage 1 (some .boolean) ∈ wAll := tb_4 (List.mem_of_getElem? (i := 95) rfl) rfl
theorem ml_X7_102 : Cond.methodLink RX7 102 yX7_sweeps ∈ wAll := tb_4 (List.mem_of_getElem? (i := 96) rfl) rfl
theorem im_X7_sweeps : Cond.instanceMethod yX7_sweeps ∈ wAll := tb_4 (List.mem_of_getElem? (i := 98) rfl) rfl
theorem co_X7_sweeps : Cond.code yX7_sweeps cX7_sweeps 6 (some .int) ∈ wAll := tb_4 (List.mem_of_getElem? (i := 99) rfl) rfl
theorem ml_X7_93 : Cond.methodLink RX7 93 yX7_horizon ∈ wAll := tb_4 (List.mem_of_getElem? (i := 100) rfl) rfl
theorem im_X7_horizon : Cond.instanceMethod yX7_horizon ∈ wAll := tb_4 (List.mem_of_getElem? (i := 102) rfl) rfl
theorem co_X7_horizon : Cond.code yX7_horizon cX7_horizon 1 (some .int) ∈ wAll := tb_4 (List.mem_of_getElem? (i := 103) rfl) rfl
theorem ml_X7_84 : Cond.methodLink RX7 84 yX7_horizonBut ∈ wAll := tb_4 (List.mem_of_getElem? (i := 104) rfl) rfl
theorem im_X7_horizonBut : Cond.instanceMethod yX7_horizonBut ∈ wAll := tb_4 (List.mem_of_getElem? (i := 106) rfl) rfl
theorem co_X7_horizonBut : Cond.code yX7_horizonBut cX7_horizonBut 5 (some .int) ∈ wAll := tb_4 (List.mem_of_getElem? (i := 107) rfl) rfl
theorem ml_X7_96 : Cond.methodLink RX7 96 yX7_oldIn ∈ wAll := tb_4 (List.mem_of_getElem? (i := 108) rfl) rfl
theorem im_X7_oldIn : Cond.instanceMethod yX7_oldIn ∈ wAll := tb_4 (List.mem_of_getElem? (i := 110) rfl) rfl
theorem co_X7_oldIn : Cond.code yX7_oldIn cX7_oldIn 5 (some .int) ∈ wAll := tb_4 (List.mem_of_getElem? (i := 111) rfl) rfl
theorem ml_X7_90 : Cond.methodLink RX7 90 yX7_isOld ∈ wAll := tb_4 (List.mem_of_getElem? (i := 112) rfl) rfl
theorem im_X7_isOld : Cond.instanceMethod yX7_isOld ∈ wAll := tb_4 (List.mem_of_getElem? (i := 114) rfl) rfl
theorem co_X7_isOld : Cond.code yX7_isOld cX7_isOld 3 (some .boolean) ∈ wAll := tb_4 (List.mem_of_getElem? (i := 115) rfl) rfl
theorem ml_L_103 : Cond.methodLink RL 103 yX7_sweepAll ∈ wAll := tb_4 (List.mem_of_getElem? (i := 116) rfl) rfl
theorem im_X7_sweepAll : Cond.instanceMethod yX7_sweepAll ∈ wAll := tb_4 (List.mem_of_getElem? (i := 117) rfl) rfl
theorem se_X7_sweepAll : Cond.selects RX7 yX7_sweepAll yX7_sweepAll ∈ wAll := tb_4 (List.mem_of_getElem? (i := 118) rfl) rfl
theorem co_X7_sweepAll : Cond.code yX7_sweepAll cX7_sweepAll 2 (some .int) ∈ wAll := tb_4 (List.mem_of_getElem? (i := 119) rfl) rfl
theorem ml_X7_108 : Cond.methodLink RX7 108 yX7_markedPages ∈ wAll := tb_4 (List.mem_of_getElem? (i := 120) rfl) rfl
theorem im_X7_markedPages : Cond.instanceMethod yX7_markedPages ∈ wAll := tb_4 (List.mem_of_getElem? (i := 122) rfl) rfl
theorem co_X7_markedPages : Cond.code yX7_markedPages cX7_markedPages 3 (some .int) ∈ wAll := tb_4 (List.mem_of_getElem? (i := 123) rfl) rfl
theorem ml_X7_105 : Cond.methodLink RX7 105 yX7_ofPage ∈ wAll := tb_4 (List.mem_of_getElem? (i := 124) rfl) rfl
theorem im_X7_ofPage : Cond.instanceMethod yX7_ofPage ∈ wAll := tb_4 (List.mem_of_getElem? (i := 126) rfl) rfl
theorem co_X7_ofPage : Cond.code yX7_ofPage cX7_ofPage 3 (some .int) ∈ wAll := tb_4 (List.mem_of_getElem? (i := 127) rfl) rfl
theorem ml_L_107 : Cond.methodLink RL 107 yX7_ask ∈ wAll := tb_4 (List.mem_of_getElem? (i := 128) rfl) rfl
theorem im_X7_ask : Cond.instanceMethod yX7_ask ∈ wAll := tb_4 (List.mem_of_getElem? (i := 129) rfl) rfl
theorem se_X7_ask : Cond.selects RX7 yX7_ask yX7_ask ∈ wAll := tb_4 (List.mem_of_getElem? (i := 130) rfl) rfl
theorem co_X7_ask : Cond.code yX7_ask cX7_ask 5 (some .int) ∈ wAll := tb_4 (List.mem_of_getElem? (i := 131) rfl) rfl
theorem ml_X7_114 : Cond.methodLink RX7 114 yX7_truly ∈ wAll := tb_4 (List.mem_of_getElem? (i := 132) rfl) rfl
theorem im_X7_truly : Cond.instanceMethod yX7_truly ∈ wAll := tb_4 (List.mem_of_getElem? (i := 134) rfl) rfl
theorem co_X7_truly : Cond.code yX7_truly cX7_truly 3 (some .int) ∈ wAll := tb_4 (List.mem_of_getElem? (i := 135) rfl) rfl
theorem ml_X7_111 : Cond.methodLink RX7 111 yX7_greatestMark ∈ wAll := tb_4 (List.mem_of_getElem? (i := 136) rfl) rfl
theorem im_X7_greatestMark : Cond.instanceMethod yX7_greatestMark ∈ wAll := tb_4 (List.mem_of_getElem? (i := 138) rfl) rfl
theorem co_X7_greatestMark : Cond.code yX7_greatestMark cX7_greatestMark 3 (some .int) ∈ wAll := tb_4 (List.mem_of_getElem? (i := 139) rfl) rfl
theorem ml_X7_123 : Cond.methodLink RX7 123 yX7_costs ∈ wAll := tb_4 (List.mem_of_getElem? (i := 140) rfl) rfl
theorem im_X7_costs : Cond.instanceMethod yX7_costs ∈ wAll := tb_4 (List.mem_of_getElem? (i := 142) rfl) rfl
theorem co_X7_costs : Cond.code yX7_costs cX7_costs 8 (some .int) ∈ wAll := tb_4 (List.mem_of_getElem? (i := 143) rfl) rfl
theorem ml_X7_120 : Cond.methodLink RX7 120 yX7_hasIn ∈ wAll := tb_4 (List.mem_of_getElem? (i := 144) rfl) rfl
theorem im_X7_hasIn : Cond.instanceMethod yX7_hasIn ∈ wAll := tb_4 (List.mem_of_getElem? (i := 146) rfl) rfl
theorem co_X7_hasIn : Cond.code yX7_hasIn cX7_hasIn 5 (some .boolean) ∈ wAll := tb_4 (List.mem_of_getElem? (i := 147) rfl) rfl
theorem ml_X7_117 : Cond.methodLink RX7 117 yX7_hasValue ∈ wAll := tb_4 (List.mem_of_getElem? (i := 148) rfl) rfl
theorem im_X7_hasValue : Cond.instanceMethod yX7_hasValue ∈ wAll := tb_4 (List.mem_of_getElem? (i := 150) rfl) rfl
theorem co_X7_hasValue : Cond.code yX7_hasValue cX7_hasValue 3 (some .boolean) ∈ wAll := tb_4 (List.mem_of_getElem? (i := 151) rfl) rfl
theorem ml_X7_126 : Cond.methodLink RX7 126 yX7_answers ∈ wAll := tb_4 (List.mem_of_getElem? (i := 152) rfl) rfl
theorem im_X7_answers : Cond.instanceMethod yX7_answers ∈ wAll := tb_4 (List.mem_of_getElem? (i := 154) rfl) rfl
theorem co_X7_answers : Cond.code yX7_answers cX7_answers 8 (some .int) ∈ wAll := tb_4 (List.mem_of_getElem? (i := 155) rfl) rfl
theorem ml_L_110 : Cond.methodLink RL 110 yX7_append ∈ wAll := tb_4 (List.mem_of_getElem? (i := 156) rfl) rfl
theorem im_X7_append : Cond.instanceMethod yX7_append ∈ wAll := tb_4 (List.mem_of_getElem? (i := 157) rfl) rfl
theorem se_X7_append : Cond.selects RX7 yX7_append yX7_append ∈ wAll := tb_4 (List.mem_of_getElem? (i := 158) rfl) rfl
theorem co_X7_append : Cond.code yX7_append cX7_append 2 (some .int) ∈ wAll := tb_4 (List.mem_of_getElem? (i := 159) rfl) rfl
theorem ml_L_114 : Cond.methodLink RL 114 yX7_clearBuffer ∈ wAll := tb_4 (List.mem_of_getElem? (i := 160) rfl) rfl
theorem im_X7_clearBuffer : Cond.instanceMethod yX7_clearBuffer ∈ wAll := tb_4 (List.mem_of_getElem? (i := 161) rfl) rfl
theorem se_X7_clearBuffer : Cond.selects RX7 yX7_clearBuffer yX7_clearBuffer ∈ wAll := tb_4 (List.mem_of_getElem? (i := 162) rfl) rfl
theorem co_X7_clearBuffer : Cond.code yX7_clearBuffer cX7_clearBuffer 2 (some .int) ∈ wAll := tb_4 (List.mem_of_getElem? (i := 163) rfl) rfl
theorem ml_L_118 : Cond.methodLink RL 118 yX7_firstError ∈ wAll := tb_4 (List.mem_of_getElem? (i := 164) rfl) rfl
theorem im_X7_firstError : Cond.instanceMethod yX7_firstError ∈ wAll := tb_4 (List.mem_of_getElem? (i := 165) rfl) rfl
theorem se_X7_firstError : Cond.selects RX7 yX7_firstError yX7_firstError ∈ wAll := tb_4 (List.mem_of_getElem? (i := 166) rfl) rfl
theorem co_X7_firstError : Cond.code yX7_firstError cX7_firstError 1 (some .int) ∈ wAll := tb_4 (List.mem_of_getElem? (i := 167) rfl) rfl
theorem ml_X7_154 : Cond.methodLink RX7 154 yX7_readsAll ∈ wAll := tb_4 (List.mem_of_getElem? (i := 168) rfl) rfl
theorem im_X7_readsAll : Cond.instanceMethod yX7_readsAll ∈ wAll := tb_4 (List.mem_of_getElem? (i := 170) rfl) rfl
theorem co_X7_readsAll : Cond.code yX7_readsAll cX7_readsAll 1 none ∈ wAll := tb_4 (List.mem_of_getElem? (i := 171) rfl) rfl
theorem ml_X7_151 : Cond.methodLink RX7 151 yX7_readsChange ∈ wAll := tb_4 (List.mem_of_getElem? (i := 172) rfl) rfl
theorem im_X7_readsChange : Cond.instanceMethod yX7_readsChange ∈ wAll := tb_4 (List.mem_of_getElem? (i := 174) rfl) rfl
theorem co_X7_readsChange : Cond.code yX7_readsChange cX7_readsChange 4 none ∈ wAll := tb_4 (List.mem_of_getElem? (i := 175) rfl) rfl
theorem ml_X7_139 : Cond.methodLink RX7 139 yX7_sign ∈ wAll := tb_4 (List.mem_of_getElem? (i := 176) rfl) rfl
theorem im_X7_sign : Cond.instanceMethod yX7_sign ∈ wAll := tb_4 (List.mem_of_getElem? (i := 178) rfl) rfl
theorem co_X7_sign : Cond.code yX7_sign cX7_sign 1 (some .int) ∈ wAll := tb_4 (List.mem_of_getElem? (i := 179) rfl) rfl
theorem ml_X7_142 : Cond.methodLink RX7 142 yX7_digit ∈ wAll := tb_4 (List.mem_of_getElem? (i := 180) rfl) rfl
theorem im_X7_digit : Cond.instanceMethod yX7_digit ∈ wAll := tb_4 (List.mem_of_getElem? (i := 182) rfl) rfl
theorem co_X7_digit : Cond.code yX7_digit cX7_digit 3 (some .int) ∈ wAll := tb_4 (List.mem_of_getElem? (i := 183) rfl) rfl
theorem ml_X7_148 : Cond.methodLink RX7 148 yX7_placeRead ∈ wAll := tb_4 (List.mem_of_getElem? (i := 184) rfl) rfl
theorem im_X7_placeRead : Cond.instanceMethod yX7_placeRead ∈ wAll := tb_4 (List.mem_of_getElem? (i := 186) rfl) rfl
theorem co_X7_placeRead : Cond.code yX7_placeRead cX7_placeRead 2 (some .int) ∈ wAll := tb_4 (List.mem_of_getElem? (i := 187) rfl) rfl
theorem ml_L_122 : Cond.methodLink RL 122 yX7_play ∈ wAll := tb_4 (List.mem_of_getElem? (i := 188) rfl) rfl
theorem im_X7_play : Cond.instanceMethod yX7_play ∈ wAll := tb_4 (List.mem_of_getElem? (i := 189) rfl) rfl
theorem se_X7_play : Cond.selects RX7 yX7_play yX7_play ∈ wAll := tb_4 (List.mem_of_getElem? (i := 190) rfl) rfl
theorem co_X7_play : Cond.code yX7_play cX7_play 2 (some .int) ∈ wAll := tb_4 (List.mem_of_getElem? (i := 191) rfl) rfl
theorem ml_X7_157 : Cond.methodLink RX7 157 yX7_makes ∈ wAll := tb_4 (List.mem_of_getElem? (i := 192) rfl) rfl
theorem im_X7_makes : Cond.instanceMethod yX7_makes ∈ wAll := tb_4 (List.mem_of_getElem? (i := 194) rfl) rfl
theorem co_X7_makes : Cond.code yX7_makes cX7_makes 3 (some .boolean) ∈ wAll := tb_4 (List.mem_of_getElem? (i := 195) rfl) rfl
theorem ml_L_125 : Cond.methodLink RL 125 yX7_undo ∈ wAll := tb_4 (List.mem_of_getElem? (i := 196) rfl) rfl
theorem im_X7_undo : Cond.instanceMethod yX7_undo ∈ wAll := tb_4 (List.mem_of_getElem? (i := 197) rfl) rfl
theorem se_X7_undo : Cond.selects RX7 yX7_undo yX7_undo ∈ wAll := tb_4 (List.mem_of_getElem? (i := 198) rfl) rfl
theorem co_X7_undo : Cond.code yX7_undo cX7_undo 2 (some .int) ∈ wAll := tb_4 (List.mem_of_getElem? (i := 199) rfl) rfl
theorem ml_L_128 : Cond.methodLink RL 128 yX7_slot ∈ wAll := tb_4 (List.mem_of_getElem? (i := 200) rfl) rfl
theorem im_X7_slot : Cond.instanceMethod yX7_slot ∈ wAll := tb_4 (List.mem_of_getElem? (i := 201) rfl) rfl
theorem se_X7_slot : Cond.selects RX7 yX7_slot yX7_slot ∈ wAll := tb_4 (List.mem_of_getElem? (i := 202) rfl) rfl
theorem co_X7_slot : Cond.code yX7_slot cX7_slot 3 (some .int) ∈ wAll := tb_4 (List.mem_of_getElem? (i := 203) rfl) rfl
theorem ml_X7_160 : Cond.methodLink RX7 160 yX7_tellsSlot ∈ wAll := tb_4 (List.mem_of_getElem? (i := 204) rfl) rfl
theorem im_X7_tellsSlot : Cond.instanceMethod yX7_tellsSlot ∈ wAll := tb_4 (List.mem_of_getElem? (i := 206) rfl) rfl
theorem co_X7_tellsSlot : Cond.code yX7_tellsSlot cX7_tellsSlot 3 (some .int) ∈ wAll := tb_4 (List.mem_of_getElem? (i := 207) rfl) rfl
theorem ml_L_131 : Cond.methodLink RL 131 yX7_page ∈ wAll := tb_4 (List.mem_of_getElem? (i := 208) rfl) rfl
theorem im_X7_page : Cond.instanceMethod yX7_page ∈ wAll := tb_4 (List.mem_of_getElem? (i := 209) rfl) rfl
theorem se_X7_page : Cond.selects RX7 yX7_page yX7_page ∈ wAll := tb_4 (List.mem_of_getElem? (i := 210) rfl) rfl
theorem co_X7_page : Cond.code yX7_page cX7_page 3 (some .int) ∈ wAll := tb_4 (List.mem_of_getElem? (i := 211) rfl) rfl
theorem ml_X7_167 : Cond.methodLink RX7 167 yX7_tellsPage ∈ wAll := tb_4 (List.mem_of_getElem? (i := 212) rfl) rfl
theorem im_X7_tellsPage : Cond.instanceMethod yX7_tellsPage ∈ wAll := tb_4 (List.mem_of_getElem? (i := 214) rfl) rfl
theorem co_X7_tellsPage : Cond.code yX7_tellsPage cX7_tellsPage 3 (some .int) ∈ wAll := tb_4 (List.mem_of_getElem? (i := 215) rfl) rfl
theorem ml_X7_163 : Cond.methodLink RX7 163 yX7_versions ∈ wAll := tb_4 (List.mem_of_getElem? (i := 216) rfl) rfl
theorem im_X7_versions : Cond.instanceMethod yX7_versions ∈ wAll := tb_4 (List.mem_of_getElem? (i := 218) rfl) rfl
theorem co_X7_versions : Cond.code yX7_versions cX7_versions 7 (some .int) ∈ wAll := tb_4 (List.mem_of_getElem? (i := 219) rfl) rfl
theorem ml_L_134 : Cond.methodLink RL 134 yX7_asker ∈ wAll := tb_4 (List.mem_of_getElem? (i := 220) rfl) rfl
theorem im_X7_asker : Cond.instanceMethod yX7_asker ∈ wAll := tb_4 (List.mem_of_getElem? (i := 221) rfl) rfl
theorem se_X7_asker : Cond.selects RX7 yX7_asker yX7_asker ∈ wAll := tb_4 (List.mem_of_getElem? (i := 222) rfl) rfl
theorem co_X7_asker : Cond.code yX7_asker cX7_asker 3 (some .int) ∈ wAll := tb_4 (List.mem_of_getElem? (i := 223) rfl) rfl
theorem ml_X7_170 : Cond.methodLink RX7 170 yX7_tellsAsker ∈ wAll := tb_4 (List.mem_of_getElem? (i := 224) rfl) rfl
theorem im_X7_tellsAsker : Cond.instanceMethod yX7_tellsAsker ∈ wAll := tb_4 (List.mem_of_getElem? (i := 226) rfl) rfl
theorem co_X7_tellsAsker : Cond.code yX7_tellsAsker cX7_tellsAsker 4 (some .int) ∈ wAll := tb_4 (List.mem_of_getElem? (i := 227) rfl) rfl
theorem ml_L_137 : Cond.methodLink RL 137 yX7_count ∈ wAll := tb_4 (List.mem_of_getElem? (i := 228) rfl) rfl
theorem im_X7_count : Cond.instanceMethod yX7_count ∈ wAll := tb_4 (List.mem_of_getElem? (i := 229) rfl) rfl
theorem se_X7_count : Cond.selects RX7 yX7_count yX7_count ∈ wAll := tb_4 (List.mem_of_getElem? (i := 230) rfl) rfl
theorem co_X7_count : Cond.code yX7_count cX7_count 2 (some .int) ∈ wAll := tb_4 (List.mem_of_getElem? (i := 231) rfl) rfl
theorem ml_X7_173 : Cond.methodLink RX7 173 yX7_tellsCount ∈ wAll := tb_4 (List.mem_of_getElem? (i := 232) rfl) rfl
theorem im_X7_tellsCount : Cond.instanceMethod yX7_tellsCount ∈ wAll := tb_4 (List.mem_of_getElem? (i := 234) rfl) rfl
theorem co_X7_tellsCount : Cond.code yX7_tellsCount cX7_tellsCount 2 (some .int) ∈ wAll := tb_4 (List.mem_of_getElem? (i := 235) rfl) rfl
theorem ml_L_141 : Cond.methodLink RL 141 yX7_ifAsked ∈ wAll := tb_4 (List.mem_of_getElem? (i := 236) rfl) rfl
theorem im_X7_ifAsked : Cond.instanceMethod yX7_ifAsked ∈ wAll := tb_4 (List.mem_of_getElem? (i := 237) rfl) rfl
theorem se_X7_ifAsked : Cond.selects RX7 yX7_ifAsked yX7_ifAsked ∈ wAll := tb_4 (List.mem_of_getElem? (i := 238) rfl) rfl
theorem co_X7_ifAsked : Cond.code yX7_ifAsked cX7_ifAsked 6 (some .int) ∈ wAll := tb_4 (List.mem_of_getElem? (i := 239) rfl) rfl
theorem ml_L_144 : Cond.methodLink RL 144 yX7_lies ∈ wAll := tb_5 (List.mem_of_getElem? (i := 0) rfl) rfl
theorem im_X7_lies : Cond.instanceMethod yX7_lies ∈ wAll := tb_5 (List.mem_of_getElem? (i := 1) rfl) rfl
theorem se_X7_lies : Cond.selects RX7 yX7_lies yX7_lies ∈ wAll := tb_5 (List.mem_of_getElem? (i := 2) rfl) rfl
theorem co_X7_lies : Cond.code yX7_lies cX7_lies 2 (some .int) ∈ wAll := tb_5 (List.mem_of_getElem? (i := 3) rfl) rfl
theorem ml_X7_176 : Cond.methodLink RX7 176 yX7_tellsLies ∈ wAll := tb_5 (List.mem_of_getElem? (i := 4) rfl) rfl
theorem im_X7_tellsLies : Cond.instanceMethod yX7_tellsLies ∈ wAll := tb_5 (List.mem_of_getElem? (i := 6) rfl) rfl
theorem co_X7_tellsLies : Cond.code yX7_tellsLies cX7_tellsLies 4 (some .int) ∈ wAll := tb_5 (List.mem_of_getElem? (i := 7) rfl) rfl
theorem ml_L_147 : Cond.methodLink RL 147 yX7_cheapest ∈ wAll := tb_5 (List.mem_of_getElem? (i := 8) rfl) rfl
theorem im_X7_cheapest : Cond.instanceMethod yX7_cheapest ∈ wAll := tb_5 (List.mem_of_getElem? (i := 9) rfl) rfl
theorem se_X7_cheapest : Cond.selects RX7 yX7_cheapest yX7_cheapest ∈ wAll := tb_5 (List.mem_of_getElem? (i := 10) rfl) rfl
theorem co_X7_cheapest : Cond.code yX7_cheapest cX7_cheapest 2 (some .int) ∈ wAll := tb_5 (List.mem_of_getElem? (i := 11) rfl) rfl
theorem ml_X7_179 : Cond.methodLink RX7 179 yX7_cheapestWay ∈ wAll := tb_5 (List.mem_of_getElem? (i := 12) rfl) rfl
theorem im_X7_cheapestWay : Cond.instanceMethod yX7_cheapestWay ∈ wAll := tb_5 (List.mem_of_getElem? (i := 14) rfl) rfl
theorem co_X7_cheapestWay : Cond.code yX7_cheapestWay cX7_cheapestWay 4 (some .int) ∈ wAll := tb_5 (List.mem_of_getElem? (i := 15) rfl) rfl
theorem ml_L_151 : Cond.methodLink RL 151 yX7_holder ∈ wAll := tb_5 (List.mem_of_getElem? (i := 16) rfl) rfl
theorem im_X7_holder : Cond.instanceMethod yX7_holder ∈ wAll := tb_5 (List.mem_of_getElem? (i := 17) rfl) rfl
theorem se_X7_holder : Cond.selects RX7 yX7_holder yX7_holder ∈ wAll := tb_5 (List.mem_of_getElem? (i := 18) rfl) rfl
theorem co_X7_holder : Cond.code yX7_holder cX7_holder 1 (some .int) ∈ wAll := tb_5 (List.mem_of_getElem? (i := 19) rfl) rfl
theorem ml_X7_185 : Cond.methodLink RX7 185 yX7_holderNow ∈ wAll := tb_5 (List.mem_of_getElem? (i := 20) rfl) rfl
theorem im_X7_holderNow : Cond.instanceMethod yX7_holderNow ∈ wAll := tb_5 (List.mem_of_getElem? (i := 22) rfl) rfl
theorem co_X7_holderNow : Cond.code yX7_holderNow cX7_holderNow 5 (some .int) ∈ wAll := tb_5 (List.mem_of_getElem? (i := 23) rfl) rfl
theorem ml_X7_182 : Cond.methodLink RX7 182 yX7_oldOnes ∈ wAll := tb_5 (List.mem_of_getElem? (i := 24) rfl) rfl
theorem im_X7_oldOnes : Cond.instanceMethod yX7_oldOnes ∈ wAll := tb_5 (List.mem_of_getElem? (i := 26) rfl) rfl
theorem co_X7_oldOnes : Cond.code yX7_oldOnes cX7_oldOnes 4 (some .int) ∈ wAll := tb_5 (List.mem_of_getElem? (i := 27) rfl) rfl
theorem ml_L_156 : Cond.methodLink RL 156 yX7_marked ∈ wAll := tb_5 (List.mem_of_getElem? (i := 28) rfl) rfl
theorem im_X7_marked : Cond.instanceMethod yX7_marked ∈ wAll := tb_5 (List.mem_of_getElem? (i := 29) rfl) rfl
theorem se_X7_marked : Cond.selects RX7 yX7_marked yX7_marked ∈ wAll := tb_5 (List.mem_of_getElem? (i := 30) rfl) rfl
theorem co_X7_marked : Cond.code yX7_marked cX7_marked 1 (some .double) ∈ wAll := tb_5 (List.mem_of_getElem? (i := 31) rfl) rfl
theorem ml_X7_190 : Cond.methodLink RX7 190 yX7_share ∈ wAll := tb_5 (List.mem_of_getElem? (i := 32) rfl) rfl
theorem im_X7_share : Cond.instanceMethod yX7_share ∈ wAll := tb_5 (List.mem_of_getElem? (i := 34) rfl) rfl
theorem co_X7_share : Cond.code yX7_share cX7_share 1 (some .double) ∈ wAll := tb_5 (List.mem_of_getElem? (i := 35) rfl) rfl
theorem kc_X7_188 : Cond.constantDouble RX7 188 (4618441417868443648) ∈ wAll := tb_5 (List.mem_of_getElem? (i := 36) rfl) rfl
theorem ml_L_161 : Cond.methodLink RL 161 yX7_digest ∈ wAll := tb_5 (List.mem_of_getElem? (i := 37) rfl) rfl
theorem im_X7_digest : Cond.instanceMethod yX7_digest ∈ wAll := tb_5 (List.mem_of_getElem? (i := 38) rfl) rfl
theorem se_X7_digest : Cond.selects RX7 yX7_digest yX7_digest ∈ wAll := tb_5 (List.mem_of_getElem? (i := 39) rfl) rfl
theorem co_X7_digest : Cond.code yX7_digest cX7_digest 2 (some .long) ∈ wAll := tb_5 (List.mem_of_getElem? (i := 40) rfl) rfl
theorem kc_X7_204 : Cond.constantLong RX7 204 (3467) ∈ wAll := tb_5 (List.mem_of_getElem? (i := 41) rfl) rfl
theorem ml_X7_200 : Cond.methodLink RX7 200 yX7_hashes ∈ wAll := tb_5 (List.mem_of_getElem? (i := 42) rfl) rfl
theorem im_X7_hashes : Cond.instanceMethod yX7_hashes ∈ wAll := tb_5 (List.mem_of_getElem? (i := 44) rfl) rfl
theorem co_X7_hashes : Cond.code yX7_hashes cX7_hashes 3 none ∈ wAll := tb_5 (List.mem_of_getElem? (i := 45) rfl) rfl
theorem kc_X7_194 : Cond.constantLong RX7 194 (31) ∈ wAll := tb_5 (List.mem_of_getElem? (i := 46) rfl) rfl
theorem ml_X7_206 : Cond.methodLink RX7 206 yX7_hashesValue ∈ wAll := tb_5 (List.mem_of_getElem? (i := 47) rfl) rfl
theorem im_X7_hashesValue : Cond.instanceMethod yX7_hashesValue ∈ wAll := tb_5 (List.mem_of_getElem? (i := 49) rfl) rfl
theorem co_X7_hashesValue : Cond.code yX7_hashesValue cX7_hashesValue 3 none ∈ wAll := tb_5 (List.mem_of_getElem? (i := 50) rfl) rfl
theorem ml_X7_209 : Cond.methodLink RX7 209 yJxe99ae_doubleToLongBits_ccdee ∈ wAll := tb_5 (List.mem_of_getElem? (i := 51) rfl) rfl
theorem st_Jxe99ae_doubleToLongBits_ccdee : Cond.static yJxe99ae_doubleToLongBits_ccdee ∈ wAll := tb_5 (List.mem_of_getElem? (i := 52) rfl) rfl
theorem co_Jxe99ae_doubleToLongBits_ccdee : Cond.code yJxe99ae_doubleToLongBits_ccdee cJxe99ae_doubleToLongBits_ccdee 2 (some .long) ∈ wAll := tb_5 (List.mem_of_getElem? (i := 53) rfl) rfl
theorem ml_Jxe99ae_122 : Cond.methodLink RJxe99ae 122 yJxe99ae_isNaN_b9ae7 ∈ wAll := tb_5 (List.mem_of_getElem? (i := 54) rfl) rfl
theorem st_Jxe99ae_isNaN_b9ae7 : Cond.static yJxe99ae_isNaN_b9ae7 ∈ wAll := tb_5 (List.mem_of_getElem? (i := 55) rfl) rfl
theorem co_Jxe99ae_isNaN_b9ae7 : Cond.code yJxe99ae_isNaN_b9ae7 cJxe99ae_isNaN_b9ae7 2 (some .boolean) ∈ wAll := tb_5 (List.mem_of_getElem? (i := 56) rfl) rfl
theorem kc_Jxe99ae_137 : Cond.constantLong RJxe99ae 137 (9221120237041090560) ∈ wAll := tb_5 (List.mem_of_getElem? (i := 60) rfl) rfl
theorem ac_long : Cond.arrayClass .long ∈ wAll := tb_5 (List.mem_of_getElem? (i := 61) rfl) rfl
theorem se_X3_isToTakeOut : Cond.selects RX3 yX3_isToTakeOut yX3_isToTakeOut ∈ wAll := tb_0 (q := (yX3_isToTakeOut, 6)) (List.mem_append_left _ (List.mem_of_getElem? (i := 0) rfl))
theorem se_X3_empty : Cond.selects RX3 yX3_empty yX3_empty ∈ wAll := tb_0 (q := (yX3_empty, 6)) (List.mem_append_left _ (List.mem_of_getElem? (i := 1) rfl))
theorem se_X3_isSeenByAll : Cond.selects RX3 yX3_isSeenByAll yX3_isSeenByAll ∈ wAll := tb_0 (q := (yX3_isSeenByAll, 6)) (List.mem_append_left _ (List.mem_of_getElem? (i := 2) rfl))
theorem se_X5_readSign : Cond.selects RX5 yX5_readSign yX5_readSign ∈ wAll := tb_0 (q := (yX5_readSign, 6)) (List.mem_append_left _ (List.mem_of_getElem? (i := 3) rfl))
theorem se_X5_readDigit : Cond.selects RX5 yX5_readDigit yX5_readDigit ∈ wAll := tb_0 (q := (yX5_readDigit, 6)) (List.mem_append_left _ (List.mem_of_getElem? (i := 4) rfl))
theorem se_X5_digitHere : Cond.selects RX5 yX5_digitHere yX5_digitHere ∈ wAll := tb_0 (q := (yX5_digitHere, 6)) (List.mem_append_left _ (List.mem_of_getElem? (i := 5) rfl))
theorem se_X5_readPlace : Cond.selects RX5 yX5_readPlace yX5_readPlace ∈ wAll := tb_0 (q := (yX5_readPlace, 6)) (List.mem_append_left _ (List.mem_of_getElem? (i := 6) rfl))
theorem se_X6_mostHolding : Cond.selects RX6 yX6_mostHolding yX6_mostHolding ∈ wAll := tb_0 (q := (yX6_mostHolding, 3)) (List.mem_append_left _ (List.mem_of_getElem? (i := 7) rfl))
theorem se_X6_markedShare : Cond.selects RX6 yX6_markedShare yX6_markedShare ∈ wAll := tb_0 (q := (yX6_markedShare, 3)) (List.mem_append_left _ (List.mem_of_getElem? (i := 8) rfl))
theorem se_X6_countNumber : Cond.selects RX6 yX6_countNumber yX6_countNumber ∈ wAll := tb_0 (q := (yX6_countNumber, 3)) (List.mem_append_left _ (List.mem_of_getElem? (i := 9) rfl))
theorem se_X6_mixParts : Cond.selects RX6 yX6_mixParts yX6_mixParts ∈ wAll := tb_0 (q := (yX6_mixParts, 3)) (List.mem_append_left _ (List.mem_of_getElem? (i := 10) rfl))
theorem se_X6_slotNumber : Cond.selects RX6 yX6_slotNumber yX6_slotNumber ∈ wAll := tb_0 (q := (yX6_slotNumber, 3)) (List.mem_append_left _ (List.mem_of_getElem? (i := 11) rfl))
theorem se_X6_pageNumber : Cond.selects RX6 yX6_pageNumber yX6_pageNumber ∈ wAll := tb_0 (q := (yX6_pageNumber, 3)) (List.mem_append_left _ (List.mem_of_getElem? (i := 12) rfl))
theorem se_X6_askerNumber : Cond.selects RX6 yX6_askerNumber yX6_askerNumber ∈ wAll := tb_0 (q := (yX6_askerNumber, 3)) (List.mem_append_left _ (List.mem_of_getElem? (i := 13) rfl))
theorem se_X6_mixValue : Cond.selects RX6 yX6_mixValue yX6_mixValue ∈ wAll := tb_0 (q := (yX6_mixValue, 3)) (List.mem_append_left _ (List.mem_of_getElem? (i := 14) rfl))
theorem se_X3_indexHas : Cond.selects RX3 yX3_indexHas yX3_indexHas ∈ wAll := tb_0 (q := (yX3_indexHas, 6)) (List.mem_append_left _ (List.mem_of_getElem? (i := 15) rfl))
theorem se_X3_come : Cond.selects RX3 yX3_come yX3_come ∈ wAll := tb_0 (q := (yX3_come, 6)) (List.mem_append_right _ (List.mem_append_left _ (List.mem_of_getElem? (i := 1) rfl)))
theorem se_X3_go : Cond.selects RX3 yX3_go yX3_go ∈ wAll := tb_0 (q := (yX3_go, 6)) (List.mem_append_right _ (List.mem_append_left _ (List.mem_of_getElem? (i := 2) rfl)))
theorem se_X6_makeParts : Cond.selects RX6 yX6_makeParts yX6_makeParts ∈ wAll := tb_0 (q := (yX6_makeParts, 3)) (List.mem_append_right _ (List.mem_append_left _ (List.mem_of_getElem? (i := 3) rfl)))
theorem se_X7_fails : Cond.selects RX7 yX7_fails yX7_fails ∈ wAll := tb_0 (q := (yX7_fails, 11)) (List.mem_append_right _ (List.mem_append_left _ (List.mem_of_getElem? (i := 4) rfl)))
theorem se_X7_canChange : Cond.selects RX7 yX7_canChange yX7_canChange ∈ wAll := tb_0 (q := (yX7_canChange, 11)) (List.mem_append_right _ (List.mem_append_left _ (List.mem_of_getElem? (i := 5) rfl)))
theorem se_X7_isSeen : Cond.selects RX7 yX7_isSeen yX7_isSeen ∈ wAll := tb_0 (q := (yX7_isSeen, 11)) (List.mem_append_right _ (List.mem_append_left _ (List.mem_of_getElem? (i := 6) rfl)))
theorem se_X7_isFull : Cond.selects RX7 yX7_isFull yX7_isFull ∈ wAll := tb_0 (q := (yX7_isFull, 11)) (List.mem_append_right _ (List.mem_append_left _ (List.mem_of_getElem? (i := 7) rfl)))
theorem se_X7_of : Cond.selects RX7 yX7_of yX7_of ∈ wAll := tb_0 (q := (yX7_of, 11)) (List.mem_append_right _ (List.mem_append_left _ (List.mem_of_getElem? (i := 8) rfl)))
theorem se_X7_lowestEmpty : Cond.selects RX7 yX7_lowestEmpty yX7_lowestEmpty ∈ wAll := tb_0 (q := (yX7_lowestEmpty, 11)) (List.mem_append_right _ (List.mem_append_left _ (List.mem_of_getElem? (i := 9) rfl)))
theorem se_X7_saves : Cond.selects RX7 yX7_saves yX7_saves ∈ wAll := tb_0 (q := (yX7_saves, 11)) (List.mem_append_right _ (List.mem_append_left _ (List.mem_of_getElem? (i := 10) rfl)))
theorem se_X7_changes : Cond.selects RX7 yX7_changes yX7_changes ∈ wAll := tb_0 (q := (yX7_changes, 11)) (List.mem_append_right _ (List.mem_append_left _ (List.mem_of_getElem? (i := 11) rfl)))
theorem se_X7_goes : Cond.selects RX7 yX7_goes yX7_goes ∈ wAll := tb_0 (q := (yX7_goes, 11)) (List.mem_append_right _ (List.mem_append_left _ (List.mem_of_getElem? (i := 12) rfl)))
theorem se_X7_unmarks : Cond.selects RX7 yX7_unmarks yX7_unmarks ∈ wAll := tb_0 (q := (yX7_unmarks, 11)) (List.mem_append_right _ (List.mem_append_left _ (List.mem_of_getElem? (i := 13) rfl)))
theorem se_X7_comes : Cond.selects RX7 yX7_comes yX7_comes ∈ wAll := tb_0 (q := (yX7_comes, 11)) (List.mem_append_right _ (List.mem_append_left _ (List.mem_of_getElem? (i := 14) rfl)))
theorem se_X7_lay : Cond.selects RX7 yX7_lay yX7_lay ∈ wAll := tb_0 (q := (yX7_lay, 11)) (List.mem_append_right _ (List.mem_append_left _ (List.mem_of_getElem? (i := 15) rfl)))
theorem se_X7_snapshotOf : Cond.selects RX7 yX7_snapshotOf yX7_snapshotOf ∈ wAll := tb_0 (q := (yX7_snapshotOf, 11)) (List.mem_append_right _ (List.mem_append_right _ (List.mem_append_left _ (List.mem_of_getElem? (i := 0) rfl))))
theorem se_X7_sweeps : Cond.selects RX7 yX7_sweeps yX7_sweeps ∈ wAll := tb_0 (q := (yX7_sweeps, 11)) (List.mem_append_right _ (List.mem_append_right _ (List.mem_append_left _ (List.mem_of_getElem? (i := 1) rfl))))
theorem se_X7_horizon : Cond.selects RX7 yX7_horizon yX7_horizon ∈ wAll := tb_0 (q := (yX7_horizon, 11)) (List.mem_append_right _ (List.mem_append_right _ (List.mem_append_left _ (List.mem_of_getElem? (i := 2) rfl))))
theorem se_X7_horizonBut : Cond.selects RX7 yX7_horizonBut yX7_horizonBut ∈ wAll := tb_0 (q := (yX7_horizonBut, 11)) (List.mem_append_right _ (List.mem_append_right _ (List.mem_append_left _ (List.mem_of_getElem? (i := 3) rfl))))
theorem se_X7_oldIn : Cond.selects RX7 yX7_oldIn yX7_oldIn ∈ wAll := tb_0 (q := (yX7_oldIn, 11)) (List.mem_append_right _ (List.mem_append_right _ (List.mem_append_left _ (List.mem_of_getElem? (i := 4) rfl))))
theorem se_X7_isOld : Cond.selects RX7 yX7_isOld yX7_isOld ∈ wAll := tb_0 (q := (yX7_isOld, 11)) (List.mem_append_right _ (List.mem_append_right _ (List.mem_append_left _ (List.mem_of_getElem? (i := 5) rfl))))
theorem se_X7_markedPages : Cond.selects RX7 yX7_markedPages yX7_markedPages ∈ wAll := tb_0 (q := (yX7_markedPages, 11)) (List.mem_append_right _ (List.mem_append_right _ (List.mem_append_left _ (List.mem_of_getElem? (i := 6) rfl))))
theorem se_X7_ofPage : Cond.selects RX7 yX7_ofPage yX7_ofPage ∈ wAll := tb_0 (q := (yX7_ofPage, 11)) (List.mem_append_right _ (List.mem_append_right _ (List.mem_append_left _ (List.mem_of_getElem? (i := 7) rfl))))
theorem se_X7_truly : Cond.selects RX7 yX7_truly yX7_truly ∈ wAll := tb_0 (q := (yX7_truly, 11)) (List.mem_append_right _ (List.mem_append_right _ (List.mem_append_left _ (List.mem_of_getElem? (i := 8) rfl))))
theorem se_X7_greatestMark : Cond.selects RX7 yX7_greatestMark yX7_greatestMark ∈ wAll := tb_0 (q := (yX7_greatestMark, 11)) (List.mem_append_right _ (List.mem_append_right _ (List.mem_append_left _ (List.mem_of_getElem? (i := 9) rfl))))
theorem se_X7_costs : Cond.selects RX7 yX7_costs yX7_costs ∈ wAll := tb_0 (q := (yX7_costs, 11)) (List.mem_append_right _ (List.mem_append_right _ (List.mem_append_left _ (List.mem_of_getElem? (i := 10) rfl))))
theorem se_X7_hasIn : Cond.selects RX7 yX7_hasIn yX7_hasIn ∈ wAll := tb_0 (q := (yX7_hasIn, 11)) (List.mem_append_right _ (List.mem_append_right _ (List.mem_append_left _ (List.mem_of_getElem? (i := 11) rfl))))
theorem se_X7_hasValue : Cond.selects RX7 yX7_hasValue yX7_hasValue ∈ wAll := tb_0 (q := (yX7_hasValue, 11)) (List.mem_append_right _ (List.mem_append_right _ (List.mem_append_left _ (List.mem_of_getElem? (i := 12) rfl))))
theorem se_X7_answers : Cond.selects RX7 yX7_answers yX7_answers ∈ wAll := tb_0 (q := (yX7_answers, 11)) (List.mem_append_right _ (List.mem_append_right _ (List.mem_append_left _ (List.mem_of_getElem? (i := 13) rfl))))
theorem se_X7_readsAll : Cond.selects RX7 yX7_readsAll yX7_readsAll ∈ wAll := tb_0 (q := (yX7_readsAll, 11)) (List.mem_append_right _ (List.mem_append_right _ (List.mem_append_left _ (List.mem_of_getElem? (i := 14) rfl))))
theorem se_X7_readsChange : Cond.selects RX7 yX7_readsChange yX7_readsChange ∈ wAll := tb_0 (q := (yX7_readsChange, 11)) (List.mem_append_right _ (List.mem_append_right _ (List.mem_append_left _ (List.mem_of_getElem? (i := 15) rfl))))
theorem se_X7_sign : Cond.selects RX7 yX7_sign yX7_sign ∈ wAll := tb_0 (q := (yX7_sign, 11)) (List.mem_append_right _ (List.mem_append_right _ (List.mem_append_right _ (List.mem_of_getElem? (i := 0) rfl))))
theorem se_X7_digit : Cond.selects RX7 yX7_digit yX7_digit ∈ wAll := tb_0 (q := (yX7_digit, 11)) (List.mem_append_right _ (List.mem_append_right _ (List.mem_append_right _ (List.mem_of_getElem? (i := 1) rfl))))
theorem se_X7_placeRead : Cond.selects RX7 yX7_placeRead yX7_placeRead ∈ wAll := tb_0 (q := (yX7_placeRead, 11)) (List.mem_append_right _ (List.mem_append_right _ (List.mem_append_right _ (List.mem_of_getElem? (i := 2) rfl))))
theorem se_X7_makes : Cond.selects RX7 yX7_makes yX7_makes ∈ wAll := tb_0 (q := (yX7_makes, 11)) (List.mem_append_right _ (List.mem_append_right _ (List.mem_append_right _ (List.mem_of_getElem? (i := 3) rfl))))
theorem se_X7_tellsSlot : Cond.selects RX7 yX7_tellsSlot yX7_tellsSlot ∈ wAll := tb_0 (q := (yX7_tellsSlot, 11)) (List.mem_append_right _ (List.mem_append_right _ (List.mem_append_right _ (List.mem_of_getElem? (i := 4) rfl))))
theorem se_X7_tellsPage : Cond.selects RX7 yX7_tellsPage yX7_tellsPage ∈ wAll := tb_0 (q := (yX7_tellsPage, 11)) (List.mem_append_right _ (List.mem_append_right _ (List.mem_append_right _ (List.mem_of_getElem? (i := 5) rfl))))
theorem se_X7_versions : Cond.selects RX7 yX7_versions yX7_versions ∈ wAll := tb_0 (q := (yX7_versions, 11)) (List.mem_append_right _ (List.mem_append_right _ (List.mem_append_right _ (List.mem_of_getElem? (i := 6) rfl))))
theorem se_X7_tellsAsker : Cond.selects RX7 yX7_tellsAsker yX7_tellsAsker ∈ wAll := tb_0 (q := (yX7_tellsAsker, 11)) (List.mem_append_right _ (List.mem_append_right _ (List.mem_append_right _ (List.mem_of_getElem? (i := 7) rfl))))
theorem se_X7_tellsCount : Cond.selects RX7 yX7_tellsCount yX7_tellsCount ∈ wAll := tb_0 (q := (yX7_tellsCount, 11)) (List.mem_append_right _ (List.mem_append_right _ (List.mem_append_right _ (List.mem_of_getElem? (i := 8) rfl))))
theorem se_X7_tellsLies : Cond.selects RX7 yX7_tellsLies yX7_tellsLies ∈ wAll := tb_0 (q := (yX7_tellsLies, 11)) (List.mem_append_right _ (List.mem_append_right _ (List.mem_append_right _ (List.mem_of_getElem? (i := 9) rfl))))
theorem se_X7_cheapestWay : Cond.selects RX7 yX7_cheapestWay yX7_cheapestWay ∈ wAll := tb_0 (q := (yX7_cheapestWay, 11)) (List.mem_append_right _ (List.mem_append_right _ (List.mem_append_right _ (List.mem_of_getElem? (i := 10) rfl))))
theorem se_X7_holderNow : Cond.selects RX7 yX7_holderNow yX7_holderNow ∈ wAll := tb_0 (q := (yX7_holderNow, 11)) (List.mem_append_right _ (List.mem_append_right _ (List.mem_append_right _ (List.mem_of_getElem? (i := 11) rfl))))
theorem se_X7_oldOnes : Cond.selects RX7 yX7_oldOnes yX7_oldOnes ∈ wAll := tb_0 (q := (yX7_oldOnes, 11)) (List.mem_append_right _ (List.mem_append_right _ (List.mem_append_right _ (List.mem_of_getElem? (i := 12) rfl))))
theorem se_X7_share : Cond.selects RX7 yX7_share yX7_share ∈ wAll := tb_0 (q := (yX7_share, 11)) (List.mem_append_right _ (List.mem_append_right _ (List.mem_append_right _ (List.mem_of_getElem? (i := 13) rfl))))
theorem se_X7_hashes : Cond.selects RX7 yX7_hashes yX7_hashes ∈ wAll := tb_0 (q := (yX7_hashes, 11)) (List.mem_append_right _ (List.mem_append_right _ (List.mem_append_right _ (List.mem_of_getElem? (i := 14) rfl))))
theorem se_X7_hashesValue : Cond.selects RX7 yX7_hashesValue yX7_hashesValue ∈ wAll := tb_0 (q := (yX7_hashesValue, 11)) (List.mem_append_right _ (List.mem_append_right _ (List.mem_append_right _ (List.mem_of_getElem? (i := 15) rfl))))
theorem lay_X0_0 : u_lay RX0 TX0 0 ∈ wAll := tb_1 (List.mem_of_getElem? (i := 80) rfl) rfl
theorem lay_X0_1 : u_lay RX0 TX0 1 ∈ wAll := tb_1 (List.mem_of_getElem? (i := 82) rfl) rfl
theorem in_lay_X0 : ∀ w ∈ u_ws RX0 TX0 2, w ∈ wAll := by
  show ∀ w ∈ [u_lay RX0 TX0 0, u_lay RX0 TX0 1], w ∈ wAll
  exact List.forall_mem_cons.mpr ⟨lay_X0_0, List.forall_mem_cons.mpr ⟨lay_X0_1, fun _ h => absurd h List.not_mem_nil⟩⟩
theorem lay_X1_0 : u_lay RX1 TX1 0 ∈ wAll := tb_1 (List.mem_of_getElem? (i := 130) rfl) rfl
theorem lay_X1_1 : u_lay RX1 TX1 1 ∈ wAll := tb_1 (List.mem_of_getElem? (i := 132) rfl) rfl
theorem lay_X1_2 : u_lay RX1 TX1 2 ∈ wAll := tb_1 (List.mem_of_getElem? (i := 134) rfl) rfl
theorem in_lay_X1 : ∀ w ∈ u_ws RX1 TX1 3, w ∈ wAll := by
  show ∀ w ∈ [u_lay RX1 TX1 0, u_lay RX1 TX1 1, u_lay RX1 TX1 2], w ∈ wAll
  exact List.forall_mem_cons.mpr ⟨lay_X1_0, List.forall_mem_cons.mpr ⟨lay_X1_1, List.forall_mem_cons.mpr ⟨lay_X1_2, fun _ h => absurd h List.not_mem_nil⟩⟩⟩
theorem lay_X2_0 : u_lay RX2 TX2 0 ∈ wAll := tb_1 (List.mem_of_getElem? (i := 110) rfl) rfl
theorem lay_X2_1 : u_lay RX2 TX2 1 ∈ wAll := tb_1 (List.mem_of_getElem? (i := 112) rfl) rfl
theorem lay_X2_2 : u_lay RX2 TX2 2 ∈ wAll := tb_1 (List.mem_of_getElem? (i := 114) rfl) rfl
theorem in_lay_X2 : ∀ w ∈ u_ws RX2 TX2 3, w ∈ wAll := by
  show ∀ w ∈ [u_lay RX2 TX2 0, u_lay RX2 TX2 1, u_lay RX2 TX2 2], w ∈ wAll
  exact List.forall_mem_cons.mpr ⟨lay_X2_0, List.forall_mem_cons.mpr ⟨lay_X2_1, List.forall_mem_cons.mpr ⟨lay_X2_2, fun _ h => absurd h List.not_mem_nil⟩⟩⟩
theorem lay_X3_0 : u_lay RX3 TX3 0 ∈ wAll := tb_1 (List.mem_of_getElem? (i := 55) rfl) rfl
theorem lay_X3_1 : u_lay RX3 TX3 1 ∈ wAll := tb_1 (List.mem_of_getElem? (i := 57) rfl) rfl
theorem lay_X3_2 : u_lay RX3 TX3 2 ∈ wAll := tb_1 (List.mem_of_getElem? (i := 59) rfl) rfl
theorem lay_X3_3 : u_lay RX3 TX3 3 ∈ wAll := tb_1 (List.mem_of_getElem? (i := 61) rfl) rfl
theorem lay_X3_4 : u_lay RX3 TX3 4 ∈ wAll := tb_1 (List.mem_of_getElem? (i := 63) rfl) rfl
theorem lay_X3_5 : u_lay RX3 TX3 5 ∈ wAll := tb_1 (List.mem_of_getElem? (i := 65) rfl) rfl
theorem in_lay_X3 : ∀ w ∈ u_ws RX3 TX3 6, w ∈ wAll := by
  show ∀ w ∈ [u_lay RX3 TX3 0, u_lay RX3 TX3 1, u_lay RX3 TX3 2, u_lay RX3 TX3 3, u_lay RX3 TX3 4, u_lay RX3 TX3 5], w ∈ wAll
  exact List.forall_mem_cons.mpr ⟨lay_X3_0, List.forall_mem_cons.mpr ⟨lay_X3_1, List.forall_mem_cons.mpr ⟨lay_X3_2, List.forall_mem_cons.mpr ⟨lay_X3_3, List.forall_mem_cons.mpr ⟨lay_X3_4, List.forall_mem_cons.mpr ⟨lay_X3_5, fun _ h => absurd h List.not_mem_nil⟩⟩⟩⟩⟩⟩
theorem lay_X4_0 : u_lay RX4 TX4 0 ∈ wAll := tb_1 (List.mem_of_getElem? (i := 97) rfl) rfl
theorem lay_X4_1 : u_lay RX4 TX4 1 ∈ wAll := tb_1 (List.mem_of_getElem? (i := 99) rfl) rfl
theorem lay_X4_2 : u_lay RX4 TX4 2 ∈ wAll := tb_1 (List.mem_of_getElem? (i := 101) rfl) rfl
theorem in_lay_X4 : ∀ w ∈ u_ws RX4 TX4 3, w ∈ wAll := by
  show ∀ w ∈ [u_lay RX4 TX4 0, u_lay RX4 TX4 1, u_lay RX4 TX4 2], w ∈ wAll
  exact List.forall_mem_cons.mpr ⟨lay_X4_0, List.forall_mem_cons.mpr ⟨lay_X4_1, List.forall_mem_cons.mpr ⟨lay_X4_2, fun _ h => absurd h List.not_mem_nil⟩⟩⟩
theorem lay_X5_0 : u_lay RX5 TX5 0 ∈ wAll := tb_1 (List.mem_of_getElem? (i := 154) rfl) rfl
theorem lay_X5_1 : u_lay RX5 TX5 1 ∈ wAll := tb_1 (List.mem_of_getElem? (i := 156) rfl) rfl
theorem lay_X5_2 : u_lay RX5 TX5 2 ∈ wAll := tb_1 (List.mem_of_getElem? (i := 158) rfl) rfl
theorem lay_X5_3 : u_lay RX5 TX5 3 ∈ wAll := tb_1 (List.mem_of_getElem? (i := 160) rfl) rfl
theorem lay_X5_4 : u_lay RX5 TX5 4 ∈ wAll := tb_1 (List.mem_of_getElem? (i := 162) rfl) rfl
theorem lay_X5_5 : u_lay RX5 TX5 5 ∈ wAll := tb_1 (List.mem_of_getElem? (i := 164) rfl) rfl
theorem in_lay_X5 : ∀ w ∈ u_ws RX5 TX5 6, w ∈ wAll := by
  show ∀ w ∈ [u_lay RX5 TX5 0, u_lay RX5 TX5 1, u_lay RX5 TX5 2, u_lay RX5 TX5 3, u_lay RX5 TX5 4, u_lay RX5 TX5 5], w ∈ wAll
  exact List.forall_mem_cons.mpr ⟨lay_X5_0, List.forall_mem_cons.mpr ⟨lay_X5_1, List.forall_mem_cons.mpr ⟨lay_X5_2, List.forall_mem_cons.mpr ⟨lay_X5_3, List.forall_mem_cons.mpr ⟨lay_X5_4, List.forall_mem_cons.mpr ⟨lay_X5_5, fun _ h => absurd h List.not_mem_nil⟩⟩⟩⟩⟩⟩
theorem lay_X6_0 : u_lay RX6 TX6 0 ∈ wAll := tb_1 (List.mem_of_getElem? (i := 171) rfl) rfl
theorem lay_X6_1 : u_lay RX6 TX6 1 ∈ wAll := tb_1 (List.mem_of_getElem? (i := 173) rfl) rfl
theorem lay_X6_2 : u_lay RX6 TX6 2 ∈ wAll := tb_1 (List.mem_of_getElem? (i := 175) rfl) rfl
theorem in_lay_X6 : ∀ w ∈ u_ws RX6 TX6 3, w ∈ wAll := by
  show ∀ w ∈ [u_lay RX6 TX6 0, u_lay RX6 TX6 1, u_lay RX6 TX6 2], w ∈ wAll
  exact List.forall_mem_cons.mpr ⟨lay_X6_0, List.forall_mem_cons.mpr ⟨lay_X6_1, List.forall_mem_cons.mpr ⟨lay_X6_2, fun _ h => absurd h List.not_mem_nil⟩⟩⟩
theorem lay_X7_0 : u_lay RX7 TX7 0 ∈ wAll := tb_3 (List.mem_of_getElem? (i := 221) rfl) rfl
theorem lay_X7_1 : u_lay RX7 TX7 1 ∈ wAll := tb_3 (List.mem_of_getElem? (i := 223) rfl) rfl
theorem lay_X7_2 : u_lay RX7 TX7 2 ∈ wAll := tb_3 (List.mem_of_getElem? (i := 225) rfl) rfl
theorem lay_X7_3 : u_lay RX7 TX7 3 ∈ wAll := tb_3 (List.mem_of_getElem? (i := 227) rfl) rfl
theorem lay_X7_4 : u_lay RX7 TX7 4 ∈ wAll := tb_3 (List.mem_of_getElem? (i := 229) rfl) rfl
theorem lay_X7_5 : u_lay RX7 TX7 5 ∈ wAll := tb_3 (List.mem_of_getElem? (i := 231) rfl) rfl
theorem lay_X7_6 : u_lay RX7 TX7 6 ∈ wAll := tb_3 (List.mem_of_getElem? (i := 233) rfl) rfl
theorem lay_X7_7 : u_lay RX7 TX7 7 ∈ wAll := tb_3 (List.mem_of_getElem? (i := 235) rfl) rfl
theorem lay_X7_8 : u_lay RX7 TX7 8 ∈ wAll := tb_3 (List.mem_of_getElem? (i := 237) rfl) rfl
theorem lay_X7_9 : u_lay RX7 TX7 9 ∈ wAll := tb_3 (List.mem_of_getElem? (i := 239) rfl) rfl
theorem lay_X7_10 : u_lay RX7 TX7 10 ∈ wAll := tb_4 (List.mem_of_getElem? (i := 1) rfl) rfl
theorem in_lay_X7 : ∀ w ∈ u_ws RX7 TX7 11, w ∈ wAll := by
  show ∀ w ∈ [u_lay RX7 TX7 0, u_lay RX7 TX7 1, u_lay RX7 TX7 2, u_lay RX7 TX7 3, u_lay RX7 TX7 4, u_lay RX7 TX7 5, u_lay RX7 TX7 6, u_lay RX7 TX7 7, u_lay RX7 TX7 8, u_lay RX7 TX7 9, u_lay RX7 TX7 10], w ∈ wAll
  exact List.forall_mem_cons.mpr ⟨lay_X7_0, List.forall_mem_cons.mpr ⟨lay_X7_1, List.forall_mem_cons.mpr ⟨lay_X7_2, List.forall_mem_cons.mpr ⟨lay_X7_3, List.forall_mem_cons.mpr ⟨lay_X7_4, List.forall_mem_cons.mpr ⟨lay_X7_5, List.forall_mem_cons.mpr ⟨lay_X7_6, List.forall_mem_cons.mpr ⟨lay_X7_7, List.forall_mem_cons.mpr ⟨lay_X7_8, List.forall_mem_cons.mpr ⟨lay_X7_9, List.forall_mem_cons.mpr ⟨lay_X7_10, fun _ h => absurd h List.not_mem_nil⟩⟩⟩⟩⟩⟩⟩⟩⟩⟩⟩
end
section
theorem dX0_init_0 : decode cX0_init 0 = .ok (.aload_n 0, 1) := by decide +kernel
theorem dX0_init_1 : decode cX0_init 1 = .ok (.invokespecial 3, 3) := by decide +kernel
theorem dX0_init_4 : decode cX0_init 4 = .ok (.aload_n 0, 1) := by decide +kernel
theorem dX0_init_5 : decode cX0_init 5 = .ok (.iconst 4, 1) := by decide +kernel
theorem dX0_init_6 : decode cX0_init 6 = .ok (.newarray .int, 2) := by decide +kernel
theorem dX0_init_8 : decode cX0_init 8 = .ok (.putfield 9, 3) := by decide +kernel
theorem dX0_init_11 : decode cX0_init 11 = .ok (.aload_n 0, 1) := by decide +kernel
theorem dX0_init_12 : decode cX0_init 12 = .ok (.iconst 4, 1) := by decide +kernel
theorem dX0_init_13 : decode cX0_init 13 = .ok (.newarray .int, 2) := by decide +kernel
theorem dX0_init_15 : decode cX0_init 15 = .ok (.putfield 15, 3) := by decide +kernel
theorem dX0_init_18 : decode cX0_init 18 = .ok (.aload_n 0, 1) := by decide +kernel
theorem dX0_init_19 : decode cX0_init 19 = .ok (.getfield 9, 3) := by decide +kernel
theorem dX0_init_22 : decode cX0_init 22 = .ok (.iconst (-1), 1) := by decide +kernel
theorem dX0_init_23 : decode cX0_init 23 = .ok (.invokestatic 18, 3) := by decide +kernel
theorem dX0_init_26 : decode cX0_init 26 = .ok (.return_, 1) := by decide +kernel
theorem dX0_copyFrom_0 : decode cX0_copyFrom 0 = .ok (.aload_n 1, 1) := by decide +kernel
theorem dX0_copyFrom_1 : decode cX0_copyFrom 1 = .ok (.getfield 9, 3) := by decide +kernel
theorem dX0_copyFrom_4 : decode cX0_copyFrom 4 = .ok (.iconst 0, 1) := by decide +kernel
theorem dX0_copyFrom_5 : decode cX0_copyFrom 5 = .ok (.aload_n 0, 1) := by decide +kernel
theorem dX0_copyFrom_6 : decode cX0_copyFrom 6 = .ok (.getfield 9, 3) := by decide +kernel
theorem dX0_copyFrom_9 : decode cX0_copyFrom 9 = .ok (.iconst 0, 1) := by decide +kernel
theorem dX0_copyFrom_10 : decode cX0_copyFrom 10 = .ok (.iconst 4, 1) := by decide +kernel
theorem dX0_copyFrom_11 : decode cX0_copyFrom 11 = .ok (.invokestatic 24, 3) := by decide +kernel
theorem dX0_copyFrom_14 : decode cX0_copyFrom 14 = .ok (.aload_n 1, 1) := by decide +kernel
theorem dX0_copyFrom_15 : decode cX0_copyFrom 15 = .ok (.getfield 15, 3) := by decide +kernel
theorem dX0_copyFrom_18 : decode cX0_copyFrom 18 = .ok (.iconst 0, 1) := by decide +kernel
theorem dX0_copyFrom_19 : decode cX0_copyFrom 19 = .ok (.aload_n 0, 1) := by decide +kernel
theorem dX0_copyFrom_20 : decode cX0_copyFrom 20 = .ok (.getfield 15, 3) := by decide +kernel
theorem dX0_copyFrom_23 : decode cX0_copyFrom 23 = .ok (.iconst 0, 1) := by decide +kernel
theorem dX0_copyFrom_24 : decode cX0_copyFrom 24 = .ok (.iconst 4, 1) := by decide +kernel
theorem dX0_copyFrom_25 : decode cX0_copyFrom 25 = .ok (.invokestatic 24, 3) := by decide +kernel
theorem dX0_copyFrom_28 : decode cX0_copyFrom 28 = .ok (.return_, 1) := by decide +kernel
theorem dX0_horizonWithout_0 : decode cX0_horizonWithout 0 = .ok (.iload_n 2, 1) := by decide +kernel
theorem dX0_horizonWithout_1 : decode cX0_horizonWithout 1 = .ok (.istore_n 3, 1) := by decide +kernel
theorem dX0_horizonWithout_2 : decode cX0_horizonWithout 2 = .ok (.iconst 0, 1) := by decide +kernel
theorem dX0_horizonWithout_3 : decode cX0_horizonWithout 3 = .ok (.istore 4, 2) := by decide +kernel
theorem dX0_horizonWithout_5 : decode cX0_horizonWithout 5 = .ok (.iload 4, 2) := by decide +kernel
theorem dX0_horizonWithout_7 : decode cX0_horizonWithout 7 = .ok (.iconst 4, 1) := by decide +kernel
theorem dX0_horizonWithout_8 : decode cX0_horizonWithout 8 = .ok (.if_icmp .ge 45, 3) := by decide +kernel
theorem dX0_horizonWithout_11 : decode cX0_horizonWithout 11 = .ok (.iload 4, 2) := by decide +kernel
theorem dX0_horizonWithout_13 : decode cX0_horizonWithout 13 = .ok (.iload_n 1, 1) := by decide +kernel
theorem dX0_horizonWithout_14 : decode cX0_horizonWithout 14 = .ok (.if_icmp .eq 33, 3) := by decide +kernel
theorem dX0_horizonWithout_17 : decode cX0_horizonWithout 17 = .ok (.aload_n 0, 1) := by decide +kernel
theorem dX0_horizonWithout_18 : decode cX0_horizonWithout 18 = .ok (.getfield 9, 3) := by decide +kernel
theorem dX0_horizonWithout_21 : decode cX0_horizonWithout 21 = .ok (.iload 4, 2) := by decide +kernel
theorem dX0_horizonWithout_23 : decode cX0_horizonWithout 23 = .ok (.iaload, 1) := by decide +kernel
theorem dX0_horizonWithout_24 : decode cX0_horizonWithout 24 = .ok (.iconst (-1), 1) := by decide +kernel
theorem dX0_horizonWithout_25 : decode cX0_horizonWithout 25 = .ok (.if_icmp .eq 22, 3) := by decide +kernel
theorem dX0_horizonWithout_28 : decode cX0_horizonWithout 28 = .ok (.aload_n 0, 1) := by decide +kernel
theorem dX0_horizonWithout_29 : decode cX0_horizonWithout 29 = .ok (.getfield 9, 3) := by decide +kernel
theorem dX0_horizonWithout_32 : decode cX0_horizonWithout 32 = .ok (.iload 4, 2) := by decide +kernel
theorem dX0_horizonWithout_34 : decode cX0_horizonWithout 34 = .ok (.iaload, 1) := by decide +kernel
theorem dX0_horizonWithout_35 : decode cX0_horizonWithout 35 = .ok (.iload_n 3, 1) := by decide +kernel
theorem dX0_horizonWithout_36 : decode cX0_horizonWithout 36 = .ok (.if_icmp .ge 11, 3) := by decide +kernel
theorem dX0_horizonWithout_39 : decode cX0_horizonWithout 39 = .ok (.aload_n 0, 1) := by decide +kernel
theorem dX0_horizonWithout_40 : decode cX0_horizonWithout 40 = .ok (.getfield 9, 3) := by decide +kernel
theorem dX0_horizonWithout_43 : decode cX0_horizonWithout 43 = .ok (.iload 4, 2) := by decide +kernel
theorem dX0_horizonWithout_45 : decode cX0_horizonWithout 45 = .ok (.iaload, 1) := by decide +kernel
theorem dX0_horizonWithout_46 : decode cX0_horizonWithout 46 = .ok (.istore_n 3, 1) := by decide +kernel
theorem dX0_horizonWithout_47 : decode cX0_horizonWithout 47 = .ok (.iinc 4 1, 3) := by decide +kernel
theorem dX0_horizonWithout_50 : decode cX0_horizonWithout 50 = .ok (.goto (-45), 3) := by decide +kernel
theorem dX0_horizonWithout_53 : decode cX0_horizonWithout 53 = .ok (.iload_n 3, 1) := by decide +kernel
theorem dX0_horizonWithout_54 : decode cX0_horizonWithout 54 = .ok (.ireturn, 1) := by decide +kernel
theorem dX1_init_0 : decode cX1_init 0 = .ok (.aload_n 0, 1) := by decide +kernel
theorem dX1_init_1 : decode cX1_init 1 = .ok (.invokespecial 3, 3) := by decide +kernel
theorem dX1_init_4 : decode cX1_init 4 = .ok (.aload_n 0, 1) := by decide +kernel
theorem dX1_init_5 : decode cX1_init 5 = .ok (.bipush 6, 2) := by decide +kernel
theorem dX1_init_7 : decode cX1_init 7 = .ok (.anewarray 9, 3) := by decide +kernel
theorem dX1_init_10 : decode cX1_init 10 = .ok (.putfield 11, 3) := by decide +kernel
theorem dX1_init_13 : decode cX1_init 13 = .ok (.iconst 0, 1) := by decide +kernel
theorem dX1_init_14 : decode cX1_init 14 = .ok (.istore_n 1, 1) := by decide +kernel
theorem dX1_init_15 : decode cX1_init 15 = .ok (.iload_n 1, 1) := by decide +kernel
theorem dX1_init_16 : decode cX1_init 16 = .ok (.bipush 6, 2) := by decide +kernel
theorem dX1_init_18 : decode cX1_init 18 = .ok (.if_icmp .ge 22, 3) := by decide +kernel
theorem dX1_init_21 : decode cX1_init 21 = .ok (.aload_n 0, 1) := by decide +kernel
theorem dX1_init_22 : decode cX1_init 22 = .ok (.getfield 11, 3) := by decide +kernel
theorem dX1_init_25 : decode cX1_init 25 = .ok (.iload_n 1, 1) := by decide +kernel
theorem dX1_init_26 : decode cX1_init 26 = .ok (.new 9, 3) := by decide +kernel
theorem dX1_init_29 : decode cX1_init 29 = .ok (.dup, 1) := by decide +kernel
theorem dX1_init_30 : decode cX1_init 30 = .ok (.invokespecial 17, 3) := by decide +kernel
theorem dX1_init_33 : decode cX1_init 33 = .ok (.aastore, 1) := by decide +kernel
theorem dX1_init_34 : decode cX1_init 34 = .ok (.iinc 1 1, 3) := by decide +kernel
theorem dX1_init_37 : decode cX1_init 37 = .ok (.goto (-22), 3) := by decide +kernel
theorem dX1_init_40 : decode cX1_init 40 = .ok (.return_, 1) := by decide +kernel
theorem dX1_save_0 : decode cX1_save 0 = .ok (.aload_n 0, 1) := by decide +kernel
theorem dX1_save_1 : decode cX1_save 1 = .ok (.getfield 11, 3) := by decide +kernel
theorem dX1_save_4 : decode cX1_save 4 = .ok (.aload_n 0, 1) := by decide +kernel
theorem dX1_save_5 : decode cX1_save 5 = .ok (.getfield 18, 3) := by decide +kernel
theorem dX1_save_8 : decode cX1_save 8 = .ok (.aaload, 1) := by decide +kernel
theorem dX1_save_9 : decode cX1_save 9 = .ok (.aload_n 1, 1) := by decide +kernel
theorem dX1_save_10 : decode cX1_save 10 = .ok (.invokevirtual 22, 3) := by decide +kernel
theorem dX1_save_13 : decode cX1_save 13 = .ok (.aload_n 0, 1) := by decide +kernel
theorem dX1_save_14 : decode cX1_save 14 = .ok (.aload_n 0, 1) := by decide +kernel
theorem dX1_save_15 : decode cX1_save 15 = .ok (.getfield 18, 3) := by decide +kernel
theorem dX1_save_18 : decode cX1_save 18 = .ok (.iconst 1, 1) := by decide +kernel
theorem dX1_save_19 : decode cX1_save 19 = .ok (.iadd, 1) := by decide +kernel
theorem dX1_save_20 : decode cX1_save 20 = .ok (.bipush 6, 2) := by decide +kernel
theorem dX1_save_22 : decode cX1_save 22 = .ok (.irem, 1) := by decide +kernel
theorem dX1_save_23 : decode cX1_save 23 = .ok (.putfield 18, 3) := by decide +kernel
theorem dX1_save_26 : decode cX1_save 26 = .ok (.aload_n 0, 1) := by decide +kernel
theorem dX1_save_27 : decode cX1_save 27 = .ok (.getfield 26, 3) := by decide +kernel
theorem dX1_save_30 : decode cX1_save 30 = .ok (.bipush 6, 2) := by decide +kernel
theorem dX1_save_32 : decode cX1_save 32 = .ok (.if_icmp .ge 13, 3) := by decide +kernel
theorem dX1_save_35 : decode cX1_save 35 = .ok (.aload_n 0, 1) := by decide +kernel
theorem dX1_save_36 : decode cX1_save 36 = .ok (.dup, 1) := by decide +kernel
theorem dX1_save_37 : decode cX1_save 37 = .ok (.getfield 26, 3) := by decide +kernel
theorem dX1_save_40 : decode cX1_save 40 = .ok (.iconst 1, 1) := by decide +kernel
theorem dX1_save_41 : decode cX1_save 41 = .ok (.iadd, 1) := by decide +kernel
theorem dX1_save_42 : decode cX1_save 42 = .ok (.putfield 26, 3) := by decide +kernel
theorem dX1_save_45 : decode cX1_save 45 = .ok (.return_, 1) := by decide +kernel
theorem dX1_restore_0 : decode cX1_restore 0 = .ok (.aload_n 0, 1) := by decide +kernel
theorem dX1_restore_1 : decode cX1_restore 1 = .ok (.getfield 26, 3) := by decide +kernel
theorem dX1_restore_4 : decode cX1_restore 4 = .ok (.ifCond .ne 4, 3) := by decide +kernel
theorem dX1_restore_7 : decode cX1_restore 7 = .ok (.return_, 1) := by decide +kernel
theorem dX1_restore_8 : decode cX1_restore 8 = .ok (.aload_n 0, 1) := by decide +kernel
theorem dX1_restore_9 : decode cX1_restore 9 = .ok (.dup, 1) := by decide +kernel
theorem dX1_restore_10 : decode cX1_restore 10 = .ok (.getfield 26, 3) := by decide +kernel
theorem dX1_restore_13 : decode cX1_restore 13 = .ok (.iconst 1, 1) := by decide +kernel
theorem dX1_restore_14 : decode cX1_restore 14 = .ok (.isub, 1) := by decide +kernel
theorem dX1_restore_15 : decode cX1_restore 15 = .ok (.putfield 26, 3) := by decide +kernel
theorem dX1_restore_18 : decode cX1_restore 18 = .ok (.aload_n 0, 1) := by decide +kernel
theorem dX1_restore_19 : decode cX1_restore 19 = .ok (.aload_n 0, 1) := by decide +kernel
theorem dX1_restore_20 : decode cX1_restore 20 = .ok (.getfield 18, 3) := by decide +kernel
theorem dX1_restore_23 : decode cX1_restore 23 = .ok (.bipush 6, 2) := by decide +kernel
theorem dX1_restore_25 : decode cX1_restore 25 = .ok (.iadd, 1) := by decide +kernel
theorem dX1_restore_26 : decode cX1_restore 26 = .ok (.iconst 1, 1) := by decide +kernel
theorem dX1_restore_27 : decode cX1_restore 27 = .ok (.isub, 1) := by decide +kernel
theorem dX1_restore_28 : decode cX1_restore 28 = .ok (.bipush 6, 2) := by decide +kernel
theorem dX1_restore_30 : decode cX1_restore 30 = .ok (.irem, 1) := by decide +kernel
theorem dX1_restore_31 : decode cX1_restore 31 = .ok (.putfield 18, 3) := by decide +kernel
theorem dX1_restore_34 : decode cX1_restore 34 = .ok (.aload_n 1, 1) := by decide +kernel
theorem dX1_restore_35 : decode cX1_restore 35 = .ok (.aload_n 0, 1) := by decide +kernel
theorem dX1_restore_36 : decode cX1_restore 36 = .ok (.getfield 11, 3) := by decide +kernel
theorem dX1_restore_39 : decode cX1_restore 39 = .ok (.aload_n 0, 1) := by decide +kernel
theorem dX1_restore_40 : decode cX1_restore 40 = .ok (.getfield 18, 3) := by decide +kernel
theorem dX1_restore_43 : decode cX1_restore 43 = .ok (.aaload, 1) := by decide +kernel
theorem dX1_restore_44 : decode cX1_restore 44 = .ok (.invokevirtual 22, 3) := by decide +kernel
theorem dX1_restore_47 : decode cX1_restore 47 = .ok (.return_, 1) := by decide +kernel
theorem dX2_init_0 : decode cX2_init 0 = .ok (.aload_n 0, 1) := by decide +kernel
theorem dX2_init_1 : decode cX2_init 1 = .ok (.invokespecial 3, 3) := by decide +kernel
theorem dX2_init_4 : decode cX2_init 4 = .ok (.aload_n 0, 1) := by decide +kernel
theorem dX2_init_5 : decode cX2_init 5 = .ok (.new 9, 3) := by decide +kernel
theorem dX2_init_8 : decode cX2_init 8 = .ok (.dup, 1) := by decide +kernel
theorem dX2_init_9 : decode cX2_init 9 = .ok (.invokespecial 11, 3) := by decide +kernel
theorem dX2_init_12 : decode cX2_init 12 = .ok (.putfield 12, 3) := by decide +kernel
theorem dX2_init_15 : decode cX2_init 15 = .ok (.aload_n 0, 1) := by decide +kernel
theorem dX2_init_16 : decode cX2_init 16 = .ok (.new 18, 3) := by decide +kernel
theorem dX2_init_19 : decode cX2_init 19 = .ok (.dup, 1) := by decide +kernel
theorem dX2_init_20 : decode cX2_init 20 = .ok (.invokespecial 20, 3) := by decide +kernel
theorem dX2_init_23 : decode cX2_init 23 = .ok (.putfield 21, 3) := by decide +kernel
theorem dX2_init_26 : decode cX2_init 26 = .ok (.aload_n 0, 1) := by decide +kernel
theorem dX2_init_27 : decode cX2_init 27 = .ok (.new 25, 3) := by decide +kernel
theorem dX2_init_30 : decode cX2_init 30 = .ok (.dup, 1) := by decide +kernel
theorem dX2_init_31 : decode cX2_init 31 = .ok (.invokespecial 27, 3) := by decide +kernel
theorem dX2_init_34 : decode cX2_init 34 = .ok (.putfield 28, 3) := by decide +kernel
theorem dX2_init_37 : decode cX2_init 37 = .ok (.return_, 1) := by decide +kernel
theorem dX2_copyFrom_0 : decode cX2_copyFrom 0 = .ok (.aload_n 0, 1) := by decide +kernel
theorem dX2_copyFrom_1 : decode cX2_copyFrom 1 = .ok (.getfield 12, 3) := by decide +kernel
theorem dX2_copyFrom_4 : decode cX2_copyFrom 4 = .ok (.aload_n 1, 1) := by decide +kernel
theorem dX2_copyFrom_5 : decode cX2_copyFrom 5 = .ok (.getfield 12, 3) := by decide +kernel
theorem dX2_copyFrom_8 : decode cX2_copyFrom 8 = .ok (.invokevirtual 32, 3) := by decide +kernel
theorem dX2_copyFrom_11 : decode cX2_copyFrom 11 = .ok (.aload_n 0, 1) := by decide +kernel
theorem dX2_copyFrom_12 : decode cX2_copyFrom 12 = .ok (.getfield 21, 3) := by decide +kernel
theorem dX2_copyFrom_15 : decode cX2_copyFrom 15 = .ok (.aload_n 1, 1) := by decide +kernel
theorem dX2_copyFrom_16 : decode cX2_copyFrom 16 = .ok (.getfield 21, 3) := by decide +kernel
theorem dX2_copyFrom_19 : decode cX2_copyFrom 19 = .ok (.invokevirtual 36, 3) := by decide +kernel
theorem dX2_copyFrom_22 : decode cX2_copyFrom 22 = .ok (.aload_n 0, 1) := by decide +kernel
theorem dX2_copyFrom_23 : decode cX2_copyFrom 23 = .ok (.getfield 28, 3) := by decide +kernel
theorem dX2_copyFrom_26 : decode cX2_copyFrom 26 = .ok (.aload_n 1, 1) := by decide +kernel
theorem dX2_copyFrom_27 : decode cX2_copyFrom 27 = .ok (.getfield 28, 3) := by decide +kernel
theorem dX2_copyFrom_30 : decode cX2_copyFrom 30 = .ok (.invokevirtual 39, 3) := by decide +kernel
theorem dX2_copyFrom_33 : decode cX2_copyFrom 33 = .ok (.return_, 1) := by decide +kernel
theorem dX2_horizon_0 : decode cX2_horizon 0 = .ok (.aload_n 0, 1) := by decide +kernel
theorem dX2_horizon_1 : decode cX2_horizon 1 = .ok (.getfield 21, 3) := by decide +kernel
theorem dX2_horizon_4 : decode cX2_horizon 4 = .ok (.iconst (-1), 1) := by decide +kernel
theorem dX2_horizon_5 : decode cX2_horizon 5 = .ok (.aload_n 0, 1) := by decide +kernel
theorem dX2_horizon_6 : decode cX2_horizon 6 = .ok (.getfield 12, 3) := by decide +kernel
theorem dX2_horizon_9 : decode cX2_horizon 9 = .ok (.getfield 42, 3) := by decide +kernel
theorem dX2_horizon_12 : decode cX2_horizon 12 = .ok (.invokevirtual 46, 3) := by decide +kernel
theorem dX2_horizon_15 : decode cX2_horizon 15 = .ok (.ireturn, 1) := by decide +kernel
theorem dX2_make_0 : decode cX2_make 0 = .ok (.iload_n 1, 1) := by decide +kernel
theorem dX2_make_1 : decode cX2_make 1 = .ok (.lookupswitch 81 #[(43, 35), (45, 53), (61, 62)], 35) := by decide +kernel
theorem dX2_make_36 : decode cX2_make 36 = .ok (.aload_n 0, 1) := by decide +kernel
theorem dX2_make_37 : decode cX2_make 37 = .ok (.getfield 12, 3) := by decide +kernel
theorem dX2_make_40 : decode cX2_make 40 = .ok (.iload_n 3, 1) := by decide +kernel
theorem dX2_make_41 : decode cX2_make 41 = .ok (.invokevirtual 50, 3) := by decide +kernel
theorem dX2_make_44 : decode cX2_make 44 = .ok (.iconst (-1), 1) := by decide +kernel
theorem dX2_make_45 : decode cX2_make 45 = .ok (.if_icmp .eq 7, 3) := by decide +kernel
theorem dX2_make_48 : decode cX2_make 48 = .ok (.iconst 1, 1) := by decide +kernel
theorem dX2_make_49 : decode cX2_make 49 = .ok (.goto 4, 3) := by decide +kernel
theorem dX2_make_52 : decode cX2_make 52 = .ok (.iconst 0, 1) := by decide +kernel
theorem dX2_make_53 : decode cX2_make 53 = .ok (.ireturn, 1) := by decide +kernel
theorem dX2_make_54 : decode cX2_make 54 = .ok (.aload_n 0, 1) := by decide +kernel
theorem dX2_make_55 : decode cX2_make 55 = .ok (.getfield 12, 3) := by decide +kernel
theorem dX2_make_58 : decode cX2_make 58 = .ok (.iload_n 2, 1) := by decide +kernel
theorem dX2_make_59 : decode cX2_make 59 = .ok (.invokevirtual 54, 3) := by decide +kernel
theorem dX2_make_62 : decode cX2_make 62 = .ok (.ireturn, 1) := by decide +kernel
theorem dX2_make_63 : decode cX2_make 63 = .ok (.aload_n 0, 1) := by decide +kernel
theorem dX2_make_64 : decode cX2_make 64 = .ok (.getfield 12, 3) := by decide +kernel
theorem dX2_make_67 : decode cX2_make 67 = .ok (.iload_n 2, 1) := by decide +kernel
theorem dX2_make_68 : decode cX2_make 68 = .ok (.iload_n 3, 1) := by decide +kernel
theorem dX2_make_69 : decode cX2_make 69 = .ok (.invokevirtual 58, 3) := by decide +kernel
theorem dX2_make_72 : decode cX2_make 72 = .ok (.iconst (-1), 1) := by decide +kernel
theorem dX2_make_73 : decode cX2_make 73 = .ok (.if_icmp .eq 7, 3) := by decide +kernel
theorem dX2_make_76 : decode cX2_make 76 = .ok (.iconst 1, 1) := by decide +kernel
theorem dX2_make_77 : decode cX2_make 77 = .ok (.goto 4, 3) := by decide +kernel
theorem dX2_make_80 : decode cX2_make 80 = .ok (.iconst 0, 1) := by decide +kernel
theorem dX2_make_81 : decode cX2_make 81 = .ok (.ireturn, 1) := by decide +kernel
theorem dX2_make_82 : decode cX2_make 82 = .ok (.aload_n 0, 1) := by decide +kernel
theorem dX2_make_83 : decode cX2_make 83 = .ok (.getfield 12, 3) := by decide +kernel
theorem dX2_make_86 : decode cX2_make 86 = .ok (.iload_n 3, 1) := by decide +kernel
theorem dX2_make_87 : decode cX2_make 87 = .ok (.aload_n 0, 1) := by decide +kernel
theorem dX2_make_88 : decode cX2_make 88 = .ok (.invokevirtual 61, 3) := by decide +kernel
theorem dX2_make_91 : decode cX2_make 91 = .ok (.invokevirtual 65, 3) := by decide +kernel
theorem dX2_make_94 : decode cX2_make 94 = .ok (.pop, 1) := by decide +kernel
theorem dX2_make_95 : decode cX2_make 95 = .ok (.iconst 1, 1) := by decide +kernel
theorem dX2_make_96 : decode cX2_make 96 = .ok (.ireturn, 1) := by decide +kernel
theorem dX3_init_0 : decode cX3_init 0 = .ok (.aload_n 0, 1) := by decide +kernel
theorem dX3_init_1 : decode cX3_init 1 = .ok (.invokespecial 3, 3) := by decide +kernel
theorem dX3_init_4 : decode cX3_init 4 = .ok (.aload_n 0, 1) := by decide +kernel
theorem dX3_init_5 : decode cX3_init 5 = .ok (.bipush 24, 2) := by decide +kernel
theorem dX3_init_7 : decode cX3_init 7 = .ok (.newarray .int, 2) := by decide +kernel
theorem dX3_init_9 : decode cX3_init 9 = .ok (.putfield 9, 3) := by decide +kernel
theorem dX3_init_12 : decode cX3_init 12 = .ok (.aload_n 0, 1) := by decide +kernel
theorem dX3_init_13 : decode cX3_init 13 = .ok (.bipush 24, 2) := by decide +kernel
theorem dX3_init_15 : decode cX3_init 15 = .ok (.newarray .int, 2) := by decide +kernel
theorem dX3_init_17 : decode cX3_init 17 = .ok (.putfield 15, 3) := by decide +kernel
theorem dX3_init_20 : decode cX3_init 20 = .ok (.aload_n 0, 1) := by decide +kernel
theorem dX3_init_21 : decode cX3_init 21 = .ok (.bipush 24, 2) := by decide +kernel
theorem dX3_init_23 : decode cX3_init 23 = .ok (.newarray .int, 2) := by decide +kernel
theorem dX3_init_25 : decode cX3_init 25 = .ok (.putfield 18, 3) := by decide +kernel
theorem dX3_init_28 : decode cX3_init 28 = .ok (.aload_n 0, 1) := by decide +kernel
theorem dX3_init_29 : decode cX3_init 29 = .ok (.bipush 6, 2) := by decide +kernel
theorem dX3_init_31 : decode cX3_init 31 = .ok (.newarray .int, 2) := by decide +kernel
theorem dX3_init_33 : decode cX3_init 33 = .ok (.putfield 21, 3) := by decide +kernel
theorem dX3_init_36 : decode cX3_init 36 = .ok (.aload_n 0, 1) := by decide +kernel
theorem dX3_init_37 : decode cX3_init 37 = .ok (.getfield 9, 3) := by decide +kernel
theorem dX3_init_40 : decode cX3_init 40 = .ok (.iconst (-1), 1) := by decide +kernel
theorem dX3_init_41 : decode cX3_init 41 = .ok (.invokestatic 24, 3) := by decide +kernel
theorem dX3_init_44 : decode cX3_init 44 = .ok (.aload_n 0, 1) := by decide +kernel
theorem dX3_init_45 : decode cX3_init 45 = .ok (.getfield 15, 3) := by decide +kernel
theorem dX3_init_48 : decode cX3_init 48 = .ok (.iconst (-1), 1) := by decide +kernel
theorem dX3_init_49 : decode cX3_init 49 = .ok (.invokestatic 24, 3) := by decide +kernel
theorem dX3_init_52 : decode cX3_init 52 = .ok (.aload_n 0, 1) := by decide +kernel
theorem dX3_init_53 : decode cX3_init 53 = .ok (.getfield 18, 3) := by decide +kernel
theorem dX3_init_56 : decode cX3_init 56 = .ok (.iconst (-1), 1) := by decide +kernel
theorem dX3_init_57 : decode cX3_init 57 = .ok (.invokestatic 24, 3) := by decide +kernel
theorem dX3_init_60 : decode cX3_init 60 = .ok (.aload_n 0, 1) := by decide +kernel
theorem dX3_init_61 : decode cX3_init 61 = .ok (.getfield 21, 3) := by decide +kernel
theorem dX3_init_64 : decode cX3_init 64 = .ok (.iconst (-1), 1) := by decide +kernel
theorem dX3_init_65 : decode cX3_init 65 = .ok (.invokestatic 24, 3) := by decide +kernel
theorem dX3_init_68 : decode cX3_init 68 = .ok (.return_, 1) := by decide +kernel
theorem dX3_copyFrom_0 : decode cX3_copyFrom 0 = .ok (.aload_n 1, 1) := by decide +kernel
theorem dX3_copyFrom_1 : decode cX3_copyFrom 1 = .ok (.getfield 9, 3) := by decide +kernel
theorem dX3_copyFrom_4 : decode cX3_copyFrom 4 = .ok (.iconst 0, 1) := by decide +kernel
theorem dX3_copyFrom_5 : decode cX3_copyFrom 5 = .ok (.aload_n 0, 1) := by decide +kernel
theorem dX3_copyFrom_6 : decode cX3_copyFrom 6 = .ok (.getfield 9, 3) := by decide +kernel
theorem dX3_copyFrom_9 : decode cX3_copyFrom 9 = .ok (.iconst 0, 1) := by decide +kernel
theorem dX3_copyFrom_10 : decode cX3_copyFrom 10 = .ok (.bipush 24, 2) := by decide +kernel
theorem dX3_copyFrom_12 : decode cX3_copyFrom 12 = .ok (.invokestatic 30, 3) := by decide +kernel
theorem dX3_copyFrom_15 : decode cX3_copyFrom 15 = .ok (.aload_n 1, 1) := by decide +kernel
theorem dX3_copyFrom_16 : decode cX3_copyFrom 16 = .ok (.getfield 15, 3) := by decide +kernel
theorem dX3_copyFrom_19 : decode cX3_copyFrom 19 = .ok (.iconst 0, 1) := by decide +kernel
theorem dX3_copyFrom_20 : decode cX3_copyFrom 20 = .ok (.aload_n 0, 1) := by decide +kernel
theorem dX3_copyFrom_21 : decode cX3_copyFrom 21 = .ok (.getfield 15, 3) := by decide +kernel
theorem dX3_copyFrom_24 : decode cX3_copyFrom 24 = .ok (.iconst 0, 1) := by decide +kernel
theorem dX3_copyFrom_25 : decode cX3_copyFrom 25 = .ok (.bipush 24, 2) := by decide +kernel
theorem dX3_copyFrom_27 : decode cX3_copyFrom 27 = .ok (.invokestatic 30, 3) := by decide +kernel
theorem dX3_copyFrom_30 : decode cX3_copyFrom 30 = .ok (.aload_n 1, 1) := by decide +kernel
theorem dX3_copyFrom_31 : decode cX3_copyFrom 31 = .ok (.getfield 18, 3) := by decide +kernel
theorem dX3_copyFrom_34 : decode cX3_copyFrom 34 = .ok (.iconst 0, 1) := by decide +kernel
theorem dX3_copyFrom_35 : decode cX3_copyFrom 35 = .ok (.aload_n 0, 1) := by decide +kernel
theorem dX3_copyFrom_36 : decode cX3_copyFrom 36 = .ok (.getfield 18, 3) := by decide +kernel
theorem dX3_copyFrom_39 : decode cX3_copyFrom 39 = .ok (.iconst 0, 1) := by decide +kernel
theorem dX3_copyFrom_40 : decode cX3_copyFrom 40 = .ok (.bipush 24, 2) := by decide +kernel
theorem dX3_copyFrom_42 : decode cX3_copyFrom 42 = .ok (.invokestatic 30, 3) := by decide +kernel
theorem dX3_copyFrom_45 : decode cX3_copyFrom 45 = .ok (.aload_n 1, 1) := by decide +kernel
theorem dX3_copyFrom_46 : decode cX3_copyFrom 46 = .ok (.getfield 21, 3) := by decide +kernel
theorem dX3_copyFrom_49 : decode cX3_copyFrom 49 = .ok (.iconst 0, 1) := by decide +kernel
theorem dX3_copyFrom_50 : decode cX3_copyFrom 50 = .ok (.aload_n 0, 1) := by decide +kernel
theorem dX3_copyFrom_51 : decode cX3_copyFrom 51 = .ok (.getfield 21, 3) := by decide +kernel
theorem dX3_copyFrom_54 : decode cX3_copyFrom 54 = .ok (.iconst 0, 1) := by decide +kernel
theorem dX3_copyFrom_55 : decode cX3_copyFrom 55 = .ok (.bipush 6, 2) := by decide +kernel
theorem dX3_copyFrom_57 : decode cX3_copyFrom 57 = .ok (.invokestatic 30, 3) := by decide +kernel
theorem dX3_copyFrom_60 : decode cX3_copyFrom 60 = .ok (.aload_n 0, 1) := by decide +kernel
theorem dX3_copyFrom_61 : decode cX3_copyFrom 61 = .ok (.aload_n 1, 1) := by decide +kernel
theorem dX3_copyFrom_62 : decode cX3_copyFrom 62 = .ok (.getfield 36, 3) := by decide +kernel
theorem dX3_copyFrom_65 : decode cX3_copyFrom 65 = .ok (.putfield 36, 3) := by decide +kernel
theorem dX3_copyFrom_68 : decode cX3_copyFrom 68 = .ok (.aload_n 0, 1) := by decide +kernel
theorem dX3_copyFrom_69 : decode cX3_copyFrom 69 = .ok (.aload_n 1, 1) := by decide +kernel
theorem dX3_copyFrom_70 : decode cX3_copyFrom 70 = .ok (.getfield 40, 3) := by decide +kernel
theorem dX3_copyFrom_73 : decode cX3_copyFrom 73 = .ok (.putfield 40, 3) := by decide +kernel
theorem dX3_copyFrom_76 : decode cX3_copyFrom 76 = .ok (.return_, 1) := by decide +kernel
theorem dX3_isSeen_0 : decode cX3_isSeen 0 = .ok (.aload_n 0, 1) := by decide +kernel
theorem dX3_isSeen_1 : decode cX3_isSeen 1 = .ok (.getfield 9, 3) := by decide +kernel
theorem dX3_isSeen_4 : decode cX3_isSeen 4 = .ok (.iload_n 1, 1) := by decide +kernel
theorem dX3_isSeen_5 : decode cX3_isSeen 5 = .ok (.iaload, 1) := by decide +kernel
theorem dX3_isSeen_6 : decode cX3_isSeen 6 = .ok (.iconst (-1), 1) := by decide +kernel
theorem dX3_isSeen_7 : decode cX3_isSeen 7 = .ok (.if_icmp .eq 13, 3) := by decide +kernel
theorem dX3_isSeen_10 : decode cX3_isSeen 10 = .ok (.aload_n 0, 1) := by decide +kernel
theorem dX3_isSeen_11 : decode cX3_isSeen 11 = .ok (.getfield 15, 3) := by decide +kernel
theorem dX3_isSeen_14 : decode cX3_isSeen 14 = .ok (.iload_n 1, 1) := by decide +kernel
theorem dX3_isSeen_15 : decode cX3_isSeen 15 = .ok (.iaload, 1) := by decide +kernel
theorem dX3_isSeen_16 : decode cX3_isSeen 16 = .ok (.iload_n 2, 1) := by decide +kernel
theorem dX3_isSeen_17 : decode cX3_isSeen 17 = .ok (.if_icmp .le 5, 3) := by decide +kernel
theorem dX3_isSeen_20 : decode cX3_isSeen 20 = .ok (.iconst 0, 1) := by decide +kernel
theorem dX3_isSeen_21 : decode cX3_isSeen 21 = .ok (.ireturn, 1) := by decide +kernel
theorem dX3_isSeen_22 : decode cX3_isSeen 22 = .ok (.aload_n 0, 1) := by decide +kernel
theorem dX3_isSeen_23 : decode cX3_isSeen 23 = .ok (.getfield 18, 3) := by decide +kernel
theorem dX3_isSeen_26 : decode cX3_isSeen 26 = .ok (.iload_n 1, 1) := by decide +kernel
theorem dX3_isSeen_27 : decode cX3_isSeen 27 = .ok (.iaload, 1) := by decide +kernel
theorem dX3_isSeen_28 : decode cX3_isSeen 28 = .ok (.ifCond .eq 13, 3) := by decide +kernel
theorem dX3_isSeen_31 : decode cX3_isSeen 31 = .ok (.aload_n 0, 1) := by decide +kernel
theorem dX3_isSeen_32 : decode cX3_isSeen 32 = .ok (.getfield 18, 3) := by decide +kernel
theorem dX3_isSeen_35 : decode cX3_isSeen 35 = .ok (.iload_n 1, 1) := by decide +kernel
theorem dX3_isSeen_36 : decode cX3_isSeen 36 = .ok (.iaload, 1) := by decide +kernel
theorem dX3_isSeen_37 : decode cX3_isSeen 37 = .ok (.iload_n 2, 1) := by decide +kernel
theorem dX3_isSeen_38 : decode cX3_isSeen 38 = .ok (.if_icmp .le 7, 3) := by decide +kernel
theorem dX3_isSeen_41 : decode cX3_isSeen 41 = .ok (.iconst 1, 1) := by decide +kernel
theorem dX3_isSeen_42 : decode cX3_isSeen 42 = .ok (.goto 4, 3) := by decide +kernel
theorem dX3_isSeen_45 : decode cX3_isSeen 45 = .ok (.iconst 0, 1) := by decide +kernel
theorem dX3_isSeen_46 : decode cX3_isSeen 46 = .ok (.ireturn, 1) := by decide +kernel
theorem dX3_isSeenNow_0 : decode cX3_isSeenNow 0 = .ok (.aload_n 0, 1) := by decide +kernel
theorem dX3_isSeenNow_1 : decode cX3_isSeenNow 1 = .ok (.iload_n 1, 1) := by decide +kernel
theorem dX3_isSeenNow_2 : decode cX3_isSeenNow 2 = .ok (.aload_n 0, 1) := by decide +kernel
theorem dX3_isSeenNow_3 : decode cX3_isSeenNow 3 = .ok (.getfield 36, 3) := by decide +kernel
theorem dX3_isSeenNow_6 : decode cX3_isSeenNow 6 = .ok (.invokevirtual 43, 3) := by decide +kernel
theorem dX3_isSeenNow_9 : decode cX3_isSeenNow 9 = .ok (.ireturn, 1) := by decide +kernel
theorem dX3_isMarked_0 : decode cX3_isMarked 0 = .ok (.aload_n 0, 1) := by decide +kernel
theorem dX3_isMarked_1 : decode cX3_isMarked 1 = .ok (.getfield 21, 3) := by decide +kernel
theorem dX3_isMarked_4 : decode cX3_isMarked 4 = .ok (.iload_n 1, 1) := by decide +kernel
theorem dX3_isMarked_5 : decode cX3_isMarked 5 = .ok (.iaload, 1) := by decide +kernel
theorem dX3_isMarked_6 : decode cX3_isMarked 6 = .ok (.iconst (-1), 1) := by decide +kernel
theorem dX3_isMarked_7 : decode cX3_isMarked 7 = .ok (.if_icmp .eq 7, 3) := by decide +kernel
theorem dX3_isMarked_10 : decode cX3_isMarked 10 = .ok (.iconst 1, 1) := by decide +kernel
theorem dX3_isMarked_11 : decode cX3_isMarked 11 = .ok (.goto 4, 3) := by decide +kernel
theorem dX3_isMarked_14 : decode cX3_isMarked 14 = .ok (.iconst 0, 1) := by decide +kernel
theorem dX3_isMarked_15 : decode cX3_isMarked 15 = .ok (.ireturn, 1) := by decide +kernel
theorem dX3_lowestEmptySlot_0 : decode cX3_lowestEmptySlot 0 = .ok (.iconst 0, 1) := by decide +kernel
theorem dX3_lowestEmptySlot_1 : decode cX3_lowestEmptySlot 1 = .ok (.istore_n 1, 1) := by decide +kernel
theorem dX3_lowestEmptySlot_2 : decode cX3_lowestEmptySlot 2 = .ok (.iload_n 1, 1) := by decide +kernel
theorem dX3_lowestEmptySlot_3 : decode cX3_lowestEmptySlot 3 = .ok (.bipush 24, 2) := by decide +kernel
theorem dX3_lowestEmptySlot_5 : decode cX3_lowestEmptySlot 5 = .ok (.if_icmp .ge 21, 3) := by decide +kernel
theorem dX3_lowestEmptySlot_8 : decode cX3_lowestEmptySlot 8 = .ok (.aload_n 0, 1) := by decide +kernel
theorem dX3_lowestEmptySlot_9 : decode cX3_lowestEmptySlot 9 = .ok (.getfield 9, 3) := by decide +kernel
theorem dX3_lowestEmptySlot_12 : decode cX3_lowestEmptySlot 12 = .ok (.iload_n 1, 1) := by decide +kernel
theorem dX3_lowestEmptySlot_13 : decode cX3_lowestEmptySlot 13 = .ok (.iaload, 1) := by decide +kernel
theorem dX3_lowestEmptySlot_14 : decode cX3_lowestEmptySlot 14 = .ok (.iconst (-1), 1) := by decide +kernel
theorem dX3_lowestEmptySlot_15 : decode cX3_lowestEmptySlot 15 = .ok (.if_icmp .ne 5, 3) := by decide +kernel
theorem dX3_lowestEmptySlot_18 : decode cX3_lowestEmptySlot 18 = .ok (.iload_n 1, 1) := by decide +kernel
theorem dX3_lowestEmptySlot_19 : decode cX3_lowestEmptySlot 19 = .ok (.ireturn, 1) := by decide +kernel
theorem dX3_lowestEmptySlot_20 : decode cX3_lowestEmptySlot 20 = .ok (.iinc 1 1, 3) := by decide +kernel
theorem dX3_lowestEmptySlot_23 : decode cX3_lowestEmptySlot 23 = .ok (.goto (-21), 3) := by decide +kernel
theorem dX3_lowestEmptySlot_26 : decode cX3_lowestEmptySlot 26 = .ok (.iconst (-1), 1) := by decide +kernel
theorem dX3_lowestEmptySlot_27 : decode cX3_lowestEmptySlot 27 = .ok (.ireturn, 1) := by decide +kernel
theorem dX3_hasEmptySlot_0 : decode cX3_hasEmptySlot 0 = .ok (.aload_n 0, 1) := by decide +kernel
theorem dX3_hasEmptySlot_1 : decode cX3_hasEmptySlot 1 = .ok (.invokevirtual 47, 3) := by decide +kernel
theorem dX3_hasEmptySlot_4 : decode cX3_hasEmptySlot 4 = .ok (.iconst (-1), 1) := by decide +kernel
theorem dX3_hasEmptySlot_5 : decode cX3_hasEmptySlot 5 = .ok (.if_icmp .eq 7, 3) := by decide +kernel
theorem dX3_hasEmptySlot_8 : decode cX3_hasEmptySlot 8 = .ok (.iconst 1, 1) := by decide +kernel
theorem dX3_hasEmptySlot_9 : decode cX3_hasEmptySlot 9 = .ok (.goto 4, 3) := by decide +kernel
theorem dX3_hasEmptySlot_12 : decode cX3_hasEmptySlot 12 = .ok (.iconst 0, 1) := by decide +kernel
theorem dX3_hasEmptySlot_13 : decode cX3_hasEmptySlot 13 = .ok (.ireturn, 1) := by decide +kernel
theorem dX3_putValue_0 : decode cX3_putValue 0 = .ok (.aload_n 0, 1) := by decide +kernel
theorem dX3_putValue_1 : decode cX3_putValue 1 = .ok (.invokevirtual 47, 3) := by decide +kernel
theorem dX3_putValue_4 : decode cX3_putValue 4 = .ok (.istore_n 2, 1) := by decide +kernel
theorem dX3_putValue_5 : decode cX3_putValue 5 = .ok (.iload_n 2, 1) := by decide +kernel
theorem dX3_putValue_6 : decode cX3_putValue 6 = .ok (.iconst (-1), 1) := by decide +kernel
theorem dX3_putValue_7 : decode cX3_putValue 7 = .ok (.if_icmp .ne 5, 3) := by decide +kernel
theorem dX3_putValue_10 : decode cX3_putValue 10 = .ok (.iconst (-1), 1) := by decide +kernel
theorem dX3_putValue_11 : decode cX3_putValue 11 = .ok (.ireturn, 1) := by decide +kernel
theorem dX3_putValue_12 : decode cX3_putValue 12 = .ok (.aload_n 0, 1) := by decide +kernel
theorem dX3_putValue_13 : decode cX3_putValue 13 = .ok (.dup, 1) := by decide +kernel
theorem dX3_putValue_14 : decode cX3_putValue 14 = .ok (.getfield 36, 3) := by decide +kernel
theorem dX3_putValue_17 : decode cX3_putValue 17 = .ok (.iconst 1, 1) := by decide +kernel
theorem dX3_putValue_18 : decode cX3_putValue 18 = .ok (.iadd, 1) := by decide +kernel
theorem dX3_putValue_19 : decode cX3_putValue 19 = .ok (.putfield 36, 3) := by decide +kernel
theorem dX3_putValue_22 : decode cX3_putValue 22 = .ok (.aload_n 0, 1) := by decide +kernel
theorem dX3_putValue_23 : decode cX3_putValue 23 = .ok (.iload_n 2, 1) := by decide +kernel
theorem dX3_putValue_24 : decode cX3_putValue 24 = .ok (.iload_n 1, 1) := by decide +kernel
theorem dX3_putValue_25 : decode cX3_putValue 25 = .ok (.invokevirtual 51, 3) := by decide +kernel
theorem dX3_putValue_28 : decode cX3_putValue 28 = .ok (.iload_n 2, 1) := by decide +kernel
theorem dX3_putValue_29 : decode cX3_putValue 29 = .ok (.ireturn, 1) := by decide +kernel
theorem dX3_takeAway_0 : decode cX3_takeAway 0 = .ok (.aload_n 0, 1) := by decide +kernel
theorem dX3_takeAway_1 : decode cX3_takeAway 1 = .ok (.iload_n 1, 1) := by decide +kernel
theorem dX3_takeAway_2 : decode cX3_takeAway 2 = .ok (.invokevirtual 55, 3) := by decide +kernel
theorem dX3_takeAway_5 : decode cX3_takeAway 5 = .ok (.ifCond .ne 5, 3) := by decide +kernel
theorem dX3_takeAway_8 : decode cX3_takeAway 8 = .ok (.iconst 0, 1) := by decide +kernel
theorem dX3_takeAway_9 : decode cX3_takeAway 9 = .ok (.ireturn, 1) := by decide +kernel
theorem dX3_takeAway_10 : decode cX3_takeAway 10 = .ok (.aload_n 0, 1) := by decide +kernel
theorem dX3_takeAway_11 : decode cX3_takeAway 11 = .ok (.dup, 1) := by decide +kernel
theorem dX3_takeAway_12 : decode cX3_takeAway 12 = .ok (.getfield 36, 3) := by decide +kernel
theorem dX3_takeAway_15 : decode cX3_takeAway 15 = .ok (.iconst 1, 1) := by decide +kernel
theorem dX3_takeAway_16 : decode cX3_takeAway 16 = .ok (.iadd, 1) := by decide +kernel
theorem dX3_takeAway_17 : decode cX3_takeAway 17 = .ok (.putfield 36, 3) := by decide +kernel
theorem dX3_takeAway_20 : decode cX3_takeAway 20 = .ok (.aload_n 0, 1) := by decide +kernel
theorem dX3_takeAway_21 : decode cX3_takeAway 21 = .ok (.iload_n 1, 1) := by decide +kernel
theorem dX3_takeAway_22 : decode cX3_takeAway 22 = .ok (.invokevirtual 59, 3) := by decide +kernel
theorem dX3_takeAway_25 : decode cX3_takeAway 25 = .ok (.iconst 1, 1) := by decide +kernel
theorem dX3_takeAway_26 : decode cX3_takeAway 26 = .ok (.ireturn, 1) := by decide +kernel
theorem dX3_changeTo_0 : decode cX3_changeTo 0 = .ok (.aload_n 0, 1) := by decide +kernel
theorem dX3_changeTo_1 : decode cX3_changeTo 1 = .ok (.invokevirtual 47, 3) := by decide +kernel
theorem dX3_changeTo_4 : decode cX3_changeTo 4 = .ok (.istore_n 3, 1) := by decide +kernel
theorem dX3_changeTo_5 : decode cX3_changeTo 5 = .ok (.iload_n 3, 1) := by decide +kernel
theorem dX3_changeTo_6 : decode cX3_changeTo 6 = .ok (.iconst (-1), 1) := by decide +kernel
theorem dX3_changeTo_7 : decode cX3_changeTo 7 = .ok (.if_icmp .eq 11, 3) := by decide +kernel
theorem dX3_changeTo_10 : decode cX3_changeTo 10 = .ok (.aload_n 0, 1) := by decide +kernel
theorem dX3_changeTo_11 : decode cX3_changeTo 11 = .ok (.iload_n 1, 1) := by decide +kernel
theorem dX3_changeTo_12 : decode cX3_changeTo 12 = .ok (.invokevirtual 55, 3) := by decide +kernel
theorem dX3_changeTo_15 : decode cX3_changeTo 15 = .ok (.ifCond .ne 5, 3) := by decide +kernel
theorem dX3_changeTo_18 : decode cX3_changeTo 18 = .ok (.iconst (-1), 1) := by decide +kernel
theorem dX3_changeTo_19 : decode cX3_changeTo 19 = .ok (.ireturn, 1) := by decide +kernel
theorem dX3_changeTo_20 : decode cX3_changeTo 20 = .ok (.aload_n 0, 1) := by decide +kernel
theorem dX3_changeTo_21 : decode cX3_changeTo 21 = .ok (.dup, 1) := by decide +kernel
theorem dX3_changeTo_22 : decode cX3_changeTo 22 = .ok (.getfield 36, 3) := by decide +kernel
theorem dX3_changeTo_25 : decode cX3_changeTo 25 = .ok (.iconst 1, 1) := by decide +kernel
theorem dX3_changeTo_26 : decode cX3_changeTo 26 = .ok (.iadd, 1) := by decide +kernel
theorem dX3_changeTo_27 : decode cX3_changeTo 27 = .ok (.putfield 36, 3) := by decide +kernel
theorem dX3_changeTo_30 : decode cX3_changeTo 30 = .ok (.aload_n 0, 1) := by decide +kernel
theorem dX3_changeTo_31 : decode cX3_changeTo 31 = .ok (.iload_n 1, 1) := by decide +kernel
theorem dX3_changeTo_32 : decode cX3_changeTo 32 = .ok (.invokevirtual 59, 3) := by decide +kernel
theorem dX3_changeTo_35 : decode cX3_changeTo 35 = .ok (.aload_n 0, 1) := by decide +kernel
theorem dX3_changeTo_36 : decode cX3_changeTo 36 = .ok (.iload_n 3, 1) := by decide +kernel
theorem dX3_changeTo_37 : decode cX3_changeTo 37 = .ok (.iload_n 2, 1) := by decide +kernel
theorem dX3_changeTo_38 : decode cX3_changeTo 38 = .ok (.invokevirtual 51, 3) := by decide +kernel
theorem dX3_changeTo_41 : decode cX3_changeTo 41 = .ok (.iload_n 3, 1) := by decide +kernel
theorem dX3_changeTo_42 : decode cX3_changeTo 42 = .ok (.ireturn, 1) := by decide +kernel
theorem dX3_come_0 : decode cX3_come 0 = .ok (.aload_n 0, 1) := by decide +kernel
theorem dX3_come_1 : decode cX3_come 1 = .ok (.getfield 9, 3) := by decide +kernel
theorem dX3_come_4 : decode cX3_come 4 = .ok (.iload_n 1, 1) := by decide +kernel
theorem dX3_come_5 : decode cX3_come 5 = .ok (.iload_n 2, 1) := by decide +kernel
theorem dX3_come_6 : decode cX3_come 6 = .ok (.iastore, 1) := by decide +kernel
theorem dX3_come_7 : decode cX3_come 7 = .ok (.aload_n 0, 1) := by decide +kernel
theorem dX3_come_8 : decode cX3_come 8 = .ok (.getfield 15, 3) := by decide +kernel
theorem dX3_come_11 : decode cX3_come 11 = .ok (.iload_n 1, 1) := by decide +kernel
theorem dX3_come_12 : decode cX3_come 12 = .ok (.aload_n 0, 1) := by decide +kernel
theorem dX3_come_13 : decode cX3_come 13 = .ok (.getfield 36, 3) := by decide +kernel
theorem dX3_come_16 : decode cX3_come 16 = .ok (.iastore, 1) := by decide +kernel
theorem dX3_come_17 : decode cX3_come 17 = .ok (.aload_n 0, 1) := by decide +kernel
theorem dX3_come_18 : decode cX3_come 18 = .ok (.getfield 18, 3) := by decide +kernel
theorem dX3_come_21 : decode cX3_come 21 = .ok (.iload_n 1, 1) := by decide +kernel
theorem dX3_come_22 : decode cX3_come 22 = .ok (.iconst 0, 1) := by decide +kernel
theorem dX3_come_23 : decode cX3_come 23 = .ok (.iastore, 1) := by decide +kernel
theorem dX3_come_24 : decode cX3_come 24 = .ok (.aload_n 0, 1) := by decide +kernel
theorem dX3_come_25 : decode cX3_come 25 = .ok (.getfield 21, 3) := by decide +kernel
theorem dX3_come_28 : decode cX3_come 28 = .ok (.iload_n 1, 1) := by decide +kernel
theorem dX3_come_29 : decode cX3_come 29 = .ok (.iconst 4, 1) := by decide +kernel
theorem dX3_come_30 : decode cX3_come 30 = .ok (.idiv, 1) := by decide +kernel
theorem dX3_come_31 : decode cX3_come 31 = .ok (.iconst (-1), 1) := by decide +kernel
theorem dX3_come_32 : decode cX3_come 32 = .ok (.iastore, 1) := by decide +kernel
theorem dX3_come_33 : decode cX3_come 33 = .ok (.return_, 1) := by decide +kernel
theorem dX3_go_0 : decode cX3_go 0 = .ok (.aload_n 0, 1) := by decide +kernel
theorem dX3_go_1 : decode cX3_go 1 = .ok (.getfield 18, 3) := by decide +kernel
theorem dX3_go_4 : decode cX3_go 4 = .ok (.iload_n 1, 1) := by decide +kernel
theorem dX3_go_5 : decode cX3_go 5 = .ok (.aload_n 0, 1) := by decide +kernel
theorem dX3_go_6 : decode cX3_go 6 = .ok (.getfield 36, 3) := by decide +kernel
theorem dX3_go_9 : decode cX3_go 9 = .ok (.iastore, 1) := by decide +kernel
theorem dX3_go_10 : decode cX3_go 10 = .ok (.aload_n 0, 1) := by decide +kernel
theorem dX3_go_11 : decode cX3_go 11 = .ok (.getfield 21, 3) := by decide +kernel
theorem dX3_go_14 : decode cX3_go 14 = .ok (.iload_n 1, 1) := by decide +kernel
theorem dX3_go_15 : decode cX3_go 15 = .ok (.iconst 4, 1) := by decide +kernel
theorem dX3_go_16 : decode cX3_go 16 = .ok (.idiv, 1) := by decide +kernel
theorem dX3_go_17 : decode cX3_go 17 = .ok (.iconst (-1), 1) := by decide +kernel
theorem dX3_go_18 : decode cX3_go 18 = .ok (.iastore, 1) := by decide +kernel
theorem dX3_go_19 : decode cX3_go 19 = .ok (.return_, 1) := by decide +kernel
theorem dX3_isToTakeOut_0 : decode cX3_isToTakeOut 0 = .ok (.aload_n 0, 1) := by decide +kernel
theorem dX3_isToTakeOut_1 : decode cX3_isToTakeOut 1 = .ok (.getfield 18, 3) := by decide +kernel
theorem dX3_isToTakeOut_4 : decode cX3_isToTakeOut 4 = .ok (.iload_n 1, 1) := by decide +kernel
theorem dX3_isToTakeOut_5 : decode cX3_isToTakeOut 5 = .ok (.iaload, 1) := by decide +kernel
theorem dX3_isToTakeOut_6 : decode cX3_isToTakeOut 6 = .ok (.ifCond .le 17, 3) := by decide +kernel
theorem dX3_isToTakeOut_9 : decode cX3_isToTakeOut 9 = .ok (.aload_n 0, 1) := by decide +kernel
theorem dX3_isToTakeOut_10 : decode cX3_isToTakeOut 10 = .ok (.getfield 18, 3) := by decide +kernel
theorem dX3_isToTakeOut_13 : decode cX3_isToTakeOut 13 = .ok (.iload_n 1, 1) := by decide +kernel
theorem dX3_isToTakeOut_14 : decode cX3_isToTakeOut 14 = .ok (.iaload, 1) := by decide +kernel
theorem dX3_isToTakeOut_15 : decode cX3_isToTakeOut 15 = .ok (.iload_n 2, 1) := by decide +kernel
theorem dX3_isToTakeOut_16 : decode cX3_isToTakeOut 16 = .ok (.if_icmp .gt 7, 3) := by decide +kernel
theorem dX3_isToTakeOut_19 : decode cX3_isToTakeOut 19 = .ok (.iconst 1, 1) := by decide +kernel
theorem dX3_isToTakeOut_20 : decode cX3_isToTakeOut 20 = .ok (.goto 4, 3) := by decide +kernel
theorem dX3_isToTakeOut_23 : decode cX3_isToTakeOut 23 = .ok (.iconst 0, 1) := by decide +kernel
theorem dX3_isToTakeOut_24 : decode cX3_isToTakeOut 24 = .ok (.ireturn, 1) := by decide +kernel
theorem dX3_isSeenByAll_0 : decode cX3_isSeenByAll 0 = .ok (.aload_n 0, 1) := by decide +kernel
theorem dX3_isSeenByAll_1 : decode cX3_isSeenByAll 1 = .ok (.getfield 15, 3) := by decide +kernel
theorem dX3_isSeenByAll_4 : decode cX3_isSeenByAll 4 = .ok (.iload_n 1, 1) := by decide +kernel
theorem dX3_isSeenByAll_5 : decode cX3_isSeenByAll 5 = .ok (.iaload, 1) := by decide +kernel
theorem dX3_isSeenByAll_6 : decode cX3_isSeenByAll 6 = .ok (.iload_n 2, 1) := by decide +kernel
theorem dX3_isSeenByAll_7 : decode cX3_isSeenByAll 7 = .ok (.if_icmp .gt 16, 3) := by decide +kernel
theorem dX3_isSeenByAll_10 : decode cX3_isSeenByAll 10 = .ok (.aload_n 0, 1) := by decide +kernel
theorem dX3_isSeenByAll_11 : decode cX3_isSeenByAll 11 = .ok (.getfield 18, 3) := by decide +kernel
theorem dX3_isSeenByAll_14 : decode cX3_isSeenByAll 14 = .ok (.iload_n 1, 1) := by decide +kernel
theorem dX3_isSeenByAll_15 : decode cX3_isSeenByAll 15 = .ok (.iaload, 1) := by decide +kernel
theorem dX3_isSeenByAll_16 : decode cX3_isSeenByAll 16 = .ok (.ifCond .ne 7, 3) := by decide +kernel
theorem dX3_isSeenByAll_19 : decode cX3_isSeenByAll 19 = .ok (.iconst 1, 1) := by decide +kernel
theorem dX3_isSeenByAll_20 : decode cX3_isSeenByAll 20 = .ok (.goto 4, 3) := by decide +kernel
theorem dX3_isSeenByAll_23 : decode cX3_isSeenByAll 23 = .ok (.iconst 0, 1) := by decide +kernel
theorem dX3_isSeenByAll_24 : decode cX3_isSeenByAll 24 = .ok (.ireturn, 1) := by decide +kernel
theorem dX3_empty_0 : decode cX3_empty 0 = .ok (.aload_n 0, 1) := by decide +kernel
theorem dX3_empty_1 : decode cX3_empty 1 = .ok (.getfield 9, 3) := by decide +kernel
theorem dX3_empty_4 : decode cX3_empty 4 = .ok (.iload_n 1, 1) := by decide +kernel
theorem dX3_empty_5 : decode cX3_empty 5 = .ok (.iconst (-1), 1) := by decide +kernel
theorem dX3_empty_6 : decode cX3_empty 6 = .ok (.iastore, 1) := by decide +kernel
theorem dX3_empty_7 : decode cX3_empty 7 = .ok (.aload_n 0, 1) := by decide +kernel
theorem dX3_empty_8 : decode cX3_empty 8 = .ok (.getfield 15, 3) := by decide +kernel
theorem dX3_empty_11 : decode cX3_empty 11 = .ok (.iload_n 1, 1) := by decide +kernel
theorem dX3_empty_12 : decode cX3_empty 12 = .ok (.iconst (-1), 1) := by decide +kernel
theorem dX3_empty_13 : decode cX3_empty 13 = .ok (.iastore, 1) := by decide +kernel
theorem dX3_empty_14 : decode cX3_empty 14 = .ok (.aload_n 0, 1) := by decide +kernel
theorem dX3_empty_15 : decode cX3_empty 15 = .ok (.getfield 18, 3) := by decide +kernel
theorem dX3_empty_18 : decode cX3_empty 18 = .ok (.iload_n 1, 1) := by decide +kernel
theorem dX3_empty_19 : decode cX3_empty 19 = .ok (.iconst (-1), 1) := by decide +kernel
theorem dX3_empty_20 : decode cX3_empty 20 = .ok (.iastore, 1) := by decide +kernel
theorem dX3_empty_21 : decode cX3_empty 21 = .ok (.return_, 1) := by decide +kernel
theorem dX3_sweepPage_0 : decode cX3_sweepPage 0 = .ok (.iconst 0, 1) := by decide +kernel
theorem dX3_sweepPage_1 : decode cX3_sweepPage 1 = .ok (.istore_n 3, 1) := by decide +kernel
theorem dX3_sweepPage_2 : decode cX3_sweepPage 2 = .ok (.iconst 1, 1) := by decide +kernel
theorem dX3_sweepPage_3 : decode cX3_sweepPage 3 = .ok (.istore 4, 2) := by decide +kernel
theorem dX3_sweepPage_5 : decode cX3_sweepPage 5 = .ok (.iload_n 1, 1) := by decide +kernel
theorem dX3_sweepPage_6 : decode cX3_sweepPage 6 = .ok (.iconst 4, 1) := by decide +kernel
theorem dX3_sweepPage_7 : decode cX3_sweepPage 7 = .ok (.imul, 1) := by decide +kernel
theorem dX3_sweepPage_8 : decode cX3_sweepPage 8 = .ok (.istore 5, 2) := by decide +kernel
theorem dX3_sweepPage_10 : decode cX3_sweepPage 10 = .ok (.iload 5, 2) := by decide +kernel
theorem dX3_sweepPage_12 : decode cX3_sweepPage 12 = .ok (.istore 6, 2) := by decide +kernel
theorem dX3_sweepPage_14 : decode cX3_sweepPage 14 = .ok (.iload 6, 2) := by decide +kernel
theorem dX3_sweepPage_16 : decode cX3_sweepPage 16 = .ok (.iload 5, 2) := by decide +kernel
theorem dX3_sweepPage_18 : decode cX3_sweepPage 18 = .ok (.iconst 4, 1) := by decide +kernel
theorem dX3_sweepPage_19 : decode cX3_sweepPage 19 = .ok (.iadd, 1) := by decide +kernel
theorem dX3_sweepPage_20 : decode cX3_sweepPage 20 = .ok (.if_icmp .ge 55, 3) := by decide +kernel
theorem dX3_sweepPage_23 : decode cX3_sweepPage 23 = .ok (.aload_n 0, 1) := by decide +kernel
theorem dX3_sweepPage_24 : decode cX3_sweepPage 24 = .ok (.iload 6, 2) := by decide +kernel
theorem dX3_sweepPage_26 : decode cX3_sweepPage 26 = .ok (.iload_n 2, 1) := by decide +kernel
theorem dX3_sweepPage_27 : decode cX3_sweepPage 27 = .ok (.invokevirtual 63, 3) := by decide +kernel
theorem dX3_sweepPage_30 : decode cX3_sweepPage 30 = .ok (.ifCond .eq 15, 3) := by decide +kernel
theorem dX3_sweepPage_33 : decode cX3_sweepPage 33 = .ok (.aload_n 0, 1) := by decide +kernel
theorem dX3_sweepPage_34 : decode cX3_sweepPage 34 = .ok (.iload 6, 2) := by decide +kernel
theorem dX3_sweepPage_36 : decode cX3_sweepPage 36 = .ok (.invokevirtual 66, 3) := by decide +kernel
theorem dX3_sweepPage_39 : decode cX3_sweepPage 39 = .ok (.iinc 3 1, 3) := by decide +kernel
theorem dX3_sweepPage_42 : decode cX3_sweepPage 42 = .ok (.goto 27, 3) := by decide +kernel
theorem dX3_sweepPage_45 : decode cX3_sweepPage 45 = .ok (.aload_n 0, 1) := by decide +kernel
theorem dX3_sweepPage_46 : decode cX3_sweepPage 46 = .ok (.getfield 9, 3) := by decide +kernel
theorem dX3_sweepPage_49 : decode cX3_sweepPage 49 = .ok (.iload 6, 2) := by decide +kernel
theorem dX3_sweepPage_51 : decode cX3_sweepPage 51 = .ok (.iaload, 1) := by decide +kernel
theorem dX3_sweepPage_52 : decode cX3_sweepPage 52 = .ok (.iconst (-1), 1) := by decide +kernel
theorem dX3_sweepPage_53 : decode cX3_sweepPage 53 = .ok (.if_icmp .eq 16, 3) := by decide +kernel
theorem dX3_sweepPage_56 : decode cX3_sweepPage 56 = .ok (.aload_n 0, 1) := by decide +kernel
theorem dX3_sweepPage_57 : decode cX3_sweepPage 57 = .ok (.iload 6, 2) := by decide +kernel
theorem dX3_sweepPage_59 : decode cX3_sweepPage 59 = .ok (.iload_n 2, 1) := by decide +kernel
theorem dX3_sweepPage_60 : decode cX3_sweepPage 60 = .ok (.invokevirtual 69, 3) := by decide +kernel
theorem dX3_sweepPage_63 : decode cX3_sweepPage 63 = .ok (.ifCond .ne 6, 3) := by decide +kernel
theorem dX3_sweepPage_66 : decode cX3_sweepPage 66 = .ok (.iconst 0, 1) := by decide +kernel
theorem dX3_sweepPage_67 : decode cX3_sweepPage 67 = .ok (.istore 4, 2) := by decide +kernel
theorem dX3_sweepPage_69 : decode cX3_sweepPage 69 = .ok (.iinc 6 1, 3) := by decide +kernel
theorem dX3_sweepPage_72 : decode cX3_sweepPage 72 = .ok (.goto (-58), 3) := by decide +kernel
theorem dX3_sweepPage_75 : decode cX3_sweepPage 75 = .ok (.iload 4, 2) := by decide +kernel
theorem dX3_sweepPage_77 : decode cX3_sweepPage 77 = .ok (.ifCond .eq 10, 3) := by decide +kernel
theorem dX3_sweepPage_80 : decode cX3_sweepPage 80 = .ok (.aload_n 0, 1) := by decide +kernel
theorem dX3_sweepPage_81 : decode cX3_sweepPage 81 = .ok (.getfield 21, 3) := by decide +kernel
theorem dX3_sweepPage_84 : decode cX3_sweepPage 84 = .ok (.iload_n 1, 1) := by decide +kernel
theorem dX3_sweepPage_85 : decode cX3_sweepPage 85 = .ok (.iload_n 2, 1) := by decide +kernel
theorem dX3_sweepPage_86 : decode cX3_sweepPage 86 = .ok (.iastore, 1) := by decide +kernel
theorem dX3_sweepPage_87 : decode cX3_sweepPage 87 = .ok (.aload_n 0, 1) := by decide +kernel
theorem dX3_sweepPage_88 : decode cX3_sweepPage 88 = .ok (.dup, 1) := by decide +kernel
theorem dX3_sweepPage_89 : decode cX3_sweepPage 89 = .ok (.getfield 40, 3) := by decide +kernel
theorem dX3_sweepPage_92 : decode cX3_sweepPage 92 = .ok (.iload_n 3, 1) := by decide +kernel
theorem dX3_sweepPage_93 : decode cX3_sweepPage 93 = .ok (.iadd, 1) := by decide +kernel
theorem dX3_sweepPage_94 : decode cX3_sweepPage 94 = .ok (.putfield 40, 3) := by decide +kernel
theorem dX3_sweepPage_97 : decode cX3_sweepPage 97 = .ok (.iload_n 3, 1) := by decide +kernel
theorem dX3_sweepPage_98 : decode cX3_sweepPage 98 = .ok (.ireturn, 1) := by decide +kernel
theorem dX3_versions_0 : decode cX3_versions 0 = .ok (.iconst 0, 1) := by decide +kernel
theorem dX3_versions_1 : decode cX3_versions 1 = .ok (.istore_n 3, 1) := by decide +kernel
theorem dX3_versions_2 : decode cX3_versions 2 = .ok (.iload_n 1, 1) := by decide +kernel
theorem dX3_versions_3 : decode cX3_versions 3 = .ok (.istore 4, 2) := by decide +kernel
theorem dX3_versions_5 : decode cX3_versions 5 = .ok (.iload 4, 2) := by decide +kernel
theorem dX3_versions_7 : decode cX3_versions 7 = .ok (.iload_n 2, 1) := by decide +kernel
theorem dX3_versions_8 : decode cX3_versions 8 = .ok (.if_icmp .ge 23, 3) := by decide +kernel
theorem dX3_versions_11 : decode cX3_versions 11 = .ok (.aload_n 0, 1) := by decide +kernel
theorem dX3_versions_12 : decode cX3_versions 12 = .ok (.getfield 9, 3) := by decide +kernel
theorem dX3_versions_15 : decode cX3_versions 15 = .ok (.iload 4, 2) := by decide +kernel
theorem dX3_versions_17 : decode cX3_versions 17 = .ok (.iaload, 1) := by decide +kernel
theorem dX3_versions_18 : decode cX3_versions 18 = .ok (.iconst (-1), 1) := by decide +kernel
theorem dX3_versions_19 : decode cX3_versions 19 = .ok (.if_icmp .eq 6, 3) := by decide +kernel
theorem dX3_versions_22 : decode cX3_versions 22 = .ok (.iinc 3 1, 3) := by decide +kernel
theorem dX3_versions_25 : decode cX3_versions 25 = .ok (.iinc 4 1, 3) := by decide +kernel
theorem dX3_versions_28 : decode cX3_versions 28 = .ok (.goto (-23), 3) := by decide +kernel
theorem dX3_versions_31 : decode cX3_versions 31 = .ok (.iload_n 3, 1) := by decide +kernel
theorem dX3_versions_32 : decode cX3_versions 32 = .ok (.ireturn, 1) := by decide +kernel
theorem dX3_versionsSeen_0 : decode cX3_versionsSeen 0 = .ok (.iconst 0, 1) := by decide +kernel
theorem dX3_versionsSeen_1 : decode cX3_versionsSeen 1 = .ok (.istore 4, 2) := by decide +kernel
theorem dX3_versionsSeen_3 : decode cX3_versionsSeen 3 = .ok (.iload_n 1, 1) := by decide +kernel
theorem dX3_versionsSeen_4 : decode cX3_versionsSeen 4 = .ok (.istore 5, 2) := by decide +kernel
theorem dX3_versionsSeen_6 : decode cX3_versionsSeen 6 = .ok (.iload 5, 2) := by decide +kernel
theorem dX3_versionsSeen_8 : decode cX3_versionsSeen 8 = .ok (.iload_n 2, 1) := by decide +kernel
theorem dX3_versionsSeen_9 : decode cX3_versionsSeen 9 = .ok (.if_icmp .ge 22, 3) := by decide +kernel
theorem dX3_versionsSeen_12 : decode cX3_versionsSeen 12 = .ok (.aload_n 0, 1) := by decide +kernel
theorem dX3_versionsSeen_13 : decode cX3_versionsSeen 13 = .ok (.iload 5, 2) := by decide +kernel
theorem dX3_versionsSeen_15 : decode cX3_versionsSeen 15 = .ok (.iload_n 3, 1) := by decide +kernel
theorem dX3_versionsSeen_16 : decode cX3_versionsSeen 16 = .ok (.invokevirtual 43, 3) := by decide +kernel
theorem dX3_versionsSeen_19 : decode cX3_versionsSeen 19 = .ok (.ifCond .eq 6, 3) := by decide +kernel
theorem dX3_versionsSeen_22 : decode cX3_versionsSeen 22 = .ok (.iinc 4 1, 3) := by decide +kernel
theorem dX3_versionsSeen_25 : decode cX3_versionsSeen 25 = .ok (.iinc 5 1, 3) := by decide +kernel
theorem dX3_versionsSeen_28 : decode cX3_versionsSeen 28 = .ok (.goto (-22), 3) := by decide +kernel
theorem dX3_versionsSeen_31 : decode cX3_versionsSeen 31 = .ok (.iload 4, 2) := by decide +kernel
theorem dX3_versionsSeen_33 : decode cX3_versionsSeen 33 = .ok (.ireturn, 1) := by decide +kernel
theorem dX3_versionsToTakeOut_0 : decode cX3_versionsToTakeOut 0 = .ok (.iconst 0, 1) := by decide +kernel
theorem dX3_versionsToTakeOut_1 : decode cX3_versionsToTakeOut 1 = .ok (.istore 4, 2) := by decide +kernel
theorem dX3_versionsToTakeOut_3 : decode cX3_versionsToTakeOut 3 = .ok (.iload_n 1, 1) := by decide +kernel
theorem dX3_versionsToTakeOut_4 : decode cX3_versionsToTakeOut 4 = .ok (.istore 5, 2) := by decide +kernel
theorem dX3_versionsToTakeOut_6 : decode cX3_versionsToTakeOut 6 = .ok (.iload 5, 2) := by decide +kernel
theorem dX3_versionsToTakeOut_8 : decode cX3_versionsToTakeOut 8 = .ok (.iload_n 2, 1) := by decide +kernel
theorem dX3_versionsToTakeOut_9 : decode cX3_versionsToTakeOut 9 = .ok (.if_icmp .ge 22, 3) := by decide +kernel
theorem dX3_versionsToTakeOut_12 : decode cX3_versionsToTakeOut 12 = .ok (.aload_n 0, 1) := by decide +kernel
theorem dX3_versionsToTakeOut_13 : decode cX3_versionsToTakeOut 13 = .ok (.iload 5, 2) := by decide +kernel
theorem dX3_versionsToTakeOut_15 : decode cX3_versionsToTakeOut 15 = .ok (.iload_n 3, 1) := by decide +kernel
theorem dX3_versionsToTakeOut_16 : decode cX3_versionsToTakeOut 16 = .ok (.invokevirtual 63, 3) := by decide +kernel
theorem dX3_versionsToTakeOut_19 : decode cX3_versionsToTakeOut 19 = .ok (.ifCond .eq 6, 3) := by decide +kernel
theorem dX3_versionsToTakeOut_22 : decode cX3_versionsToTakeOut 22 = .ok (.iinc 4 1, 3) := by decide +kernel
theorem dX3_versionsToTakeOut_25 : decode cX3_versionsToTakeOut 25 = .ok (.iinc 5 1, 3) := by decide +kernel
theorem dX3_versionsToTakeOut_28 : decode cX3_versionsToTakeOut 28 = .ok (.goto (-22), 3) := by decide +kernel
theorem dX3_versionsToTakeOut_31 : decode cX3_versionsToTakeOut 31 = .ok (.iload 4, 2) := by decide +kernel
theorem dX3_versionsToTakeOut_33 : decode cX3_versionsToTakeOut 33 = .ok (.ireturn, 1) := by decide +kernel
theorem dX3_markedPages_0 : decode cX3_markedPages 0 = .ok (.iconst 0, 1) := by decide +kernel
theorem dX3_markedPages_1 : decode cX3_markedPages 1 = .ok (.istore_n 1, 1) := by decide +kernel
theorem dX3_markedPages_2 : decode cX3_markedPages 2 = .ok (.iconst 0, 1) := by decide +kernel
theorem dX3_markedPages_3 : decode cX3_markedPages 3 = .ok (.istore_n 2, 1) := by decide +kernel
theorem dX3_markedPages_4 : decode cX3_markedPages 4 = .ok (.iload_n 2, 1) := by decide +kernel
theorem dX3_markedPages_5 : decode cX3_markedPages 5 = .ok (.bipush 6, 2) := by decide +kernel
theorem dX3_markedPages_7 : decode cX3_markedPages 7 = .ok (.if_icmp .ge 20, 3) := by decide +kernel
theorem dX3_markedPages_10 : decode cX3_markedPages 10 = .ok (.aload_n 0, 1) := by decide +kernel
theorem dX3_markedPages_11 : decode cX3_markedPages 11 = .ok (.iload_n 2, 1) := by decide +kernel
theorem dX3_markedPages_12 : decode cX3_markedPages 12 = .ok (.invokevirtual 72, 3) := by decide +kernel
theorem dX3_markedPages_15 : decode cX3_markedPages 15 = .ok (.ifCond .eq 6, 3) := by decide +kernel
theorem dX3_markedPages_18 : decode cX3_markedPages 18 = .ok (.iinc 1 1, 3) := by decide +kernel
theorem dX3_markedPages_21 : decode cX3_markedPages 21 = .ok (.iinc 2 1, 3) := by decide +kernel
theorem dX3_markedPages_24 : decode cX3_markedPages 24 = .ok (.goto (-20), 3) := by decide +kernel
theorem dX3_markedPages_27 : decode cX3_markedPages 27 = .ok (.iload_n 1, 1) := by decide +kernel
theorem dX3_markedPages_28 : decode cX3_markedPages 28 = .ok (.ireturn, 1) := by decide +kernel
theorem dX3_mayTrustMarks_0 : decode cX3_mayTrustMarks 0 = .ok (.iconst 0, 1) := by decide +kernel
theorem dX3_mayTrustMarks_1 : decode cX3_mayTrustMarks 1 = .ok (.istore_n 2, 1) := by decide +kernel
theorem dX3_mayTrustMarks_2 : decode cX3_mayTrustMarks 2 = .ok (.iload_n 2, 1) := by decide +kernel
theorem dX3_mayTrustMarks_3 : decode cX3_mayTrustMarks 3 = .ok (.bipush 6, 2) := by decide +kernel
theorem dX3_mayTrustMarks_5 : decode cX3_mayTrustMarks 5 = .ok (.if_icmp .ge 21, 3) := by decide +kernel
theorem dX3_mayTrustMarks_8 : decode cX3_mayTrustMarks 8 = .ok (.aload_n 0, 1) := by decide +kernel
theorem dX3_mayTrustMarks_9 : decode cX3_mayTrustMarks 9 = .ok (.getfield 21, 3) := by decide +kernel
theorem dX3_mayTrustMarks_12 : decode cX3_mayTrustMarks 12 = .ok (.iload_n 2, 1) := by decide +kernel
theorem dX3_mayTrustMarks_13 : decode cX3_mayTrustMarks 13 = .ok (.iaload, 1) := by decide +kernel
theorem dX3_mayTrustMarks_14 : decode cX3_mayTrustMarks 14 = .ok (.iload_n 1, 1) := by decide +kernel
theorem dX3_mayTrustMarks_15 : decode cX3_mayTrustMarks 15 = .ok (.if_icmp .le 5, 3) := by decide +kernel
theorem dX3_mayTrustMarks_18 : decode cX3_mayTrustMarks 18 = .ok (.iconst 0, 1) := by decide +kernel
theorem dX3_mayTrustMarks_19 : decode cX3_mayTrustMarks 19 = .ok (.ireturn, 1) := by decide +kernel
theorem dX3_mayTrustMarks_20 : decode cX3_mayTrustMarks 20 = .ok (.iinc 2 1, 3) := by decide +kernel
theorem dX3_mayTrustMarks_23 : decode cX3_mayTrustMarks 23 = .ok (.goto (-21), 3) := by decide +kernel
theorem dX3_mayTrustMarks_26 : decode cX3_mayTrustMarks 26 = .ok (.iconst 1, 1) := by decide +kernel
theorem dX3_mayTrustMarks_27 : decode cX3_mayTrustMarks 27 = .ok (.ireturn, 1) := by decide +kernel
theorem dX3_answer_0 : decode cX3_answer 0 = .ok (.iload_n 3, 1) := by decide +kernel
theorem dX3_answer_1 : decode cX3_answer 1 = .ok (.iconst 2, 1) := by decide +kernel
theorem dX3_answer_2 : decode cX3_answer 2 = .ok (.if_icmp .ne 15, 3) := by decide +kernel
theorem dX3_answer_5 : decode cX3_answer 5 = .ok (.aload_n 0, 1) := by decide +kernel
theorem dX3_answer_6 : decode cX3_answer 6 = .ok (.iload_n 1, 1) := by decide +kernel
theorem dX3_answer_7 : decode cX3_answer 7 = .ok (.invokevirtual 75, 3) := by decide +kernel
theorem dX3_answer_10 : decode cX3_answer 10 = .ok (.ifCond .eq 7, 3) := by decide +kernel
theorem dX3_answer_13 : decode cX3_answer 13 = .ok (.iconst 1, 1) := by decide +kernel
theorem dX3_answer_14 : decode cX3_answer 14 = .ok (.goto 4, 3) := by decide +kernel
theorem dX3_answer_17 : decode cX3_answer 17 = .ok (.iconst 0, 1) := by decide +kernel
theorem dX3_answer_18 : decode cX3_answer 18 = .ok (.istore 4, 2) := by decide +kernel
theorem dX3_answer_20 : decode cX3_answer 20 = .ok (.iconst 0, 1) := by decide +kernel
theorem dX3_answer_21 : decode cX3_answer 21 = .ok (.istore 5, 2) := by decide +kernel
theorem dX3_answer_23 : decode cX3_answer 23 = .ok (.iconst 0, 1) := by decide +kernel
theorem dX3_answer_24 : decode cX3_answer 24 = .ok (.istore 6, 2) := by decide +kernel
theorem dX3_answer_26 : decode cX3_answer 26 = .ok (.iload 6, 2) := by decide +kernel
theorem dX3_answer_28 : decode cX3_answer 28 = .ok (.bipush 24, 2) := by decide +kernel
theorem dX3_answer_30 : decode cX3_answer 30 = .ok (.if_icmp .ge 52, 3) := by decide +kernel
theorem dX3_answer_33 : decode cX3_answer 33 = .ok (.aload_n 0, 1) := by decide +kernel
theorem dX3_answer_34 : decode cX3_answer 34 = .ok (.getfield 9, 3) := by decide +kernel
theorem dX3_answer_37 : decode cX3_answer 37 = .ok (.iload 6, 2) := by decide +kernel
theorem dX3_answer_39 : decode cX3_answer 39 = .ok (.iaload, 1) := by decide +kernel
theorem dX3_answer_40 : decode cX3_answer 40 = .ok (.iload_n 2, 1) := by decide +kernel
theorem dX3_answer_41 : decode cX3_answer 41 = .ok (.if_icmp .eq 6, 3) := by decide +kernel
theorem dX3_answer_44 : decode cX3_answer 44 = .ok (.goto 32, 3) := by decide +kernel
theorem dX3_answer_47 : decode cX3_answer 47 = .ok (.iload 4, 2) := by decide +kernel
theorem dX3_answer_49 : decode cX3_answer 49 = .ok (.ifCond .eq 14, 3) := by decide +kernel
theorem dX3_answer_52 : decode cX3_answer 52 = .ok (.aload_n 0, 1) := by decide +kernel
theorem dX3_answer_53 : decode cX3_answer 53 = .ok (.iload 6, 2) := by decide +kernel
theorem dX3_answer_55 : decode cX3_answer 55 = .ok (.iconst 4, 1) := by decide +kernel
theorem dX3_answer_56 : decode cX3_answer 56 = .ok (.idiv, 1) := by decide +kernel
theorem dX3_answer_57 : decode cX3_answer 57 = .ok (.invokevirtual 72, 3) := by decide +kernel
theorem dX3_answer_60 : decode cX3_answer 60 = .ok (.ifCond .ne 13, 3) := by decide +kernel
theorem dX3_answer_63 : decode cX3_answer 63 = .ok (.aload_n 0, 1) := by decide +kernel
theorem dX3_answer_64 : decode cX3_answer 64 = .ok (.iload 6, 2) := by decide +kernel
theorem dX3_answer_66 : decode cX3_answer 66 = .ok (.iload_n 1, 1) := by decide +kernel
theorem dX3_answer_67 : decode cX3_answer 67 = .ok (.invokevirtual 43, 3) := by decide +kernel
theorem dX3_answer_70 : decode cX3_answer 70 = .ok (.ifCond .eq 6, 3) := by decide +kernel
theorem dX3_answer_73 : decode cX3_answer 73 = .ok (.iinc 5 1, 3) := by decide +kernel
theorem dX3_answer_76 : decode cX3_answer 76 = .ok (.iinc 6 1, 3) := by decide +kernel
theorem dX3_answer_79 : decode cX3_answer 79 = .ok (.goto (-53), 3) := by decide +kernel
theorem dX3_answer_82 : decode cX3_answer 82 = .ok (.iload 5, 2) := by decide +kernel
theorem dX3_answer_84 : decode cX3_answer 84 = .ok (.ireturn, 1) := by decide +kernel
theorem dX3_cost_0 : decode cX3_cost 0 = .ok (.iload_n 3, 1) := by decide +kernel
theorem dX3_cost_1 : decode cX3_cost 1 = .ok (.ifCond .ne 6, 3) := by decide +kernel
theorem dX3_cost_4 : decode cX3_cost 4 = .ok (.bipush 6, 2) := by decide +kernel
theorem dX3_cost_6 : decode cX3_cost 6 = .ok (.ireturn, 1) := by decide +kernel
theorem dX3_cost_7 : decode cX3_cost 7 = .ok (.iload_n 3, 1) := by decide +kernel
theorem dX3_cost_8 : decode cX3_cost 8 = .ok (.iconst 2, 1) := by decide +kernel
theorem dX3_cost_9 : decode cX3_cost 9 = .ok (.if_icmp .ne 15, 3) := by decide +kernel
theorem dX3_cost_12 : decode cX3_cost 12 = .ok (.aload_n 0, 1) := by decide +kernel
theorem dX3_cost_13 : decode cX3_cost 13 = .ok (.iload_n 1, 1) := by decide +kernel
theorem dX3_cost_14 : decode cX3_cost 14 = .ok (.invokevirtual 75, 3) := by decide +kernel
theorem dX3_cost_17 : decode cX3_cost 17 = .ok (.ifCond .eq 7, 3) := by decide +kernel
theorem dX3_cost_20 : decode cX3_cost 20 = .ok (.iconst 1, 1) := by decide +kernel
theorem dX3_cost_21 : decode cX3_cost 21 = .ok (.goto 4, 3) := by decide +kernel
theorem dX3_cost_24 : decode cX3_cost 24 = .ok (.iconst 0, 1) := by decide +kernel
theorem dX3_cost_25 : decode cX3_cost 25 = .ok (.istore 4, 2) := by decide +kernel
theorem dX3_cost_27 : decode cX3_cost 27 = .ok (.iconst 0, 1) := by decide +kernel
theorem dX3_cost_28 : decode cX3_cost 28 = .ok (.istore 5, 2) := by decide +kernel
theorem dX3_cost_30 : decode cX3_cost 30 = .ok (.iconst 0, 1) := by decide +kernel
theorem dX3_cost_31 : decode cX3_cost 31 = .ok (.istore 6, 2) := by decide +kernel
theorem dX3_cost_33 : decode cX3_cost 33 = .ok (.iload 6, 2) := by decide +kernel
theorem dX3_cost_35 : decode cX3_cost 35 = .ok (.bipush 6, 2) := by decide +kernel
theorem dX3_cost_37 : decode cX3_cost 37 = .ok (.if_icmp .ge 36, 3) := by decide +kernel
theorem dX3_cost_40 : decode cX3_cost 40 = .ok (.aload_n 0, 1) := by decide +kernel
theorem dX3_cost_41 : decode cX3_cost 41 = .ok (.iload 6, 2) := by decide +kernel
theorem dX3_cost_43 : decode cX3_cost 43 = .ok (.iload_n 2, 1) := by decide +kernel
theorem dX3_cost_44 : decode cX3_cost 44 = .ok (.invokevirtual 78, 3) := by decide +kernel
theorem dX3_cost_47 : decode cX3_cost 47 = .ok (.ifCond .eq 20, 3) := by decide +kernel
theorem dX3_cost_50 : decode cX3_cost 50 = .ok (.iload 4, 2) := by decide +kernel
theorem dX3_cost_52 : decode cX3_cost 52 = .ok (.ifCond .eq 12, 3) := by decide +kernel
theorem dX3_cost_55 : decode cX3_cost 55 = .ok (.aload_n 0, 1) := by decide +kernel
theorem dX3_cost_56 : decode cX3_cost 56 = .ok (.iload 6, 2) := by decide +kernel
theorem dX3_cost_58 : decode cX3_cost 58 = .ok (.invokevirtual 72, 3) := by decide +kernel
theorem dX3_cost_61 : decode cX3_cost 61 = .ok (.ifCond .ne 6, 3) := by decide +kernel
theorem dX3_cost_64 : decode cX3_cost 64 = .ok (.iinc 5 1, 3) := by decide +kernel
theorem dX3_cost_67 : decode cX3_cost 67 = .ok (.iinc 6 1, 3) := by decide +kernel
theorem dX3_cost_70 : decode cX3_cost 70 = .ok (.goto (-37), 3) := by decide +kernel
theorem dX3_cost_73 : decode cX3_cost 73 = .ok (.iload 5, 2) := by decide +kernel
theorem dX3_cost_75 : decode cX3_cost 75 = .ok (.ireturn, 1) := by decide +kernel
theorem dX3_indexHas_0 : decode cX3_indexHas 0 = .ok (.iload_n 1, 1) := by decide +kernel
theorem dX3_indexHas_1 : decode cX3_indexHas 1 = .ok (.iconst 4, 1) := by decide +kernel
theorem dX3_indexHas_2 : decode cX3_indexHas 2 = .ok (.imul, 1) := by decide +kernel
theorem dX3_indexHas_3 : decode cX3_indexHas 3 = .ok (.istore_n 3, 1) := by decide +kernel
theorem dX3_indexHas_4 : decode cX3_indexHas 4 = .ok (.iload_n 3, 1) := by decide +kernel
theorem dX3_indexHas_5 : decode cX3_indexHas 5 = .ok (.istore 4, 2) := by decide +kernel
theorem dX3_indexHas_7 : decode cX3_indexHas 7 = .ok (.iload 4, 2) := by decide +kernel
theorem dX3_indexHas_9 : decode cX3_indexHas 9 = .ok (.iload_n 3, 1) := by decide +kernel
theorem dX3_indexHas_10 : decode cX3_indexHas 10 = .ok (.iconst 4, 1) := by decide +kernel
theorem dX3_indexHas_11 : decode cX3_indexHas 11 = .ok (.iadd, 1) := by decide +kernel
theorem dX3_indexHas_12 : decode cX3_indexHas 12 = .ok (.if_icmp .ge 22, 3) := by decide +kernel
theorem dX3_indexHas_15 : decode cX3_indexHas 15 = .ok (.aload_n 0, 1) := by decide +kernel
theorem dX3_indexHas_16 : decode cX3_indexHas 16 = .ok (.getfield 9, 3) := by decide +kernel
theorem dX3_indexHas_19 : decode cX3_indexHas 19 = .ok (.iload 4, 2) := by decide +kernel
theorem dX3_indexHas_21 : decode cX3_indexHas 21 = .ok (.iaload, 1) := by decide +kernel
theorem dX3_indexHas_22 : decode cX3_indexHas 22 = .ok (.iload_n 2, 1) := by decide +kernel
theorem dX3_indexHas_23 : decode cX3_indexHas 23 = .ok (.if_icmp .ne 5, 3) := by decide +kernel
theorem dX3_indexHas_26 : decode cX3_indexHas 26 = .ok (.iconst 1, 1) := by decide +kernel
theorem dX3_indexHas_27 : decode cX3_indexHas 27 = .ok (.ireturn, 1) := by decide +kernel
theorem dX3_indexHas_28 : decode cX3_indexHas 28 = .ok (.iinc 4 1, 3) := by decide +kernel
theorem dX3_indexHas_31 : decode cX3_indexHas 31 = .ok (.goto (-24), 3) := by decide +kernel
theorem dX3_indexHas_34 : decode cX3_indexHas 34 = .ok (.iconst 0, 1) := by decide +kernel
theorem dX3_indexHas_35 : decode cX3_indexHas 35 = .ok (.ireturn, 1) := by decide +kernel
theorem dX3_wronglyTold_0 : decode cX3_wronglyTold 0 = .ok (.iconst 0, 1) := by decide +kernel
theorem dX3_wronglyTold_1 : decode cX3_wronglyTold 1 = .ok (.istore_n 2, 1) := by decide +kernel
theorem dX3_wronglyTold_2 : decode cX3_wronglyTold 2 = .ok (.iconst 0, 1) := by decide +kernel
theorem dX3_wronglyTold_3 : decode cX3_wronglyTold 3 = .ok (.istore_n 3, 1) := by decide +kernel
theorem dX3_wronglyTold_4 : decode cX3_wronglyTold 4 = .ok (.iload_n 3, 1) := by decide +kernel
theorem dX3_wronglyTold_5 : decode cX3_wronglyTold 5 = .ok (.bipush 24, 2) := by decide +kernel
theorem dX3_wronglyTold_7 : decode cX3_wronglyTold 7 = .ok (.if_icmp .ge 30, 3) := by decide +kernel
theorem dX3_wronglyTold_10 : decode cX3_wronglyTold 10 = .ok (.aload_n 0, 1) := by decide +kernel
theorem dX3_wronglyTold_11 : decode cX3_wronglyTold 11 = .ok (.getfield 9, 3) := by decide +kernel
theorem dX3_wronglyTold_14 : decode cX3_wronglyTold 14 = .ok (.iload_n 3, 1) := by decide +kernel
theorem dX3_wronglyTold_15 : decode cX3_wronglyTold 15 = .ok (.iaload, 1) := by decide +kernel
theorem dX3_wronglyTold_16 : decode cX3_wronglyTold 16 = .ok (.iload_n 1, 1) := by decide +kernel
theorem dX3_wronglyTold_17 : decode cX3_wronglyTold 17 = .ok (.if_icmp .ne 14, 3) := by decide +kernel
theorem dX3_wronglyTold_20 : decode cX3_wronglyTold 20 = .ok (.aload_n 0, 1) := by decide +kernel
theorem dX3_wronglyTold_21 : decode cX3_wronglyTold 21 = .ok (.iload_n 3, 1) := by decide +kernel
theorem dX3_wronglyTold_22 : decode cX3_wronglyTold 22 = .ok (.invokevirtual 55, 3) := by decide +kernel
theorem dX3_wronglyTold_25 : decode cX3_wronglyTold 25 = .ok (.ifCond .ne 6, 3) := by decide +kernel
theorem dX3_wronglyTold_28 : decode cX3_wronglyTold 28 = .ok (.iinc 2 1, 3) := by decide +kernel
theorem dX3_wronglyTold_31 : decode cX3_wronglyTold 31 = .ok (.iinc 3 1, 3) := by decide +kernel
theorem dX3_wronglyTold_34 : decode cX3_wronglyTold 34 = .ok (.goto (-30), 3) := by decide +kernel
theorem dX3_wronglyTold_37 : decode cX3_wronglyTold 37 = .ok (.iload_n 2, 1) := by decide +kernel
theorem dX3_wronglyTold_38 : decode cX3_wronglyTold 38 = .ok (.ireturn, 1) := by decide +kernel
theorem dX3_leastCostWay_0 : decode cX3_leastCostWay 0 = .ok (.iconst 0, 1) := by decide +kernel
theorem dX3_leastCostWay_1 : decode cX3_leastCostWay 1 = .ok (.istore_n 2, 1) := by decide +kernel
theorem dX3_leastCostWay_2 : decode cX3_leastCostWay 2 = .ok (.iconst 1, 1) := by decide +kernel
theorem dX3_leastCostWay_3 : decode cX3_leastCostWay 3 = .ok (.istore_n 3, 1) := by decide +kernel
theorem dX3_leastCostWay_4 : decode cX3_leastCostWay 4 = .ok (.iload_n 3, 1) := by decide +kernel
theorem dX3_leastCostWay_5 : decode cX3_leastCostWay 5 = .ok (.iconst 3, 1) := by decide +kernel
theorem dX3_leastCostWay_6 : decode cX3_leastCostWay 6 = .ok (.if_icmp .ge 34, 3) := by decide +kernel
theorem dX3_leastCostWay_9 : decode cX3_leastCostWay 9 = .ok (.aload_n 0, 1) := by decide +kernel
theorem dX3_leastCostWay_10 : decode cX3_leastCostWay 10 = .ok (.aload_n 0, 1) := by decide +kernel
theorem dX3_leastCostWay_11 : decode cX3_leastCostWay 11 = .ok (.getfield 36, 3) := by decide +kernel
theorem dX3_leastCostWay_14 : decode cX3_leastCostWay 14 = .ok (.iload_n 1, 1) := by decide +kernel
theorem dX3_leastCostWay_15 : decode cX3_leastCostWay 15 = .ok (.iload_n 3, 1) := by decide +kernel
theorem dX3_leastCostWay_16 : decode cX3_leastCostWay 16 = .ok (.invokevirtual 81, 3) := by decide +kernel
theorem dX3_leastCostWay_19 : decode cX3_leastCostWay 19 = .ok (.aload_n 0, 1) := by decide +kernel
theorem dX3_leastCostWay_20 : decode cX3_leastCostWay 20 = .ok (.aload_n 0, 1) := by decide +kernel
theorem dX3_leastCostWay_21 : decode cX3_leastCostWay 21 = .ok (.getfield 36, 3) := by decide +kernel
theorem dX3_leastCostWay_24 : decode cX3_leastCostWay 24 = .ok (.iload_n 1, 1) := by decide +kernel
theorem dX3_leastCostWay_25 : decode cX3_leastCostWay 25 = .ok (.iload_n 2, 1) := by decide +kernel
theorem dX3_leastCostWay_26 : decode cX3_leastCostWay 26 = .ok (.invokevirtual 81, 3) := by decide +kernel
theorem dX3_leastCostWay_29 : decode cX3_leastCostWay 29 = .ok (.if_icmp .gt 5, 3) := by decide +kernel
theorem dX3_leastCostWay_32 : decode cX3_leastCostWay 32 = .ok (.iload_n 3, 1) := by decide +kernel
theorem dX3_leastCostWay_33 : decode cX3_leastCostWay 33 = .ok (.istore_n 2, 1) := by decide +kernel
theorem dX3_leastCostWay_34 : decode cX3_leastCostWay 34 = .ok (.iinc 3 1, 3) := by decide +kernel
theorem dX3_leastCostWay_37 : decode cX3_leastCostWay 37 = .ok (.goto (-33), 3) := by decide +kernel
theorem dX3_leastCostWay_40 : decode cX3_leastCostWay 40 = .ok (.iload_n 2, 1) := by decide +kernel
theorem dX3_leastCostWay_41 : decode cX3_leastCostWay 41 = .ok (.ireturn, 1) := by decide +kernel
theorem dX4_init_0 : decode cX4_init 0 = .ok (.aload_n 0, 1) := by decide +kernel
theorem dX4_init_1 : decode cX4_init 1 = .ok (.invokespecial 3, 3) := by decide +kernel
theorem dX4_init_4 : decode cX4_init 4 = .ok (.aload_n 0, 1) := by decide +kernel
theorem dX4_init_5 : decode cX4_init 5 = .ok (.iconst 3, 1) := by decide +kernel
theorem dX4_init_6 : decode cX4_init 6 = .ok (.newarray .int, 2) := by decide +kernel
theorem dX4_init_8 : decode cX4_init 8 = .ok (.putfield 9, 3) := by decide +kernel
theorem dX4_init_11 : decode cX4_init 11 = .ok (.return_, 1) := by decide +kernel
theorem dX4_copyFrom_0 : decode cX4_copyFrom 0 = .ok (.aload_n 1, 1) := by decide +kernel
theorem dX4_copyFrom_1 : decode cX4_copyFrom 1 = .ok (.getfield 9, 3) := by decide +kernel
theorem dX4_copyFrom_4 : decode cX4_copyFrom 4 = .ok (.iconst 0, 1) := by decide +kernel
theorem dX4_copyFrom_5 : decode cX4_copyFrom 5 = .ok (.aload_n 0, 1) := by decide +kernel
theorem dX4_copyFrom_6 : decode cX4_copyFrom 6 = .ok (.getfield 9, 3) := by decide +kernel
theorem dX4_copyFrom_9 : decode cX4_copyFrom 9 = .ok (.iconst 0, 1) := by decide +kernel
theorem dX4_copyFrom_10 : decode cX4_copyFrom 10 = .ok (.iconst 3, 1) := by decide +kernel
theorem dX4_copyFrom_11 : decode cX4_copyFrom 11 = .ok (.invokestatic 15, 3) := by decide +kernel
theorem dX4_copyFrom_14 : decode cX4_copyFrom 14 = .ok (.aload_n 0, 1) := by decide +kernel
theorem dX4_copyFrom_15 : decode cX4_copyFrom 15 = .ok (.aload_n 1, 1) := by decide +kernel
theorem dX4_copyFrom_16 : decode cX4_copyFrom 16 = .ok (.getfield 21, 3) := by decide +kernel
theorem dX4_copyFrom_19 : decode cX4_copyFrom 19 = .ok (.putfield 21, 3) := by decide +kernel
theorem dX4_copyFrom_22 : decode cX4_copyFrom 22 = .ok (.aload_n 0, 1) := by decide +kernel
theorem dX4_copyFrom_23 : decode cX4_copyFrom 23 = .ok (.aload_n 1, 1) := by decide +kernel
theorem dX4_copyFrom_24 : decode cX4_copyFrom 24 = .ok (.getfield 25, 3) := by decide +kernel
theorem dX4_copyFrom_27 : decode cX4_copyFrom 27 = .ok (.putfield 25, 3) := by decide +kernel
theorem dX4_copyFrom_30 : decode cX4_copyFrom 30 = .ok (.return_, 1) := by decide +kernel
theorem dX4_add_0 : decode cX4_add 0 = .ok (.aload_n 0, 1) := by decide +kernel
theorem dX4_add_1 : decode cX4_add 1 = .ok (.getfield 9, 3) := by decide +kernel
theorem dX4_add_4 : decode cX4_add 4 = .ok (.iload_n 1, 1) := by decide +kernel
theorem dX4_add_5 : decode cX4_add 5 = .ok (.dup2, 1) := by decide +kernel
theorem dX4_add_6 : decode cX4_add 6 = .ok (.iaload, 1) := by decide +kernel
theorem dX4_add_7 : decode cX4_add 7 = .ok (.iconst 1, 1) := by decide +kernel
theorem dX4_add_8 : decode cX4_add 8 = .ok (.iadd, 1) := by decide +kernel
theorem dX4_add_9 : decode cX4_add 9 = .ok (.iastore, 1) := by decide +kernel
theorem dX4_add_10 : decode cX4_add 10 = .ok (.aload_n 0, 1) := by decide +kernel
theorem dX4_add_11 : decode cX4_add 11 = .ok (.dup, 1) := by decide +kernel
theorem dX4_add_12 : decode cX4_add 12 = .ok (.getfield 25, 3) := by decide +kernel
theorem dX4_add_15 : decode cX4_add 15 = .ok (.iload_n 2, 1) := by decide +kernel
theorem dX4_add_16 : decode cX4_add 16 = .ok (.iadd, 1) := by decide +kernel
theorem dX4_add_17 : decode cX4_add 17 = .ok (.putfield 25, 3) := by decide +kernel
theorem dX4_add_20 : decode cX4_add 20 = .ok (.iload_n 1, 1) := by decide +kernel
theorem dX4_add_21 : decode cX4_add 21 = .ok (.iconst 2, 1) := by decide +kernel
theorem dX4_add_22 : decode cX4_add 22 = .ok (.if_icmp .ne 17, 3) := by decide +kernel
theorem dX4_add_25 : decode cX4_add 25 = .ok (.iload_n 3, 1) := by decide +kernel
theorem dX4_add_26 : decode cX4_add 26 = .ok (.ifCond .eq 13, 3) := by decide +kernel
theorem dX4_add_29 : decode cX4_add 29 = .ok (.aload_n 0, 1) := by decide +kernel
theorem dX4_add_30 : decode cX4_add 30 = .ok (.dup, 1) := by decide +kernel
theorem dX4_add_31 : decode cX4_add 31 = .ok (.getfield 21, 3) := by decide +kernel
theorem dX4_add_34 : decode cX4_add 34 = .ok (.iconst 1, 1) := by decide +kernel
theorem dX4_add_35 : decode cX4_add 35 = .ok (.iadd, 1) := by decide +kernel
theorem dX4_add_36 : decode cX4_add 36 = .ok (.putfield 21, 3) := by decide +kernel
theorem dX4_add_39 : decode cX4_add 39 = .ok (.return_, 1) := by decide +kernel
theorem dX5_init_0 : decode cX5_init 0 = .ok (.aload_n 0, 1) := by decide +kernel
theorem dX5_init_1 : decode cX5_init 1 = .ok (.invokespecial 3, 3) := by decide +kernel
theorem dX5_init_4 : decode cX5_init 4 = .ok (.aload_n 0, 1) := by decide +kernel
theorem dX5_init_5 : decode cX5_init 5 = .ok (.bipush 60, 2) := by decide +kernel
theorem dX5_init_7 : decode cX5_init 7 = .ok (.newarray .char, 2) := by decide +kernel
theorem dX5_init_9 : decode cX5_init 9 = .ok (.putfield 9, 3) := by decide +kernel
theorem dX5_init_12 : decode cX5_init 12 = .ok (.return_, 1) := by decide +kernel
theorem dX5_add_0 : decode cX5_add 0 = .ok (.aload_n 0, 1) := by decide +kernel
theorem dX5_add_1 : decode cX5_add 1 = .ok (.getfield 15, 3) := by decide +kernel
theorem dX5_add_4 : decode cX5_add 4 = .ok (.bipush 60, 2) := by decide +kernel
theorem dX5_add_6 : decode cX5_add 6 = .ok (.if_icmp .ge 23, 3) := by decide +kernel
theorem dX5_add_9 : decode cX5_add 9 = .ok (.aload_n 0, 1) := by decide +kernel
theorem dX5_add_10 : decode cX5_add 10 = .ok (.getfield 9, 3) := by decide +kernel
theorem dX5_add_13 : decode cX5_add 13 = .ok (.aload_n 0, 1) := by decide +kernel
theorem dX5_add_14 : decode cX5_add 14 = .ok (.getfield 15, 3) := by decide +kernel
theorem dX5_add_17 : decode cX5_add 17 = .ok (.iload_n 1, 1) := by decide +kernel
theorem dX5_add_18 : decode cX5_add 18 = .ok (.castore, 1) := by decide +kernel
theorem dX5_add_19 : decode cX5_add 19 = .ok (.aload_n 0, 1) := by decide +kernel
theorem dX5_add_20 : decode cX5_add 20 = .ok (.dup, 1) := by decide +kernel
theorem dX5_add_21 : decode cX5_add 21 = .ok (.getfield 15, 3) := by decide +kernel
theorem dX5_add_24 : decode cX5_add 24 = .ok (.iconst 1, 1) := by decide +kernel
theorem dX5_add_25 : decode cX5_add 25 = .ok (.iadd, 1) := by decide +kernel
theorem dX5_add_26 : decode cX5_add 26 = .ok (.putfield 15, 3) := by decide +kernel
theorem dX5_add_29 : decode cX5_add 29 = .ok (.aload_n 0, 1) := by decide +kernel
theorem dX5_add_30 : decode cX5_add 30 = .ok (.getfield 15, 3) := by decide +kernel
theorem dX5_add_33 : decode cX5_add 33 = .ok (.ireturn, 1) := by decide +kernel
theorem dX5_wipe_0 : decode cX5_wipe 0 = .ok (.aload_n 0, 1) := by decide +kernel
theorem dX5_wipe_1 : decode cX5_wipe 1 = .ok (.getfield 15, 3) := by decide +kernel
theorem dX5_wipe_4 : decode cX5_wipe 4 = .ok (.istore_n 1, 1) := by decide +kernel
theorem dX5_wipe_5 : decode cX5_wipe 5 = .ok (.aload_n 0, 1) := by decide +kernel
theorem dX5_wipe_6 : decode cX5_wipe 6 = .ok (.iconst 0, 1) := by decide +kernel
theorem dX5_wipe_7 : decode cX5_wipe 7 = .ok (.putfield 15, 3) := by decide +kernel
theorem dX5_wipe_10 : decode cX5_wipe 10 = .ok (.iload_n 1, 1) := by decide +kernel
theorem dX5_wipe_11 : decode cX5_wipe 11 = .ok (.ireturn, 1) := by decide +kernel
theorem dX5_signAt_0 : decode cX5_signAt 0 = .ok (.iload_n 1, 1) := by decide +kernel
theorem dX5_signAt_1 : decode cX5_signAt 1 = .ok (.ifCond .lt 20, 3) := by decide +kernel
theorem dX5_signAt_4 : decode cX5_signAt 4 = .ok (.iload_n 1, 1) := by decide +kernel
theorem dX5_signAt_5 : decode cX5_signAt 5 = .ok (.aload_n 0, 1) := by decide +kernel
theorem dX5_signAt_6 : decode cX5_signAt 6 = .ok (.getfield 15, 3) := by decide +kernel
theorem dX5_signAt_9 : decode cX5_signAt 9 = .ok (.if_icmp .ge 12, 3) := by decide +kernel
theorem dX5_signAt_12 : decode cX5_signAt 12 = .ok (.aload_n 0, 1) := by decide +kernel
theorem dX5_signAt_13 : decode cX5_signAt 13 = .ok (.getfield 9, 3) := by decide +kernel
theorem dX5_signAt_16 : decode cX5_signAt 16 = .ok (.iload_n 1, 1) := by decide +kernel
theorem dX5_signAt_17 : decode cX5_signAt 17 = .ok (.caload, 1) := by decide +kernel
theorem dX5_signAt_18 : decode cX5_signAt 18 = .ok (.goto 4, 3) := by decide +kernel
theorem dX5_signAt_21 : decode cX5_signAt 21 = .ok (.iconst 0, 1) := by decide +kernel
theorem dX5_signAt_22 : decode cX5_signAt 22 = .ok (.ireturn, 1) := by decide +kernel
theorem dX5_rewind_0 : decode cX5_rewind 0 = .ok (.aload_n 0, 1) := by decide +kernel
theorem dX5_rewind_1 : decode cX5_rewind 1 = .ok (.iconst 0, 1) := by decide +kernel
theorem dX5_rewind_2 : decode cX5_rewind 2 = .ok (.putfield 19, 3) := by decide +kernel
theorem dX5_rewind_5 : decode cX5_rewind 5 = .ok (.return_, 1) := by decide +kernel
theorem dX5_readAll_0 : decode cX5_readAll 0 = .ok (.aload_n 0, 1) := by decide +kernel
theorem dX5_readAll_1 : decode cX5_readAll 1 = .ok (.invokevirtual 22, 3) := by decide +kernel
theorem dX5_readAll_4 : decode cX5_readAll 4 = .ok (.aload_n 0, 1) := by decide +kernel
theorem dX5_readAll_5 : decode cX5_readAll 5 = .ok (.invokevirtual 25, 3) := by decide +kernel
theorem dX5_readAll_8 : decode cX5_readAll 8 = .ok (.istore_n 1, 1) := by decide +kernel
theorem dX5_readAll_9 : decode cX5_readAll 9 = .ok (.iconst 1, 1) := by decide +kernel
theorem dX5_readAll_10 : decode cX5_readAll 10 = .ok (.istore_n 2, 1) := by decide +kernel
theorem dX5_readAll_11 : decode cX5_readAll 11 = .ok (.iload_n 1, 1) := by decide +kernel
theorem dX5_readAll_12 : decode cX5_readAll 12 = .ok (.ifCond .eq 31, 3) := by decide +kernel
theorem dX5_readAll_15 : decode cX5_readAll 15 = .ok (.aload_n 0, 1) := by decide +kernel
theorem dX5_readAll_16 : decode cX5_readAll 16 = .ok (.getfield 19, 3) := by decide +kernel
theorem dX5_readAll_19 : decode cX5_readAll 19 = .ok (.aload_n 0, 1) := by decide +kernel
theorem dX5_readAll_20 : decode cX5_readAll 20 = .ok (.getfield 15, 3) := by decide +kernel
theorem dX5_readAll_23 : decode cX5_readAll 23 = .ok (.if_icmp .ge 20, 3) := by decide +kernel
theorem dX5_readAll_26 : decode cX5_readAll 26 = .ok (.iload_n 2, 1) := by decide +kernel
theorem dX5_readAll_27 : decode cX5_readAll 27 = .ok (.bipush 60, 2) := by decide +kernel
theorem dX5_readAll_29 : decode cX5_readAll 29 = .ok (.if_icmp .ge 14, 3) := by decide +kernel
theorem dX5_readAll_32 : decode cX5_readAll 32 = .ok (.aload_n 0, 1) := by decide +kernel
theorem dX5_readAll_33 : decode cX5_readAll 33 = .ok (.invokevirtual 25, 3) := by decide +kernel
theorem dX5_readAll_36 : decode cX5_readAll 36 = .ok (.istore_n 1, 1) := by decide +kernel
theorem dX5_readAll_37 : decode cX5_readAll 37 = .ok (.iinc 2 1, 3) := by decide +kernel
theorem dX5_readAll_40 : decode cX5_readAll 40 = .ok (.goto (-29), 3) := by decide +kernel
theorem dX5_readAll_43 : decode cX5_readAll 43 = .ok (.iload_n 1, 1) := by decide +kernel
theorem dX5_readAll_44 : decode cX5_readAll 44 = .ok (.ireturn, 1) := by decide +kernel
theorem dX5_readNext_0 : decode cX5_readNext 0 = .ok (.aload_n 0, 1) := by decide +kernel
theorem dX5_readNext_1 : decode cX5_readNext 1 = .ok (.getfield 19, 3) := by decide +kernel
theorem dX5_readNext_4 : decode cX5_readNext 4 = .ok (.ifCond .le 14, 3) := by decide +kernel
theorem dX5_readNext_7 : decode cX5_readNext 7 = .ok (.aload_n 0, 1) := by decide +kernel
theorem dX5_readNext_8 : decode cX5_readNext 8 = .ok (.bipush 44, 2) := by decide +kernel
theorem dX5_readNext_10 : decode cX5_readNext 10 = .ok (.invokevirtual 29, 3) := by decide +kernel
theorem dX5_readNext_13 : decode cX5_readNext 13 = .ok (.ifCond .ne 5, 3) := by decide +kernel
theorem dX5_readNext_16 : decode cX5_readNext 16 = .ok (.iconst 0, 1) := by decide +kernel
theorem dX5_readNext_17 : decode cX5_readNext 17 = .ok (.ireturn, 1) := by decide +kernel
theorem dX5_readNext_18 : decode cX5_readNext 18 = .ok (.aload_n 0, 1) := by decide +kernel
theorem dX5_readNext_19 : decode cX5_readNext 19 = .ok (.aload_n 0, 1) := by decide +kernel
theorem dX5_readNext_20 : decode cX5_readNext 20 = .ok (.getfield 19, 3) := by decide +kernel
theorem dX5_readNext_23 : decode cX5_readNext 23 = .ok (.invokevirtual 33, 3) := by decide +kernel
theorem dX5_readNext_26 : decode cX5_readNext 26 = .ok (.istore_n 1, 1) := by decide +kernel
theorem dX5_readNext_27 : decode cX5_readNext 27 = .ok (.iload_n 1, 1) := by decide +kernel
theorem dX5_readNext_28 : decode cX5_readNext 28 = .ok (.lookupswitch 103 #[(43, 36), (45, 59), (126, 80)], 36) := by decide +kernel
theorem dX5_readNext_64 : decode cX5_readNext 64 = .ok (.aload_n 0, 1) := by decide +kernel
theorem dX5_readNext_65 : decode cX5_readNext 65 = .ok (.bipush 43, 2) := by decide +kernel
theorem dX5_readNext_67 : decode cX5_readNext 67 = .ok (.putfield 37, 3) := by decide +kernel
theorem dX5_readNext_70 : decode cX5_readNext 70 = .ok (.aload_n 0, 1) := by decide +kernel
theorem dX5_readNext_71 : decode cX5_readNext 71 = .ok (.dup, 1) := by decide +kernel
theorem dX5_readNext_72 : decode cX5_readNext 72 = .ok (.getfield 19, 3) := by decide +kernel
theorem dX5_readNext_75 : decode cX5_readNext 75 = .ok (.iconst 1, 1) := by decide +kernel
theorem dX5_readNext_76 : decode cX5_readNext 76 = .ok (.iadd, 1) := by decide +kernel
theorem dX5_readNext_77 : decode cX5_readNext 77 = .ok (.putfield 19, 3) := by decide +kernel
theorem dX5_readNext_80 : decode cX5_readNext 80 = .ok (.aload_n 0, 1) := by decide +kernel
theorem dX5_readNext_81 : decode cX5_readNext 81 = .ok (.bipush 10, 2) := by decide +kernel
theorem dX5_readNext_83 : decode cX5_readNext 83 = .ok (.invokevirtual 41, 3) := by decide +kernel
theorem dX5_readNext_86 : decode cX5_readNext 86 = .ok (.ireturn, 1) := by decide +kernel
theorem dX5_readNext_87 : decode cX5_readNext 87 = .ok (.aload_n 0, 1) := by decide +kernel
theorem dX5_readNext_88 : decode cX5_readNext 88 = .ok (.bipush 45, 2) := by decide +kernel
theorem dX5_readNext_90 : decode cX5_readNext 90 = .ok (.putfield 37, 3) := by decide +kernel
theorem dX5_readNext_93 : decode cX5_readNext 93 = .ok (.aload_n 0, 1) := by decide +kernel
theorem dX5_readNext_94 : decode cX5_readNext 94 = .ok (.dup, 1) := by decide +kernel
theorem dX5_readNext_95 : decode cX5_readNext 95 = .ok (.getfield 19, 3) := by decide +kernel
theorem dX5_readNext_98 : decode cX5_readNext 98 = .ok (.iconst 1, 1) := by decide +kernel
theorem dX5_readNext_99 : decode cX5_readNext 99 = .ok (.iadd, 1) := by decide +kernel
theorem dX5_readNext_100 : decode cX5_readNext 100 = .ok (.putfield 19, 3) := by decide +kernel
theorem dX5_readNext_103 : decode cX5_readNext 103 = .ok (.aload_n 0, 1) := by decide +kernel
theorem dX5_readNext_104 : decode cX5_readNext 104 = .ok (.invokevirtual 45, 3) := by decide +kernel
theorem dX5_readNext_107 : decode cX5_readNext 107 = .ok (.ireturn, 1) := by decide +kernel
theorem dX5_readNext_108 : decode cX5_readNext 108 = .ok (.aload_n 0, 1) := by decide +kernel
theorem dX5_readNext_109 : decode cX5_readNext 109 = .ok (.bipush 126, 2) := by decide +kernel
theorem dX5_readNext_111 : decode cX5_readNext 111 = .ok (.putfield 37, 3) := by decide +kernel
theorem dX5_readNext_114 : decode cX5_readNext 114 = .ok (.aload_n 0, 1) := by decide +kernel
theorem dX5_readNext_115 : decode cX5_readNext 115 = .ok (.dup, 1) := by decide +kernel
theorem dX5_readNext_116 : decode cX5_readNext 116 = .ok (.getfield 19, 3) := by decide +kernel
theorem dX5_readNext_119 : decode cX5_readNext 119 = .ok (.iconst 1, 1) := by decide +kernel
theorem dX5_readNext_120 : decode cX5_readNext 120 = .ok (.iadd, 1) := by decide +kernel
theorem dX5_readNext_121 : decode cX5_readNext 121 = .ok (.putfield 19, 3) := by decide +kernel
theorem dX5_readNext_124 : decode cX5_readNext 124 = .ok (.aload_n 0, 1) := by decide +kernel
theorem dX5_readNext_125 : decode cX5_readNext 125 = .ok (.bipush 6, 2) := by decide +kernel
theorem dX5_readNext_127 : decode cX5_readNext 127 = .ok (.invokevirtual 41, 3) := by decide +kernel
theorem dX5_readNext_130 : decode cX5_readNext 130 = .ok (.ireturn, 1) := by decide +kernel
theorem dX5_readNext_131 : decode cX5_readNext 131 = .ok (.aload_n 0, 1) := by decide +kernel
theorem dX5_readNext_132 : decode cX5_readNext 132 = .ok (.bipush 61, 2) := by decide +kernel
theorem dX5_readNext_134 : decode cX5_readNext 134 = .ok (.putfield 37, 3) := by decide +kernel
theorem dX5_readNext_137 : decode cX5_readNext 137 = .ok (.aload_n 0, 1) := by decide +kernel
theorem dX5_readNext_138 : decode cX5_readNext 138 = .ok (.invokevirtual 45, 3) := by decide +kernel
theorem dX5_readNext_141 : decode cX5_readNext 141 = .ok (.ifCond .eq 25, 3) := by decide +kernel
theorem dX5_readNext_144 : decode cX5_readNext 144 = .ok (.aload_n 0, 1) := by decide +kernel
theorem dX5_readNext_145 : decode cX5_readNext 145 = .ok (.bipush 61, 2) := by decide +kernel
theorem dX5_readNext_147 : decode cX5_readNext 147 = .ok (.invokevirtual 29, 3) := by decide +kernel
theorem dX5_readNext_150 : decode cX5_readNext 150 = .ok (.ifCond .eq 16, 3) := by decide +kernel
theorem dX5_readNext_153 : decode cX5_readNext 153 = .ok (.aload_n 0, 1) := by decide +kernel
theorem dX5_readNext_154 : decode cX5_readNext 154 = .ok (.bipush 10, 2) := by decide +kernel
theorem dX5_readNext_156 : decode cX5_readNext 156 = .ok (.invokevirtual 41, 3) := by decide +kernel
theorem dX5_readNext_159 : decode cX5_readNext 159 = .ok (.ifCond .eq 7, 3) := by decide +kernel
theorem dX5_readNext_162 : decode cX5_readNext 162 = .ok (.iconst 1, 1) := by decide +kernel
theorem dX5_readNext_163 : decode cX5_readNext 163 = .ok (.goto 4, 3) := by decide +kernel
theorem dX5_readNext_166 : decode cX5_readNext 166 = .ok (.iconst 0, 1) := by decide +kernel
theorem dX5_readNext_167 : decode cX5_readNext 167 = .ok (.ireturn, 1) := by decide +kernel
theorem dX5_readSign_0 : decode cX5_readSign 0 = .ok (.aload_n 0, 1) := by decide +kernel
theorem dX5_readSign_1 : decode cX5_readSign 1 = .ok (.aload_n 0, 1) := by decide +kernel
theorem dX5_readSign_2 : decode cX5_readSign 2 = .ok (.getfield 19, 3) := by decide +kernel
theorem dX5_readSign_5 : decode cX5_readSign 5 = .ok (.invokevirtual 33, 3) := by decide +kernel
theorem dX5_readSign_8 : decode cX5_readSign 8 = .ok (.iload_n 1, 1) := by decide +kernel
theorem dX5_readSign_9 : decode cX5_readSign 9 = .ok (.if_icmp .eq 5, 3) := by decide +kernel
theorem dX5_readSign_12 : decode cX5_readSign 12 = .ok (.iconst 0, 1) := by decide +kernel
theorem dX5_readSign_13 : decode cX5_readSign 13 = .ok (.ireturn, 1) := by decide +kernel
theorem dX5_readSign_14 : decode cX5_readSign 14 = .ok (.aload_n 0, 1) := by decide +kernel
theorem dX5_readSign_15 : decode cX5_readSign 15 = .ok (.dup, 1) := by decide +kernel
theorem dX5_readSign_16 : decode cX5_readSign 16 = .ok (.getfield 19, 3) := by decide +kernel
theorem dX5_readSign_19 : decode cX5_readSign 19 = .ok (.iconst 1, 1) := by decide +kernel
theorem dX5_readSign_20 : decode cX5_readSign 20 = .ok (.iadd, 1) := by decide +kernel
theorem dX5_readSign_21 : decode cX5_readSign 21 = .ok (.putfield 19, 3) := by decide +kernel
theorem dX5_readSign_24 : decode cX5_readSign 24 = .ok (.iconst 1, 1) := by decide +kernel
theorem dX5_readSign_25 : decode cX5_readSign 25 = .ok (.ireturn, 1) := by decide +kernel
theorem dX5_readDigit_0 : decode cX5_readDigit 0 = .ok (.aload_n 0, 1) := by decide +kernel
theorem dX5_readDigit_1 : decode cX5_readDigit 1 = .ok (.invokevirtual 48, 3) := by decide +kernel
theorem dX5_readDigit_4 : decode cX5_readDigit 4 = .ok (.istore_n 2, 1) := by decide +kernel
theorem dX5_readDigit_5 : decode cX5_readDigit 5 = .ok (.iload_n 2, 1) := by decide +kernel
theorem dX5_readDigit_6 : decode cX5_readDigit 6 = .ok (.iconst (-1), 1) := by decide +kernel
theorem dX5_readDigit_7 : decode cX5_readDigit 7 = .ok (.if_icmp .eq 8, 3) := by decide +kernel
theorem dX5_readDigit_10 : decode cX5_readDigit 10 = .ok (.iload_n 2, 1) := by decide +kernel
theorem dX5_readDigit_11 : decode cX5_readDigit 11 = .ok (.iload_n 1, 1) := by decide +kernel
theorem dX5_readDigit_12 : decode cX5_readDigit 12 = .ok (.if_icmp .lt 5, 3) := by decide +kernel
theorem dX5_readDigit_15 : decode cX5_readDigit 15 = .ok (.iconst 0, 1) := by decide +kernel
theorem dX5_readDigit_16 : decode cX5_readDigit 16 = .ok (.ireturn, 1) := by decide +kernel
theorem dX5_readDigit_17 : decode cX5_readDigit 17 = .ok (.aload_n 0, 1) := by decide +kernel
theorem dX5_readDigit_18 : decode cX5_readDigit 18 = .ok (.iload_n 2, 1) := by decide +kernel
theorem dX5_readDigit_19 : decode cX5_readDigit 19 = .ok (.putfield 52, 3) := by decide +kernel
theorem dX5_readDigit_22 : decode cX5_readDigit 22 = .ok (.aload_n 0, 1) := by decide +kernel
theorem dX5_readDigit_23 : decode cX5_readDigit 23 = .ok (.dup, 1) := by decide +kernel
theorem dX5_readDigit_24 : decode cX5_readDigit 24 = .ok (.getfield 19, 3) := by decide +kernel
theorem dX5_readDigit_27 : decode cX5_readDigit 27 = .ok (.iconst 1, 1) := by decide +kernel
theorem dX5_readDigit_28 : decode cX5_readDigit 28 = .ok (.iadd, 1) := by decide +kernel
theorem dX5_readDigit_29 : decode cX5_readDigit 29 = .ok (.putfield 19, 3) := by decide +kernel
theorem dX5_readDigit_32 : decode cX5_readDigit 32 = .ok (.iconst 1, 1) := by decide +kernel
theorem dX5_readDigit_33 : decode cX5_readDigit 33 = .ok (.ireturn, 1) := by decide +kernel
theorem dX5_readPlace_0 : decode cX5_readPlace 0 = .ok (.aload_n 0, 1) := by decide +kernel
theorem dX5_readPlace_1 : decode cX5_readPlace 1 = .ok (.invokevirtual 48, 3) := by decide +kernel
theorem dX5_readPlace_4 : decode cX5_readPlace 4 = .ok (.istore_n 1, 1) := by decide +kernel
theorem dX5_readPlace_5 : decode cX5_readPlace 5 = .ok (.iload_n 1, 1) := by decide +kernel
theorem dX5_readPlace_6 : decode cX5_readPlace 6 = .ok (.iconst (-1), 1) := by decide +kernel
theorem dX5_readPlace_7 : decode cX5_readPlace 7 = .ok (.if_icmp .ne 5, 3) := by decide +kernel
theorem dX5_readPlace_10 : decode cX5_readPlace 10 = .ok (.iconst 0, 1) := by decide +kernel
theorem dX5_readPlace_11 : decode cX5_readPlace 11 = .ok (.ireturn, 1) := by decide +kernel
theorem dX5_readPlace_12 : decode cX5_readPlace 12 = .ok (.aload_n 0, 1) := by decide +kernel
theorem dX5_readPlace_13 : decode cX5_readPlace 13 = .ok (.iload_n 1, 1) := by decide +kernel
theorem dX5_readPlace_14 : decode cX5_readPlace 14 = .ok (.putfield 55, 3) := by decide +kernel
theorem dX5_readPlace_17 : decode cX5_readPlace 17 = .ok (.aload_n 0, 1) := by decide +kernel
theorem dX5_readPlace_18 : decode cX5_readPlace 18 = .ok (.dup, 1) := by decide +kernel
theorem dX5_readPlace_19 : decode cX5_readPlace 19 = .ok (.getfield 19, 3) := by decide +kernel
theorem dX5_readPlace_22 : decode cX5_readPlace 22 = .ok (.iconst 1, 1) := by decide +kernel
theorem dX5_readPlace_23 : decode cX5_readPlace 23 = .ok (.iadd, 1) := by decide +kernel
theorem dX5_readPlace_24 : decode cX5_readPlace 24 = .ok (.putfield 19, 3) := by decide +kernel
theorem dX5_readPlace_27 : decode cX5_readPlace 27 = .ok (.aload_n 0, 1) := by decide +kernel
theorem dX5_readPlace_28 : decode cX5_readPlace 28 = .ok (.invokevirtual 48, 3) := by decide +kernel
theorem dX5_readPlace_31 : decode cX5_readPlace 31 = .ok (.istore_n 2, 1) := by decide +kernel
theorem dX5_readPlace_32 : decode cX5_readPlace 32 = .ok (.iload_n 1, 1) := by decide +kernel
theorem dX5_readPlace_33 : decode cX5_readPlace 33 = .ok (.ifCond .le 39, 3) := by decide +kernel
theorem dX5_readPlace_36 : decode cX5_readPlace 36 = .ok (.iload_n 2, 1) := by decide +kernel
theorem dX5_readPlace_37 : decode cX5_readPlace 37 = .ok (.iconst (-1), 1) := by decide +kernel
theorem dX5_readPlace_38 : decode cX5_readPlace 38 = .ok (.if_icmp .eq 34, 3) := by decide +kernel
theorem dX5_readPlace_41 : decode cX5_readPlace 41 = .ok (.bipush 10, 2) := by decide +kernel
theorem dX5_readPlace_43 : decode cX5_readPlace 43 = .ok (.iload_n 1, 1) := by decide +kernel
theorem dX5_readPlace_44 : decode cX5_readPlace 44 = .ok (.imul, 1) := by decide +kernel
theorem dX5_readPlace_45 : decode cX5_readPlace 45 = .ok (.iload_n 2, 1) := by decide +kernel
theorem dX5_readPlace_46 : decode cX5_readPlace 46 = .ok (.iadd, 1) := by decide +kernel
theorem dX5_readPlace_47 : decode cX5_readPlace 47 = .ok (.bipush 24, 2) := by decide +kernel
theorem dX5_readPlace_49 : decode cX5_readPlace 49 = .ok (.if_icmp .ge 23, 3) := by decide +kernel
theorem dX5_readPlace_52 : decode cX5_readPlace 52 = .ok (.aload_n 0, 1) := by decide +kernel
theorem dX5_readPlace_53 : decode cX5_readPlace 53 = .ok (.bipush 10, 2) := by decide +kernel
theorem dX5_readPlace_55 : decode cX5_readPlace 55 = .ok (.iload_n 1, 1) := by decide +kernel
theorem dX5_readPlace_56 : decode cX5_readPlace 56 = .ok (.imul, 1) := by decide +kernel
theorem dX5_readPlace_57 : decode cX5_readPlace 57 = .ok (.iload_n 2, 1) := by decide +kernel
theorem dX5_readPlace_58 : decode cX5_readPlace 58 = .ok (.iadd, 1) := by decide +kernel
theorem dX5_readPlace_59 : decode cX5_readPlace 59 = .ok (.putfield 55, 3) := by decide +kernel
theorem dX5_readPlace_62 : decode cX5_readPlace 62 = .ok (.aload_n 0, 1) := by decide +kernel
theorem dX5_readPlace_63 : decode cX5_readPlace 63 = .ok (.dup, 1) := by decide +kernel
theorem dX5_readPlace_64 : decode cX5_readPlace 64 = .ok (.getfield 19, 3) := by decide +kernel
theorem dX5_readPlace_67 : decode cX5_readPlace 67 = .ok (.iconst 1, 1) := by decide +kernel
theorem dX5_readPlace_68 : decode cX5_readPlace 68 = .ok (.iadd, 1) := by decide +kernel
theorem dX5_readPlace_69 : decode cX5_readPlace 69 = .ok (.putfield 19, 3) := by decide +kernel
theorem dX5_readPlace_72 : decode cX5_readPlace 72 = .ok (.iconst 1, 1) := by decide +kernel
theorem dX5_readPlace_73 : decode cX5_readPlace 73 = .ok (.ireturn, 1) := by decide +kernel
theorem dX5_digitHere_0 : decode cX5_digitHere 0 = .ok (.aload_n 0, 1) := by decide +kernel
theorem dX5_digitHere_1 : decode cX5_digitHere 1 = .ok (.aload_n 0, 1) := by decide +kernel
theorem dX5_digitHere_2 : decode cX5_digitHere 2 = .ok (.getfield 19, 3) := by decide +kernel
theorem dX5_digitHere_5 : decode cX5_digitHere 5 = .ok (.invokevirtual 33, 3) := by decide +kernel
theorem dX5_digitHere_8 : decode cX5_digitHere 8 = .ok (.istore_n 1, 1) := by decide +kernel
theorem dX5_digitHere_9 : decode cX5_digitHere 9 = .ok (.iload_n 1, 1) := by decide +kernel
theorem dX5_digitHere_10 : decode cX5_digitHere 10 = .ok (.bipush 48, 2) := by decide +kernel
theorem dX5_digitHere_12 : decode cX5_digitHere 12 = .ok (.if_icmp .lt 16, 3) := by decide +kernel
theorem dX5_digitHere_15 : decode cX5_digitHere 15 = .ok (.iload_n 1, 1) := by decide +kernel
theorem dX5_digitHere_16 : decode cX5_digitHere 16 = .ok (.bipush 57, 2) := by decide +kernel
theorem dX5_digitHere_18 : decode cX5_digitHere 18 = .ok (.if_icmp .gt 10, 3) := by decide +kernel
theorem dX5_digitHere_21 : decode cX5_digitHere 21 = .ok (.iload_n 1, 1) := by decide +kernel
theorem dX5_digitHere_22 : decode cX5_digitHere 22 = .ok (.bipush 48, 2) := by decide +kernel
theorem dX5_digitHere_24 : decode cX5_digitHere 24 = .ok (.isub, 1) := by decide +kernel
theorem dX5_digitHere_25 : decode cX5_digitHere 25 = .ok (.goto 4, 3) := by decide +kernel
theorem dX5_digitHere_28 : decode cX5_digitHere 28 = .ok (.iconst (-1), 1) := by decide +kernel
theorem dX5_digitHere_29 : decode cX5_digitHere 29 = .ok (.ireturn, 1) := by decide +kernel
theorem dJxe99ae_isNaN_b9ae7_0 : decode cJxe99ae_isNaN_b9ae7 0 = .ok (.dload_n 0, 1) := by decide +kernel
theorem dJxe99ae_isNaN_b9ae7_1 : decode cJxe99ae_isNaN_b9ae7 1 = .ok (.dload_n 0, 1) := by decide +kernel
theorem dJxe99ae_isNaN_b9ae7_2 : decode cJxe99ae_isNaN_b9ae7 2 = .ok (.dcmp .l, 1) := by decide +kernel
theorem dJxe99ae_isNaN_b9ae7_3 : decode cJxe99ae_isNaN_b9ae7 3 = .ok (.ifCond .eq 7, 3) := by decide +kernel
theorem dJxe99ae_isNaN_b9ae7_6 : decode cJxe99ae_isNaN_b9ae7 6 = .ok (.iconst 1, 1) := by decide +kernel
theorem dJxe99ae_isNaN_b9ae7_7 : decode cJxe99ae_isNaN_b9ae7 7 = .ok (.goto 4, 3) := by decide +kernel
theorem dJxe99ae_isNaN_b9ae7_10 : decode cJxe99ae_isNaN_b9ae7 10 = .ok (.iconst 0, 1) := by decide +kernel
theorem dJxe99ae_isNaN_b9ae7_11 : decode cJxe99ae_isNaN_b9ae7 11 = .ok (.ireturn, 1) := by decide +kernel
theorem dJxe99ae_doubleToLongBits_ccdee_0 : decode cJxe99ae_doubleToLongBits_ccdee 0 = .ok (.dload_n 0, 1) := by decide +kernel
theorem dJxe99ae_doubleToLongBits_ccdee_1 : decode cJxe99ae_doubleToLongBits_ccdee 1 = .ok (.invokestatic 122, 3) := by decide +kernel
theorem dJxe99ae_doubleToLongBits_ccdee_4 : decode cJxe99ae_doubleToLongBits_ccdee 4 = .ok (.ifCond .ne 8, 3) := by decide +kernel
theorem dJxe99ae_doubleToLongBits_ccdee_7 : decode cJxe99ae_doubleToLongBits_ccdee 7 = .ok (.dload_n 0, 1) := by decide +kernel
theorem dJxe99ae_doubleToLongBits_ccdee_8 : decode cJxe99ae_doubleToLongBits_ccdee 8 = .ok (.invokestatic 134, 3) := by decide +kernel
theorem dJxe99ae_doubleToLongBits_ccdee_11 : decode cJxe99ae_doubleToLongBits_ccdee 11 = .ok (.lreturn, 1) := by decide +kernel
theorem dJxe99ae_doubleToLongBits_ccdee_12 : decode cJxe99ae_doubleToLongBits_ccdee 12 = .ok (.ldc2_w 137, 3) := by decide +kernel
theorem dJxe99ae_doubleToLongBits_ccdee_15 : decode cJxe99ae_doubleToLongBits_ccdee 15 = .ok (.lreturn, 1) := by decide +kernel
theorem dJ7_fill_53178_0 : decode cJ7_fill_53178 0 = .ok (.iconst 0, 1) := by decide +kernel
theorem dJ7_fill_53178_1 : decode cJ7_fill_53178 1 = .ok (.istore_n 2, 1) := by decide +kernel
theorem dJ7_fill_53178_2 : decode cJ7_fill_53178 2 = .ok (.aload_n 0, 1) := by decide +kernel
theorem dJ7_fill_53178_3 : decode cJ7_fill_53178 3 = .ok (.arraylength, 1) := by decide +kernel
theorem dJ7_fill_53178_4 : decode cJ7_fill_53178 4 = .ok (.istore_n 3, 1) := by decide +kernel
theorem dJ7_fill_53178_5 : decode cJ7_fill_53178 5 = .ok (.iload_n 2, 1) := by decide +kernel
theorem dJ7_fill_53178_6 : decode cJ7_fill_53178 6 = .ok (.iload_n 3, 1) := by decide +kernel
theorem dJ7_fill_53178_7 : decode cJ7_fill_53178 7 = .ok (.if_icmp .ge 13, 3) := by decide +kernel
theorem dJ7_fill_53178_10 : decode cJ7_fill_53178 10 = .ok (.aload_n 0, 1) := by decide +kernel
theorem dJ7_fill_53178_11 : decode cJ7_fill_53178 11 = .ok (.iload_n 2, 1) := by decide +kernel
theorem dJ7_fill_53178_12 : decode cJ7_fill_53178 12 = .ok (.iload_n 1, 1) := by decide +kernel
theorem dJ7_fill_53178_13 : decode cJ7_fill_53178 13 = .ok (.iastore, 1) := by decide +kernel
theorem dJ7_fill_53178_14 : decode cJ7_fill_53178 14 = .ok (.iinc 2 1, 3) := by decide +kernel
theorem dJ7_fill_53178_17 : decode cJ7_fill_53178 17 = .ok (.goto (-12), 3) := by decide +kernel
theorem dJ7_fill_53178_20 : decode cJ7_fill_53178 20 = .ok (.return_, 1) := by decide +kernel
end
section
theorem dX6_init_0 : decode cX6_init 0 = .ok (.aload_n 0, 1) := by decide +kernel
theorem dX6_init_1 : decode cX6_init 1 = .ok (.invokespecial 3, 3) := by decide +kernel
theorem dX6_init_4 : decode cX6_init 4 = .ok (.aload_n 0, 1) := by decide +kernel
theorem dX6_init_5 : decode cX6_init 5 = .ok (.new 9, 3) := by decide +kernel
theorem dX6_init_8 : decode cX6_init 8 = .ok (.dup, 1) := by decide +kernel
theorem dX6_init_9 : decode cX6_init 9 = .ok (.invokespecial 11, 3) := by decide +kernel
theorem dX6_init_12 : decode cX6_init 12 = .ok (.putfield 12, 3) := by decide +kernel
theorem dX6_init_15 : decode cX6_init 15 = .ok (.aload_n 0, 1) := by decide +kernel
theorem dX6_init_16 : decode cX6_init 16 = .ok (.new 16, 3) := by decide +kernel
theorem dX6_init_19 : decode cX6_init 19 = .ok (.dup, 1) := by decide +kernel
theorem dX6_init_20 : decode cX6_init 20 = .ok (.invokespecial 18, 3) := by decide +kernel
theorem dX6_init_23 : decode cX6_init 23 = .ok (.putfield 19, 3) := by decide +kernel
theorem dX6_init_26 : decode cX6_init 26 = .ok (.aload_n 0, 1) := by decide +kernel
theorem dX6_init_27 : decode cX6_init 27 = .ok (.new 23, 3) := by decide +kernel
theorem dX6_init_30 : decode cX6_init 30 = .ok (.dup, 1) := by decide +kernel
theorem dX6_init_31 : decode cX6_init 31 = .ok (.invokespecial 25, 3) := by decide +kernel
theorem dX6_init_34 : decode cX6_init 34 = .ok (.putfield 26, 3) := by decide +kernel
theorem dX6_init_37 : decode cX6_init 37 = .ok (.return_, 1) := by decide +kernel
theorem dX6_put_0 : decode cX6_put 0 = .ok (.iload_n 1, 1) := by decide +kernel
theorem dX6_put_1 : decode cX6_put 1 = .ok (.bipush 10, 2) := by decide +kernel
theorem dX6_put_3 : decode cX6_put 3 = .ok (.invokestatic 30, 3) := by decide +kernel
theorem dX6_put_6 : decode cX6_put 6 = .ok (.ifCond .eq 13, 3) := by decide +kernel
theorem dX6_put_9 : decode cX6_put 9 = .ok (.new 34, 3) := by decide +kernel
theorem dX6_put_12 : decode cX6_put 12 = .ok (.dup, 1) := by decide +kernel
theorem dX6_put_13 : decode cX6_put 13 = .ok (.ldc 36, 2) := by decide +kernel
theorem dX6_put_15 : decode cX6_put 15 = .ok (.invokespecial 38, 3) := by decide +kernel
theorem dX6_put_18 : decode cX6_put 18 = .ok (.athrow, 1) := by decide +kernel
theorem dX6_put_19 : decode cX6_put 19 = .ok (.aload_n 0, 1) := by decide +kernel
theorem dX6_put_20 : decode cX6_put 20 = .ok (.getfield 12, 3) := by decide +kernel
theorem dX6_put_23 : decode cX6_put 23 = .ok (.getfield 41, 3) := by decide +kernel
theorem dX6_put_26 : decode cX6_put 26 = .ok (.invokevirtual 45, 3) := by decide +kernel
theorem dX6_put_29 : decode cX6_put 29 = .ok (.ifCond .ne 13, 3) := by decide +kernel
theorem dX6_put_32 : decode cX6_put 32 = .ok (.new 51, 3) := by decide +kernel
theorem dX6_put_35 : decode cX6_put 35 = .ok (.dup, 1) := by decide +kernel
theorem dX6_put_36 : decode cX6_put 36 = .ok (.ldc 53, 2) := by decide +kernel
theorem dX6_put_38 : decode cX6_put 38 = .ok (.invokespecial 55, 3) := by decide +kernel
theorem dX6_put_41 : decode cX6_put 41 = .ok (.athrow, 1) := by decide +kernel
theorem dX6_put_42 : decode cX6_put 42 = .ok (.aload_n 0, 1) := by decide +kernel
theorem dX6_put_43 : decode cX6_put 43 = .ok (.getfield 19, 3) := by decide +kernel
theorem dX6_put_46 : decode cX6_put 46 = .ok (.aload_n 0, 1) := by decide +kernel
theorem dX6_put_47 : decode cX6_put 47 = .ok (.getfield 12, 3) := by decide +kernel
theorem dX6_put_50 : decode cX6_put 50 = .ok (.invokevirtual 56, 3) := by decide +kernel
theorem dX6_put_53 : decode cX6_put 53 = .ok (.aload_n 0, 1) := by decide +kernel
theorem dX6_put_54 : decode cX6_put 54 = .ok (.getfield 12, 3) := by decide +kernel
theorem dX6_put_57 : decode cX6_put 57 = .ok (.getfield 41, 3) := by decide +kernel
theorem dX6_put_60 : decode cX6_put 60 = .ok (.iload_n 1, 1) := by decide +kernel
theorem dX6_put_61 : decode cX6_put 61 = .ok (.invokevirtual 60, 3) := by decide +kernel
theorem dX6_put_64 : decode cX6_put 64 = .ok (.ireturn, 1) := by decide +kernel
theorem dX6_take_0 : decode cX6_take 0 = .ok (.iload_n 1, 1) := by decide +kernel
theorem dX6_take_1 : decode cX6_take 1 = .ok (.bipush 24, 2) := by decide +kernel
theorem dX6_take_3 : decode cX6_take 3 = .ok (.invokestatic 30, 3) := by decide +kernel
theorem dX6_take_6 : decode cX6_take 6 = .ok (.ifCond .eq 13, 3) := by decide +kernel
theorem dX6_take_9 : decode cX6_take 9 = .ok (.new 64, 3) := by decide +kernel
theorem dX6_take_12 : decode cX6_take 12 = .ok (.dup, 1) := by decide +kernel
theorem dX6_take_13 : decode cX6_take 13 = .ok (.ldc 66, 2) := by decide +kernel
theorem dX6_take_15 : decode cX6_take 15 = .ok (.invokespecial 68, 3) := by decide +kernel
theorem dX6_take_18 : decode cX6_take 18 = .ok (.athrow, 1) := by decide +kernel
theorem dX6_take_19 : decode cX6_take 19 = .ok (.aload_n 0, 1) := by decide +kernel
theorem dX6_take_20 : decode cX6_take 20 = .ok (.getfield 12, 3) := by decide +kernel
theorem dX6_take_23 : decode cX6_take 23 = .ok (.getfield 41, 3) := by decide +kernel
theorem dX6_take_26 : decode cX6_take 26 = .ok (.iload_n 1, 1) := by decide +kernel
theorem dX6_take_27 : decode cX6_take 27 = .ok (.invokevirtual 69, 3) := by decide +kernel
theorem dX6_take_30 : decode cX6_take 30 = .ok (.ifCond .ne 13, 3) := by decide +kernel
theorem dX6_take_33 : decode cX6_take 33 = .ok (.new 51, 3) := by decide +kernel
theorem dX6_take_36 : decode cX6_take 36 = .ok (.dup, 1) := by decide +kernel
theorem dX6_take_37 : decode cX6_take 37 = .ok (.ldc 73, 2) := by decide +kernel
theorem dX6_take_39 : decode cX6_take 39 = .ok (.invokespecial 55, 3) := by decide +kernel
theorem dX6_take_42 : decode cX6_take 42 = .ok (.athrow, 1) := by decide +kernel
theorem dX6_take_43 : decode cX6_take 43 = .ok (.aload_n 0, 1) := by decide +kernel
theorem dX6_take_44 : decode cX6_take 44 = .ok (.getfield 19, 3) := by decide +kernel
theorem dX6_take_47 : decode cX6_take 47 = .ok (.aload_n 0, 1) := by decide +kernel
theorem dX6_take_48 : decode cX6_take 48 = .ok (.getfield 12, 3) := by decide +kernel
theorem dX6_take_51 : decode cX6_take 51 = .ok (.invokevirtual 56, 3) := by decide +kernel
theorem dX6_take_54 : decode cX6_take 54 = .ok (.aload_n 0, 1) := by decide +kernel
theorem dX6_take_55 : decode cX6_take 55 = .ok (.getfield 12, 3) := by decide +kernel
theorem dX6_take_58 : decode cX6_take 58 = .ok (.getfield 41, 3) := by decide +kernel
theorem dX6_take_61 : decode cX6_take 61 = .ok (.iload_n 1, 1) := by decide +kernel
theorem dX6_take_62 : decode cX6_take 62 = .ok (.invokevirtual 75, 3) := by decide +kernel
theorem dX6_take_65 : decode cX6_take 65 = .ok (.pop, 1) := by decide +kernel
theorem dX6_take_66 : decode cX6_take 66 = .ok (.aload_n 0, 1) := by decide +kernel
theorem dX6_take_67 : decode cX6_take 67 = .ok (.getfield 12, 3) := by decide +kernel
theorem dX6_take_70 : decode cX6_take 70 = .ok (.getfield 41, 3) := by decide +kernel
theorem dX6_take_73 : decode cX6_take 73 = .ok (.getfield 78, 3) := by decide +kernel
theorem dX6_take_76 : decode cX6_take 76 = .ok (.iload_n 1, 1) := by decide +kernel
theorem dX6_take_77 : decode cX6_take 77 = .ok (.iaload, 1) := by decide +kernel
theorem dX6_take_78 : decode cX6_take 78 = .ok (.ireturn, 1) := by decide +kernel
theorem dX6_change_0 : decode cX6_change 0 = .ok (.iload_n 1, 1) := by decide +kernel
theorem dX6_change_1 : decode cX6_change 1 = .ok (.bipush 24, 2) := by decide +kernel
theorem dX6_change_3 : decode cX6_change 3 = .ok (.invokestatic 30, 3) := by decide +kernel
theorem dX6_change_6 : decode cX6_change 6 = .ok (.ifCond .eq 13, 3) := by decide +kernel
theorem dX6_change_9 : decode cX6_change 9 = .ok (.new 64, 3) := by decide +kernel
theorem dX6_change_12 : decode cX6_change 12 = .ok (.dup, 1) := by decide +kernel
theorem dX6_change_13 : decode cX6_change 13 = .ok (.ldc 66, 2) := by decide +kernel
theorem dX6_change_15 : decode cX6_change 15 = .ok (.invokespecial 68, 3) := by decide +kernel
theorem dX6_change_18 : decode cX6_change 18 = .ok (.athrow, 1) := by decide +kernel
theorem dX6_change_19 : decode cX6_change 19 = .ok (.iload_n 2, 1) := by decide +kernel
theorem dX6_change_20 : decode cX6_change 20 = .ok (.bipush 10, 2) := by decide +kernel
theorem dX6_change_22 : decode cX6_change 22 = .ok (.invokestatic 30, 3) := by decide +kernel
theorem dX6_change_25 : decode cX6_change 25 = .ok (.ifCond .eq 13, 3) := by decide +kernel
theorem dX6_change_28 : decode cX6_change 28 = .ok (.new 34, 3) := by decide +kernel
theorem dX6_change_31 : decode cX6_change 31 = .ok (.dup, 1) := by decide +kernel
theorem dX6_change_32 : decode cX6_change 32 = .ok (.ldc 36, 2) := by decide +kernel
theorem dX6_change_34 : decode cX6_change 34 = .ok (.invokespecial 38, 3) := by decide +kernel
theorem dX6_change_37 : decode cX6_change 37 = .ok (.athrow, 1) := by decide +kernel
theorem dX6_change_38 : decode cX6_change 38 = .ok (.aload_n 0, 1) := by decide +kernel
theorem dX6_change_39 : decode cX6_change 39 = .ok (.getfield 12, 3) := by decide +kernel
theorem dX6_change_42 : decode cX6_change 42 = .ok (.getfield 41, 3) := by decide +kernel
theorem dX6_change_45 : decode cX6_change 45 = .ok (.iload_n 1, 1) := by decide +kernel
theorem dX6_change_46 : decode cX6_change 46 = .ok (.invokevirtual 69, 3) := by decide +kernel
theorem dX6_change_49 : decode cX6_change 49 = .ok (.ifCond .eq 16, 3) := by decide +kernel
theorem dX6_change_52 : decode cX6_change 52 = .ok (.aload_n 0, 1) := by decide +kernel
theorem dX6_change_53 : decode cX6_change 53 = .ok (.getfield 12, 3) := by decide +kernel
theorem dX6_change_56 : decode cX6_change 56 = .ok (.getfield 41, 3) := by decide +kernel
theorem dX6_change_59 : decode cX6_change 59 = .ok (.invokevirtual 45, 3) := by decide +kernel
theorem dX6_change_62 : decode cX6_change 62 = .ok (.ifCond .ne 13, 3) := by decide +kernel
theorem dX6_change_65 : decode cX6_change 65 = .ok (.new 51, 3) := by decide +kernel
theorem dX6_change_68 : decode cX6_change 68 = .ok (.dup, 1) := by decide +kernel
theorem dX6_change_69 : decode cX6_change 69 = .ok (.ldc 82, 2) := by decide +kernel
theorem dX6_change_71 : decode cX6_change 71 = .ok (.invokespecial 55, 3) := by decide +kernel
theorem dX6_change_74 : decode cX6_change 74 = .ok (.athrow, 1) := by decide +kernel
theorem dX6_change_75 : decode cX6_change 75 = .ok (.aload_n 0, 1) := by decide +kernel
theorem dX6_change_76 : decode cX6_change 76 = .ok (.getfield 19, 3) := by decide +kernel
theorem dX6_change_79 : decode cX6_change 79 = .ok (.aload_n 0, 1) := by decide +kernel
theorem dX6_change_80 : decode cX6_change 80 = .ok (.getfield 12, 3) := by decide +kernel
theorem dX6_change_83 : decode cX6_change 83 = .ok (.invokevirtual 56, 3) := by decide +kernel
theorem dX6_change_86 : decode cX6_change 86 = .ok (.aload_n 0, 1) := by decide +kernel
theorem dX6_change_87 : decode cX6_change 87 = .ok (.getfield 12, 3) := by decide +kernel
theorem dX6_change_90 : decode cX6_change 90 = .ok (.getfield 41, 3) := by decide +kernel
theorem dX6_change_93 : decode cX6_change 93 = .ok (.iload_n 1, 1) := by decide +kernel
theorem dX6_change_94 : decode cX6_change 94 = .ok (.iload_n 2, 1) := by decide +kernel
theorem dX6_change_95 : decode cX6_change 95 = .ok (.invokevirtual 84, 3) := by decide +kernel
theorem dX6_change_98 : decode cX6_change 98 = .ok (.ireturn, 1) := by decide +kernel
theorem dX6_open_0 : decode cX6_open 0 = .ok (.iload_n 1, 1) := by decide +kernel
theorem dX6_open_1 : decode cX6_open 1 = .ok (.iconst 4, 1) := by decide +kernel
theorem dX6_open_2 : decode cX6_open 2 = .ok (.invokestatic 30, 3) := by decide +kernel
theorem dX6_open_5 : decode cX6_open 5 = .ok (.ifCond .eq 13, 3) := by decide +kernel
theorem dX6_open_8 : decode cX6_open 8 = .ok (.new 64, 3) := by decide +kernel
theorem dX6_open_11 : decode cX6_open 11 = .ok (.dup, 1) := by decide +kernel
theorem dX6_open_12 : decode cX6_open 12 = .ok (.ldc 88, 2) := by decide +kernel
theorem dX6_open_14 : decode cX6_open 14 = .ok (.invokespecial 68, 3) := by decide +kernel
theorem dX6_open_17 : decode cX6_open 17 = .ok (.athrow, 1) := by decide +kernel
theorem dX6_open_18 : decode cX6_open 18 = .ok (.aload_n 0, 1) := by decide +kernel
theorem dX6_open_19 : decode cX6_open 19 = .ok (.getfield 19, 3) := by decide +kernel
theorem dX6_open_22 : decode cX6_open 22 = .ok (.aload_n 0, 1) := by decide +kernel
theorem dX6_open_23 : decode cX6_open 23 = .ok (.getfield 12, 3) := by decide +kernel
theorem dX6_open_26 : decode cX6_open 26 = .ok (.invokevirtual 56, 3) := by decide +kernel
theorem dX6_open_29 : decode cX6_open 29 = .ok (.aload_n 0, 1) := by decide +kernel
theorem dX6_open_30 : decode cX6_open 30 = .ok (.getfield 12, 3) := by decide +kernel
theorem dX6_open_33 : decode cX6_open 33 = .ok (.getfield 90, 3) := by decide +kernel
theorem dX6_open_36 : decode cX6_open 36 = .ok (.getfield 94, 3) := by decide +kernel
theorem dX6_open_39 : decode cX6_open 39 = .ok (.iload_n 1, 1) := by decide +kernel
theorem dX6_open_40 : decode cX6_open 40 = .ok (.aload_n 0, 1) := by decide +kernel
theorem dX6_open_41 : decode cX6_open 41 = .ok (.getfield 12, 3) := by decide +kernel
theorem dX6_open_44 : decode cX6_open 44 = .ok (.getfield 41, 3) := by decide +kernel
theorem dX6_open_47 : decode cX6_open 47 = .ok (.getfield 99, 3) := by decide +kernel
theorem dX6_open_50 : decode cX6_open 50 = .ok (.iastore, 1) := by decide +kernel
theorem dX6_open_51 : decode cX6_open 51 = .ok (.aload_n 0, 1) := by decide +kernel
theorem dX6_open_52 : decode cX6_open 52 = .ok (.getfield 12, 3) := by decide +kernel
theorem dX6_open_55 : decode cX6_open 55 = .ok (.getfield 41, 3) := by decide +kernel
theorem dX6_open_58 : decode cX6_open 58 = .ok (.getfield 99, 3) := by decide +kernel
theorem dX6_open_61 : decode cX6_open 61 = .ok (.ireturn, 1) := by decide +kernel
theorem dX6_close_0 : decode cX6_close 0 = .ok (.iload_n 1, 1) := by decide +kernel
theorem dX6_close_1 : decode cX6_close 1 = .ok (.iconst 4, 1) := by decide +kernel
theorem dX6_close_2 : decode cX6_close 2 = .ok (.invokestatic 30, 3) := by decide +kernel
theorem dX6_close_5 : decode cX6_close 5 = .ok (.ifCond .eq 13, 3) := by decide +kernel
theorem dX6_close_8 : decode cX6_close 8 = .ok (.new 64, 3) := by decide +kernel
theorem dX6_close_11 : decode cX6_close 11 = .ok (.dup, 1) := by decide +kernel
theorem dX6_close_12 : decode cX6_close 12 = .ok (.ldc 88, 2) := by decide +kernel
theorem dX6_close_14 : decode cX6_close 14 = .ok (.invokespecial 68, 3) := by decide +kernel
theorem dX6_close_17 : decode cX6_close 17 = .ok (.athrow, 1) := by decide +kernel
theorem dX6_close_18 : decode cX6_close 18 = .ok (.aload_n 0, 1) := by decide +kernel
theorem dX6_close_19 : decode cX6_close 19 = .ok (.getfield 12, 3) := by decide +kernel
theorem dX6_close_22 : decode cX6_close 22 = .ok (.getfield 90, 3) := by decide +kernel
theorem dX6_close_25 : decode cX6_close 25 = .ok (.getfield 94, 3) := by decide +kernel
theorem dX6_close_28 : decode cX6_close 28 = .ok (.iload_n 1, 1) := by decide +kernel
theorem dX6_close_29 : decode cX6_close 29 = .ok (.iaload, 1) := by decide +kernel
theorem dX6_close_30 : decode cX6_close 30 = .ok (.istore_n 2, 1) := by decide +kernel
theorem dX6_close_31 : decode cX6_close 31 = .ok (.iload_n 2, 1) := by decide +kernel
theorem dX6_close_32 : decode cX6_close 32 = .ok (.iconst (-1), 1) := by decide +kernel
theorem dX6_close_33 : decode cX6_close 33 = .ok (.if_icmp .ne 13, 3) := by decide +kernel
theorem dX6_close_36 : decode cX6_close 36 = .ok (.new 51, 3) := by decide +kernel
theorem dX6_close_39 : decode cX6_close 39 = .ok (.dup, 1) := by decide +kernel
theorem dX6_close_40 : decode cX6_close 40 = .ok (.ldc 103, 2) := by decide +kernel
theorem dX6_close_42 : decode cX6_close 42 = .ok (.invokespecial 55, 3) := by decide +kernel
theorem dX6_close_45 : decode cX6_close 45 = .ok (.athrow, 1) := by decide +kernel
theorem dX6_close_46 : decode cX6_close 46 = .ok (.aload_n 0, 1) := by decide +kernel
theorem dX6_close_47 : decode cX6_close 47 = .ok (.getfield 19, 3) := by decide +kernel
theorem dX6_close_50 : decode cX6_close 50 = .ok (.aload_n 0, 1) := by decide +kernel
theorem dX6_close_51 : decode cX6_close 51 = .ok (.getfield 12, 3) := by decide +kernel
theorem dX6_close_54 : decode cX6_close 54 = .ok (.invokevirtual 56, 3) := by decide +kernel
theorem dX6_close_57 : decode cX6_close 57 = .ok (.aload_n 0, 1) := by decide +kernel
theorem dX6_close_58 : decode cX6_close 58 = .ok (.getfield 12, 3) := by decide +kernel
theorem dX6_close_61 : decode cX6_close 61 = .ok (.getfield 90, 3) := by decide +kernel
theorem dX6_close_64 : decode cX6_close 64 = .ok (.getfield 94, 3) := by decide +kernel
theorem dX6_close_67 : decode cX6_close 67 = .ok (.iload_n 1, 1) := by decide +kernel
theorem dX6_close_68 : decode cX6_close 68 = .ok (.iconst (-1), 1) := by decide +kernel
theorem dX6_close_69 : decode cX6_close 69 = .ok (.iastore, 1) := by decide +kernel
theorem dX6_close_70 : decode cX6_close 70 = .ok (.iload_n 2, 1) := by decide +kernel
theorem dX6_close_71 : decode cX6_close 71 = .ok (.ireturn, 1) := by decide +kernel
theorem dX6_sweep_0 : decode cX6_sweep 0 = .ok (.iload_n 1, 1) := by decide +kernel
theorem dX6_sweep_1 : decode cX6_sweep 1 = .ok (.bipush 6, 2) := by decide +kernel
theorem dX6_sweep_3 : decode cX6_sweep 3 = .ok (.invokestatic 30, 3) := by decide +kernel
theorem dX6_sweep_6 : decode cX6_sweep 6 = .ok (.ifCond .eq 13, 3) := by decide +kernel
theorem dX6_sweep_9 : decode cX6_sweep 9 = .ok (.new 64, 3) := by decide +kernel
theorem dX6_sweep_12 : decode cX6_sweep 12 = .ok (.dup, 1) := by decide +kernel
theorem dX6_sweep_13 : decode cX6_sweep 13 = .ok (.ldc 105, 2) := by decide +kernel
theorem dX6_sweep_15 : decode cX6_sweep 15 = .ok (.invokespecial 68, 3) := by decide +kernel
theorem dX6_sweep_18 : decode cX6_sweep 18 = .ok (.athrow, 1) := by decide +kernel
theorem dX6_sweep_19 : decode cX6_sweep 19 = .ok (.aload_n 0, 1) := by decide +kernel
theorem dX6_sweep_20 : decode cX6_sweep 20 = .ok (.getfield 19, 3) := by decide +kernel
theorem dX6_sweep_23 : decode cX6_sweep 23 = .ok (.aload_n 0, 1) := by decide +kernel
theorem dX6_sweep_24 : decode cX6_sweep 24 = .ok (.getfield 12, 3) := by decide +kernel
theorem dX6_sweep_27 : decode cX6_sweep 27 = .ok (.invokevirtual 56, 3) := by decide +kernel
theorem dX6_sweep_30 : decode cX6_sweep 30 = .ok (.aload_n 0, 1) := by decide +kernel
theorem dX6_sweep_31 : decode cX6_sweep 31 = .ok (.getfield 12, 3) := by decide +kernel
theorem dX6_sweep_34 : decode cX6_sweep 34 = .ok (.getfield 41, 3) := by decide +kernel
theorem dX6_sweep_37 : decode cX6_sweep 37 = .ok (.iload_n 1, 1) := by decide +kernel
theorem dX6_sweep_38 : decode cX6_sweep 38 = .ok (.aload_n 0, 1) := by decide +kernel
theorem dX6_sweep_39 : decode cX6_sweep 39 = .ok (.getfield 12, 3) := by decide +kernel
theorem dX6_sweep_42 : decode cX6_sweep 42 = .ok (.invokevirtual 107, 3) := by decide +kernel
theorem dX6_sweep_45 : decode cX6_sweep 45 = .ok (.invokevirtual 111, 3) := by decide +kernel
theorem dX6_sweep_48 : decode cX6_sweep 48 = .ok (.ireturn, 1) := by decide +kernel
theorem dX6_sweepAll_0 : decode cX6_sweepAll 0 = .ok (.aload_n 0, 1) := by decide +kernel
theorem dX6_sweepAll_1 : decode cX6_sweepAll 1 = .ok (.getfield 19, 3) := by decide +kernel
theorem dX6_sweepAll_4 : decode cX6_sweepAll 4 = .ok (.aload_n 0, 1) := by decide +kernel
theorem dX6_sweepAll_5 : decode cX6_sweepAll 5 = .ok (.getfield 12, 3) := by decide +kernel
theorem dX6_sweepAll_8 : decode cX6_sweepAll 8 = .ok (.invokevirtual 56, 3) := by decide +kernel
theorem dX6_sweepAll_11 : decode cX6_sweepAll 11 = .ok (.aload_n 0, 1) := by decide +kernel
theorem dX6_sweepAll_12 : decode cX6_sweepAll 12 = .ok (.getfield 12, 3) := by decide +kernel
theorem dX6_sweepAll_15 : decode cX6_sweepAll 15 = .ok (.invokevirtual 107, 3) := by decide +kernel
theorem dX6_sweepAll_18 : decode cX6_sweepAll 18 = .ok (.istore_n 1, 1) := by decide +kernel
theorem dX6_sweepAll_19 : decode cX6_sweepAll 19 = .ok (.iconst 0, 1) := by decide +kernel
theorem dX6_sweepAll_20 : decode cX6_sweepAll 20 = .ok (.istore_n 2, 1) := by decide +kernel
theorem dX6_sweepAll_21 : decode cX6_sweepAll 21 = .ok (.iload_n 2, 1) := by decide +kernel
theorem dX6_sweepAll_22 : decode cX6_sweepAll 22 = .ok (.bipush 6, 2) := by decide +kernel
theorem dX6_sweepAll_24 : decode cX6_sweepAll 24 = .ok (.if_icmp .ge 22, 3) := by decide +kernel
theorem dX6_sweepAll_27 : decode cX6_sweepAll 27 = .ok (.aload_n 0, 1) := by decide +kernel
theorem dX6_sweepAll_28 : decode cX6_sweepAll 28 = .ok (.getfield 12, 3) := by decide +kernel
theorem dX6_sweepAll_31 : decode cX6_sweepAll 31 = .ok (.getfield 41, 3) := by decide +kernel
theorem dX6_sweepAll_34 : decode cX6_sweepAll 34 = .ok (.iload_n 2, 1) := by decide +kernel
theorem dX6_sweepAll_35 : decode cX6_sweepAll 35 = .ok (.iload_n 1, 1) := by decide +kernel
theorem dX6_sweepAll_36 : decode cX6_sweepAll 36 = .ok (.invokevirtual 111, 3) := by decide +kernel
theorem dX6_sweepAll_39 : decode cX6_sweepAll 39 = .ok (.pop, 1) := by decide +kernel
theorem dX6_sweepAll_40 : decode cX6_sweepAll 40 = .ok (.iinc 2 1, 3) := by decide +kernel
theorem dX6_sweepAll_43 : decode cX6_sweepAll 43 = .ok (.goto (-22), 3) := by decide +kernel
theorem dX6_sweepAll_46 : decode cX6_sweepAll 46 = .ok (.aload_n 0, 1) := by decide +kernel
theorem dX6_sweepAll_47 : decode cX6_sweepAll 47 = .ok (.getfield 12, 3) := by decide +kernel
theorem dX6_sweepAll_50 : decode cX6_sweepAll 50 = .ok (.getfield 41, 3) := by decide +kernel
theorem dX6_sweepAll_53 : decode cX6_sweepAll 53 = .ok (.invokevirtual 114, 3) := by decide +kernel
theorem dX6_sweepAll_56 : decode cX6_sweepAll 56 = .ok (.ireturn, 1) := by decide +kernel
theorem dX6_ask_0 : decode cX6_ask 0 = .ok (.iload_n 1, 1) := by decide +kernel
theorem dX6_ask_1 : decode cX6_ask 1 = .ok (.iconst 4, 1) := by decide +kernel
theorem dX6_ask_2 : decode cX6_ask 2 = .ok (.invokestatic 30, 3) := by decide +kernel
theorem dX6_ask_5 : decode cX6_ask 5 = .ok (.ifCond .eq 13, 3) := by decide +kernel
theorem dX6_ask_8 : decode cX6_ask 8 = .ok (.new 64, 3) := by decide +kernel
theorem dX6_ask_11 : decode cX6_ask 11 = .ok (.dup, 1) := by decide +kernel
theorem dX6_ask_12 : decode cX6_ask 12 = .ok (.ldc 88, 2) := by decide +kernel
theorem dX6_ask_14 : decode cX6_ask 14 = .ok (.invokespecial 68, 3) := by decide +kernel
theorem dX6_ask_17 : decode cX6_ask 17 = .ok (.athrow, 1) := by decide +kernel
theorem dX6_ask_18 : decode cX6_ask 18 = .ok (.iload_n 2, 1) := by decide +kernel
theorem dX6_ask_19 : decode cX6_ask 19 = .ok (.bipush 10, 2) := by decide +kernel
theorem dX6_ask_21 : decode cX6_ask 21 = .ok (.invokestatic 30, 3) := by decide +kernel
theorem dX6_ask_24 : decode cX6_ask 24 = .ok (.ifCond .ne 11, 3) := by decide +kernel
theorem dX6_ask_27 : decode cX6_ask 27 = .ok (.iload_n 3, 1) := by decide +kernel
theorem dX6_ask_28 : decode cX6_ask 28 = .ok (.iconst 3, 1) := by decide +kernel
theorem dX6_ask_29 : decode cX6_ask 29 = .ok (.invokestatic 30, 3) := by decide +kernel
theorem dX6_ask_32 : decode cX6_ask 32 = .ok (.ifCond .eq 13, 3) := by decide +kernel
theorem dX6_ask_35 : decode cX6_ask 35 = .ok (.new 34, 3) := by decide +kernel
theorem dX6_ask_38 : decode cX6_ask 38 = .ok (.dup, 1) := by decide +kernel
theorem dX6_ask_39 : decode cX6_ask 39 = .ok (.ldc 117, 2) := by decide +kernel
theorem dX6_ask_41 : decode cX6_ask 41 = .ok (.invokespecial 38, 3) := by decide +kernel
theorem dX6_ask_44 : decode cX6_ask 44 = .ok (.athrow, 1) := by decide +kernel
theorem dX6_ask_45 : decode cX6_ask 45 = .ok (.aload_n 0, 1) := by decide +kernel
theorem dX6_ask_46 : decode cX6_ask 46 = .ok (.getfield 12, 3) := by decide +kernel
theorem dX6_ask_49 : decode cX6_ask 49 = .ok (.getfield 90, 3) := by decide +kernel
theorem dX6_ask_52 : decode cX6_ask 52 = .ok (.getfield 94, 3) := by decide +kernel
theorem dX6_ask_55 : decode cX6_ask 55 = .ok (.iload_n 1, 1) := by decide +kernel
theorem dX6_ask_56 : decode cX6_ask 56 = .ok (.iaload, 1) := by decide +kernel
theorem dX6_ask_57 : decode cX6_ask 57 = .ok (.istore 4, 2) := by decide +kernel
theorem dX6_ask_59 : decode cX6_ask 59 = .ok (.iload 4, 2) := by decide +kernel
theorem dX6_ask_61 : decode cX6_ask 61 = .ok (.iconst (-1), 1) := by decide +kernel
theorem dX6_ask_62 : decode cX6_ask 62 = .ok (.if_icmp .ne 13, 3) := by decide +kernel
theorem dX6_ask_65 : decode cX6_ask 65 = .ok (.new 51, 3) := by decide +kernel
theorem dX6_ask_68 : decode cX6_ask 68 = .ok (.dup, 1) := by decide +kernel
theorem dX6_ask_69 : decode cX6_ask 69 = .ok (.ldc 103, 2) := by decide +kernel
theorem dX6_ask_71 : decode cX6_ask 71 = .ok (.invokespecial 55, 3) := by decide +kernel
theorem dX6_ask_74 : decode cX6_ask 74 = .ok (.athrow, 1) := by decide +kernel
theorem dX6_ask_75 : decode cX6_ask 75 = .ok (.aload_n 0, 1) := by decide +kernel
theorem dX6_ask_76 : decode cX6_ask 76 = .ok (.getfield 19, 3) := by decide +kernel
theorem dX6_ask_79 : decode cX6_ask 79 = .ok (.aload_n 0, 1) := by decide +kernel
theorem dX6_ask_80 : decode cX6_ask 80 = .ok (.getfield 12, 3) := by decide +kernel
theorem dX6_ask_83 : decode cX6_ask 83 = .ok (.invokevirtual 56, 3) := by decide +kernel
theorem dX6_ask_86 : decode cX6_ask 86 = .ok (.aload_n 0, 1) := by decide +kernel
theorem dX6_ask_87 : decode cX6_ask 87 = .ok (.getfield 12, 3) := by decide +kernel
theorem dX6_ask_90 : decode cX6_ask 90 = .ok (.getfield 90, 3) := by decide +kernel
theorem dX6_ask_93 : decode cX6_ask 93 = .ok (.getfield 119, 3) := by decide +kernel
theorem dX6_ask_96 : decode cX6_ask 96 = .ok (.iload_n 1, 1) := by decide +kernel
theorem dX6_ask_97 : decode cX6_ask 97 = .ok (.dup2, 1) := by decide +kernel
theorem dX6_ask_98 : decode cX6_ask 98 = .ok (.iaload, 1) := by decide +kernel
theorem dX6_ask_99 : decode cX6_ask 99 = .ok (.iconst 1, 1) := by decide +kernel
theorem dX6_ask_100 : decode cX6_ask 100 = .ok (.iadd, 1) := by decide +kernel
theorem dX6_ask_101 : decode cX6_ask 101 = .ok (.iastore, 1) := by decide +kernel
theorem dX6_ask_102 : decode cX6_ask 102 = .ok (.aload_n 0, 1) := by decide +kernel
theorem dX6_ask_103 : decode cX6_ask 103 = .ok (.getfield 12, 3) := by decide +kernel
theorem dX6_ask_106 : decode cX6_ask 106 = .ok (.getfield 122, 3) := by decide +kernel
theorem dX6_ask_109 : decode cX6_ask 109 = .ok (.iload_n 3, 1) := by decide +kernel
theorem dX6_ask_110 : decode cX6_ask 110 = .ok (.aload_n 0, 1) := by decide +kernel
theorem dX6_ask_111 : decode cX6_ask 111 = .ok (.getfield 12, 3) := by decide +kernel
theorem dX6_ask_114 : decode cX6_ask 114 = .ok (.getfield 41, 3) := by decide +kernel
theorem dX6_ask_117 : decode cX6_ask 117 = .ok (.iload 4, 2) := by decide +kernel
theorem dX6_ask_119 : decode cX6_ask 119 = .ok (.iload_n 2, 1) := by decide +kernel
theorem dX6_ask_120 : decode cX6_ask 120 = .ok (.iload_n 3, 1) := by decide +kernel
theorem dX6_ask_121 : decode cX6_ask 121 = .ok (.invokevirtual 126, 3) := by decide +kernel
theorem dX6_ask_124 : decode cX6_ask 124 = .ok (.aload_n 0, 1) := by decide +kernel
theorem dX6_ask_125 : decode cX6_ask 125 = .ok (.getfield 12, 3) := by decide +kernel
theorem dX6_ask_128 : decode cX6_ask 128 = .ok (.getfield 41, 3) := by decide +kernel
theorem dX6_ask_131 : decode cX6_ask 131 = .ok (.iload 4, 2) := by decide +kernel
theorem dX6_ask_133 : decode cX6_ask 133 = .ok (.invokevirtual 130, 3) := by decide +kernel
theorem dX6_ask_136 : decode cX6_ask 136 = .ok (.ifCond .ne 7, 3) := by decide +kernel
theorem dX6_ask_139 : decode cX6_ask 139 = .ok (.iconst 1, 1) := by decide +kernel
theorem dX6_ask_140 : decode cX6_ask 140 = .ok (.goto 4, 3) := by decide +kernel
theorem dX6_ask_143 : decode cX6_ask 143 = .ok (.iconst 0, 1) := by decide +kernel
theorem dX6_ask_144 : decode cX6_ask 144 = .ok (.invokevirtual 133, 3) := by decide +kernel
theorem dX6_ask_147 : decode cX6_ask 147 = .ok (.aload_n 0, 1) := by decide +kernel
theorem dX6_ask_148 : decode cX6_ask 148 = .ok (.getfield 12, 3) := by decide +kernel
theorem dX6_ask_151 : decode cX6_ask 151 = .ok (.getfield 41, 3) := by decide +kernel
theorem dX6_ask_154 : decode cX6_ask 154 = .ok (.iload 4, 2) := by decide +kernel
theorem dX6_ask_156 : decode cX6_ask 156 = .ok (.iload_n 2, 1) := by decide +kernel
theorem dX6_ask_157 : decode cX6_ask 157 = .ok (.iload_n 3, 1) := by decide +kernel
theorem dX6_ask_158 : decode cX6_ask 158 = .ok (.invokevirtual 139, 3) := by decide +kernel
theorem dX6_ask_161 : decode cX6_ask 161 = .ok (.ireturn, 1) := by decide +kernel
theorem dX6_append_0 : decode cX6_append 0 = .ok (.iload_n 1, 1) := by decide +kernel
theorem dX6_append_1 : decode cX6_append 1 = .ok (.bipush 33, 2) := by decide +kernel
theorem dX6_append_3 : decode cX6_append 3 = .ok (.if_icmp .lt 9, 3) := by decide +kernel
theorem dX6_append_6 : decode cX6_append 6 = .ok (.iload_n 1, 1) := by decide +kernel
theorem dX6_append_7 : decode cX6_append 7 = .ok (.bipush 126, 2) := by decide +kernel
theorem dX6_append_9 : decode cX6_append 9 = .ok (.if_icmp .le 13, 3) := by decide +kernel
theorem dX6_append_12 : decode cX6_append 12 = .ok (.new 34, 3) := by decide +kernel
theorem dX6_append_15 : decode cX6_append 15 = .ok (.dup, 1) := by decide +kernel
theorem dX6_append_16 : decode cX6_append 16 = .ok (.ldc 142, 2) := by decide +kernel
theorem dX6_append_18 : decode cX6_append 18 = .ok (.invokespecial 38, 3) := by decide +kernel
theorem dX6_append_21 : decode cX6_append 21 = .ok (.athrow, 1) := by decide +kernel
theorem dX6_append_22 : decode cX6_append 22 = .ok (.aload_n 0, 1) := by decide +kernel
theorem dX6_append_23 : decode cX6_append 23 = .ok (.getfield 26, 3) := by decide +kernel
theorem dX6_append_26 : decode cX6_append 26 = .ok (.getfield 144, 3) := by decide +kernel
theorem dX6_append_29 : decode cX6_append 29 = .ok (.bipush 60, 2) := by decide +kernel
theorem dX6_append_31 : decode cX6_append 31 = .ok (.if_icmp .lt 13, 3) := by decide +kernel
theorem dX6_append_34 : decode cX6_append 34 = .ok (.new 51, 3) := by decide +kernel
theorem dX6_append_37 : decode cX6_append 37 = .ok (.dup, 1) := by decide +kernel
theorem dX6_append_38 : decode cX6_append 38 = .ok (.ldc 147, 2) := by decide +kernel
theorem dX6_append_40 : decode cX6_append 40 = .ok (.invokespecial 55, 3) := by decide +kernel
theorem dX6_append_43 : decode cX6_append 43 = .ok (.athrow, 1) := by decide +kernel
theorem dX6_append_44 : decode cX6_append 44 = .ok (.aload_n 0, 1) := by decide +kernel
theorem dX6_append_45 : decode cX6_append 45 = .ok (.getfield 26, 3) := by decide +kernel
theorem dX6_append_48 : decode cX6_append 48 = .ok (.iload_n 1, 1) := by decide +kernel
theorem dX6_append_49 : decode cX6_append 49 = .ok (.i2c, 1) := by decide +kernel
theorem dX6_append_50 : decode cX6_append 50 = .ok (.invokevirtual 149, 3) := by decide +kernel
theorem dX6_append_53 : decode cX6_append 53 = .ok (.ireturn, 1) := by decide +kernel
theorem dX6_clearBuffer_0 : decode cX6_clearBuffer 0 = .ok (.aload_n 0, 1) := by decide +kernel
theorem dX6_clearBuffer_1 : decode cX6_clearBuffer 1 = .ok (.getfield 26, 3) := by decide +kernel
theorem dX6_clearBuffer_4 : decode cX6_clearBuffer 4 = .ok (.invokevirtual 152, 3) := by decide +kernel
theorem dX6_clearBuffer_7 : decode cX6_clearBuffer 7 = .ok (.ireturn, 1) := by decide +kernel
theorem dX6_firstError_0 : decode cX6_firstError 0 = .ok (.aload_n 0, 1) := by decide +kernel
theorem dX6_firstError_1 : decode cX6_firstError 1 = .ok (.getfield 26, 3) := by decide +kernel
theorem dX6_firstError_4 : decode cX6_firstError 4 = .ok (.invokevirtual 155, 3) := by decide +kernel
theorem dX6_firstError_7 : decode cX6_firstError 7 = .ok (.pop, 1) := by decide +kernel
theorem dX6_firstError_8 : decode cX6_firstError 8 = .ok (.aload_n 0, 1) := by decide +kernel
theorem dX6_firstError_9 : decode cX6_firstError 9 = .ok (.getfield 26, 3) := by decide +kernel
theorem dX6_firstError_12 : decode cX6_firstError 12 = .ok (.getfield 158, 3) := by decide +kernel
theorem dX6_firstError_15 : decode cX6_firstError 15 = .ok (.ireturn, 1) := by decide +kernel
theorem dX6_play_0 : decode cX6_play 0 = .ok (.aload_n 0, 1) := by decide +kernel
theorem dX6_play_1 : decode cX6_play 1 = .ok (.getfield 26, 3) := by decide +kernel
theorem dX6_play_4 : decode cX6_play 4 = .ok (.invokevirtual 155, 3) := by decide +kernel
theorem dX6_play_7 : decode cX6_play 7 = .ok (.ifCond .ne 13, 3) := by decide +kernel
theorem dX6_play_10 : decode cX6_play 10 = .ok (.new 34, 3) := by decide +kernel
theorem dX6_play_13 : decode cX6_play 13 = .ok (.dup, 1) := by decide +kernel
theorem dX6_play_14 : decode cX6_play 14 = .ok (.ldc 161, 2) := by decide +kernel
theorem dX6_play_16 : decode cX6_play 16 = .ok (.invokespecial 38, 3) := by decide +kernel
theorem dX6_play_19 : decode cX6_play 19 = .ok (.athrow, 1) := by decide +kernel
theorem dX6_play_20 : decode cX6_play 20 = .ok (.aload_n 0, 1) := by decide +kernel
theorem dX6_play_21 : decode cX6_play 21 = .ok (.getfield 19, 3) := by decide +kernel
theorem dX6_play_24 : decode cX6_play 24 = .ok (.aload_n 0, 1) := by decide +kernel
theorem dX6_play_25 : decode cX6_play 25 = .ok (.getfield 12, 3) := by decide +kernel
theorem dX6_play_28 : decode cX6_play 28 = .ok (.invokevirtual 56, 3) := by decide +kernel
theorem dX6_play_31 : decode cX6_play 31 = .ok (.aload_n 0, 1) := by decide +kernel
theorem dX6_play_32 : decode cX6_play 32 = .ok (.invokevirtual 163, 3) := by decide +kernel
theorem dX6_play_35 : decode cX6_play 35 = .ok (.istore_n 1, 1) := by decide +kernel
theorem dX6_play_36 : decode cX6_play 36 = .ok (.aload_n 0, 1) := by decide +kernel
theorem dX6_play_37 : decode cX6_play 37 = .ok (.getfield 26, 3) := by decide +kernel
theorem dX6_play_40 : decode cX6_play 40 = .ok (.invokevirtual 152, 3) := by decide +kernel
theorem dX6_play_43 : decode cX6_play 43 = .ok (.pop, 1) := by decide +kernel
theorem dX6_play_44 : decode cX6_play 44 = .ok (.iload_n 1, 1) := by decide +kernel
theorem dX6_play_45 : decode cX6_play 45 = .ok (.ireturn, 1) := by decide +kernel
theorem dX6_undo_0 : decode cX6_undo 0 = .ok (.aload_n 0, 1) := by decide +kernel
theorem dX6_undo_1 : decode cX6_undo 1 = .ok (.getfield 19, 3) := by decide +kernel
theorem dX6_undo_4 : decode cX6_undo 4 = .ok (.getfield 166, 3) := by decide +kernel
theorem dX6_undo_7 : decode cX6_undo 7 = .ok (.ifCond .ne 13, 3) := by decide +kernel
theorem dX6_undo_10 : decode cX6_undo 10 = .ok (.new 51, 3) := by decide +kernel
theorem dX6_undo_13 : decode cX6_undo 13 = .ok (.dup, 1) := by decide +kernel
theorem dX6_undo_14 : decode cX6_undo 14 = .ok (.ldc 169, 2) := by decide +kernel
theorem dX6_undo_16 : decode cX6_undo 16 = .ok (.invokespecial 55, 3) := by decide +kernel
theorem dX6_undo_19 : decode cX6_undo 19 = .ok (.athrow, 1) := by decide +kernel
theorem dX6_undo_20 : decode cX6_undo 20 = .ok (.aload_n 0, 1) := by decide +kernel
theorem dX6_undo_21 : decode cX6_undo 21 = .ok (.getfield 19, 3) := by decide +kernel
theorem dX6_undo_24 : decode cX6_undo 24 = .ok (.aload_n 0, 1) := by decide +kernel
theorem dX6_undo_25 : decode cX6_undo 25 = .ok (.getfield 12, 3) := by decide +kernel
theorem dX6_undo_28 : decode cX6_undo 28 = .ok (.invokevirtual 171, 3) := by decide +kernel
theorem dX6_undo_31 : decode cX6_undo 31 = .ok (.aload_n 0, 1) := by decide +kernel
theorem dX6_undo_32 : decode cX6_undo 32 = .ok (.getfield 19, 3) := by decide +kernel
theorem dX6_undo_35 : decode cX6_undo 35 = .ok (.getfield 166, 3) := by decide +kernel
theorem dX6_undo_38 : decode cX6_undo 38 = .ok (.ireturn, 1) := by decide +kernel
theorem dX6_slot_0 : decode cX6_slot 0 = .ok (.iload_n 1, 1) := by decide +kernel
theorem dX6_slot_1 : decode cX6_slot 1 = .ok (.bipush 24, 2) := by decide +kernel
theorem dX6_slot_3 : decode cX6_slot 3 = .ok (.invokestatic 30, 3) := by decide +kernel
theorem dX6_slot_6 : decode cX6_slot 6 = .ok (.ifCond .eq 13, 3) := by decide +kernel
theorem dX6_slot_9 : decode cX6_slot 9 = .ok (.new 64, 3) := by decide +kernel
theorem dX6_slot_12 : decode cX6_slot 12 = .ok (.dup, 1) := by decide +kernel
theorem dX6_slot_13 : decode cX6_slot 13 = .ok (.ldc 66, 2) := by decide +kernel
theorem dX6_slot_15 : decode cX6_slot 15 = .ok (.invokespecial 68, 3) := by decide +kernel
theorem dX6_slot_18 : decode cX6_slot 18 = .ok (.athrow, 1) := by decide +kernel
theorem dX6_slot_19 : decode cX6_slot 19 = .ok (.iload_n 2, 1) := by decide +kernel
theorem dX6_slot_20 : decode cX6_slot 20 = .ok (.iconst 4, 1) := by decide +kernel
theorem dX6_slot_21 : decode cX6_slot 21 = .ok (.invokestatic 30, 3) := by decide +kernel
theorem dX6_slot_24 : decode cX6_slot 24 = .ok (.ifCond .eq 13, 3) := by decide +kernel
theorem dX6_slot_27 : decode cX6_slot 27 = .ok (.new 34, 3) := by decide +kernel
theorem dX6_slot_30 : decode cX6_slot 30 = .ok (.dup, 1) := by decide +kernel
theorem dX6_slot_31 : decode cX6_slot 31 = .ok (.ldc 174, 2) := by decide +kernel
theorem dX6_slot_33 : decode cX6_slot 33 = .ok (.invokespecial 38, 3) := by decide +kernel
theorem dX6_slot_36 : decode cX6_slot 36 = .ok (.athrow, 1) := by decide +kernel
theorem dX6_slot_37 : decode cX6_slot 37 = .ok (.aload_n 0, 1) := by decide +kernel
theorem dX6_slot_38 : decode cX6_slot 38 = .ok (.iload_n 1, 1) := by decide +kernel
theorem dX6_slot_39 : decode cX6_slot 39 = .ok (.iload_n 2, 1) := by decide +kernel
theorem dX6_slot_40 : decode cX6_slot 40 = .ok (.invokevirtual 176, 3) := by decide +kernel
theorem dX6_slot_43 : decode cX6_slot 43 = .ok (.ireturn, 1) := by decide +kernel
theorem dX6_page_0 : decode cX6_page 0 = .ok (.iload_n 1, 1) := by decide +kernel
theorem dX6_page_1 : decode cX6_page 1 = .ok (.bipush 6, 2) := by decide +kernel
theorem dX6_page_3 : decode cX6_page 3 = .ok (.invokestatic 30, 3) := by decide +kernel
theorem dX6_page_6 : decode cX6_page 6 = .ok (.ifCond .eq 13, 3) := by decide +kernel
theorem dX6_page_9 : decode cX6_page 9 = .ok (.new 64, 3) := by decide +kernel
theorem dX6_page_12 : decode cX6_page 12 = .ok (.dup, 1) := by decide +kernel
theorem dX6_page_13 : decode cX6_page 13 = .ok (.ldc 105, 2) := by decide +kernel
theorem dX6_page_15 : decode cX6_page 15 = .ok (.invokespecial 68, 3) := by decide +kernel
theorem dX6_page_18 : decode cX6_page 18 = .ok (.athrow, 1) := by decide +kernel
theorem dX6_page_19 : decode cX6_page 19 = .ok (.iload_n 2, 1) := by decide +kernel
theorem dX6_page_20 : decode cX6_page 20 = .ok (.iconst 5, 1) := by decide +kernel
theorem dX6_page_21 : decode cX6_page 21 = .ok (.invokestatic 30, 3) := by decide +kernel
theorem dX6_page_24 : decode cX6_page 24 = .ok (.ifCond .eq 13, 3) := by decide +kernel
theorem dX6_page_27 : decode cX6_page 27 = .ok (.new 34, 3) := by decide +kernel
theorem dX6_page_30 : decode cX6_page 30 = .ok (.dup, 1) := by decide +kernel
theorem dX6_page_31 : decode cX6_page 31 = .ok (.ldc 179, 2) := by decide +kernel
theorem dX6_page_33 : decode cX6_page 33 = .ok (.invokespecial 38, 3) := by decide +kernel
theorem dX6_page_36 : decode cX6_page 36 = .ok (.athrow, 1) := by decide +kernel
theorem dX6_page_37 : decode cX6_page 37 = .ok (.aload_n 0, 1) := by decide +kernel
theorem dX6_page_38 : decode cX6_page 38 = .ok (.iload_n 1, 1) := by decide +kernel
theorem dX6_page_39 : decode cX6_page 39 = .ok (.iload_n 2, 1) := by decide +kernel
theorem dX6_page_40 : decode cX6_page 40 = .ok (.invokevirtual 181, 3) := by decide +kernel
theorem dX6_page_43 : decode cX6_page 43 = .ok (.ireturn, 1) := by decide +kernel
theorem dX6_asker_0 : decode cX6_asker 0 = .ok (.iload_n 1, 1) := by decide +kernel
theorem dX6_asker_1 : decode cX6_asker 1 = .ok (.iconst 4, 1) := by decide +kernel
theorem dX6_asker_2 : decode cX6_asker 2 = .ok (.invokestatic 30, 3) := by decide +kernel
theorem dX6_asker_5 : decode cX6_asker 5 = .ok (.ifCond .eq 13, 3) := by decide +kernel
theorem dX6_asker_8 : decode cX6_asker 8 = .ok (.new 64, 3) := by decide +kernel
theorem dX6_asker_11 : decode cX6_asker 11 = .ok (.dup, 1) := by decide +kernel
theorem dX6_asker_12 : decode cX6_asker 12 = .ok (.ldc 88, 2) := by decide +kernel
theorem dX6_asker_14 : decode cX6_asker 14 = .ok (.invokespecial 68, 3) := by decide +kernel
theorem dX6_asker_17 : decode cX6_asker 17 = .ok (.athrow, 1) := by decide +kernel
theorem dX6_asker_18 : decode cX6_asker 18 = .ok (.iload_n 2, 1) := by decide +kernel
theorem dX6_asker_19 : decode cX6_asker 19 = .ok (.iconst 3, 1) := by decide +kernel
theorem dX6_asker_20 : decode cX6_asker 20 = .ok (.invokestatic 30, 3) := by decide +kernel
theorem dX6_asker_23 : decode cX6_asker 23 = .ok (.ifCond .eq 13, 3) := by decide +kernel
theorem dX6_asker_26 : decode cX6_asker 26 = .ok (.new 34, 3) := by decide +kernel
theorem dX6_asker_29 : decode cX6_asker 29 = .ok (.dup, 1) := by decide +kernel
theorem dX6_asker_30 : decode cX6_asker 30 = .ok (.ldc 184, 2) := by decide +kernel
theorem dX6_asker_32 : decode cX6_asker 32 = .ok (.invokespecial 38, 3) := by decide +kernel
theorem dX6_asker_35 : decode cX6_asker 35 = .ok (.athrow, 1) := by decide +kernel
theorem dX6_asker_36 : decode cX6_asker 36 = .ok (.aload_n 0, 1) := by decide +kernel
theorem dX6_asker_37 : decode cX6_asker 37 = .ok (.iload_n 1, 1) := by decide +kernel
theorem dX6_asker_38 : decode cX6_asker 38 = .ok (.iload_n 2, 1) := by decide +kernel
theorem dX6_asker_39 : decode cX6_asker 39 = .ok (.invokevirtual 186, 3) := by decide +kernel
theorem dX6_asker_42 : decode cX6_asker 42 = .ok (.ireturn, 1) := by decide +kernel
theorem dX6_count_0 : decode cX6_count 0 = .ok (.iload_n 1, 1) := by decide +kernel
theorem dX6_count_1 : decode cX6_count 1 = .ok (.bipush 13, 2) := by decide +kernel
theorem dX6_count_3 : decode cX6_count 3 = .ok (.invokestatic 30, 3) := by decide +kernel
theorem dX6_count_6 : decode cX6_count 6 = .ok (.ifCond .eq 13, 3) := by decide +kernel
theorem dX6_count_9 : decode cX6_count 9 = .ok (.new 34, 3) := by decide +kernel
theorem dX6_count_12 : decode cX6_count 12 = .ok (.dup, 1) := by decide +kernel
theorem dX6_count_13 : decode cX6_count 13 = .ok (.ldc 189, 2) := by decide +kernel
theorem dX6_count_15 : decode cX6_count 15 = .ok (.invokespecial 38, 3) := by decide +kernel
theorem dX6_count_18 : decode cX6_count 18 = .ok (.athrow, 1) := by decide +kernel
theorem dX6_count_19 : decode cX6_count 19 = .ok (.aload_n 0, 1) := by decide +kernel
theorem dX6_count_20 : decode cX6_count 20 = .ok (.iload_n 1, 1) := by decide +kernel
theorem dX6_count_21 : decode cX6_count 21 = .ok (.invokevirtual 191, 3) := by decide +kernel
theorem dX6_count_24 : decode cX6_count 24 = .ok (.ireturn, 1) := by decide +kernel
theorem dX6_ifAsked_0 : decode cX6_ifAsked 0 = .ok (.iload_n 1, 1) := by decide +kernel
theorem dX6_ifAsked_1 : decode cX6_ifAsked 1 = .ok (.ifCond .lt 17, 3) := by decide +kernel
theorem dX6_ifAsked_4 : decode cX6_ifAsked 4 = .ok (.iload_n 1, 1) := by decide +kernel
theorem dX6_ifAsked_5 : decode cX6_ifAsked 5 = .ok (.aload_n 0, 1) := by decide +kernel
theorem dX6_ifAsked_6 : decode cX6_ifAsked 6 = .ok (.getfield 12, 3) := by decide +kernel
theorem dX6_ifAsked_9 : decode cX6_ifAsked 9 = .ok (.getfield 41, 3) := by decide +kernel
theorem dX6_ifAsked_12 : decode cX6_ifAsked 12 = .ok (.getfield 99, 3) := by decide +kernel
theorem dX6_ifAsked_15 : decode cX6_ifAsked 15 = .ok (.if_icmp .le 13, 3) := by decide +kernel
theorem dX6_ifAsked_18 : decode cX6_ifAsked 18 = .ok (.new 34, 3) := by decide +kernel
theorem dX6_ifAsked_21 : decode cX6_ifAsked 21 = .ok (.dup, 1) := by decide +kernel
theorem dX6_ifAsked_22 : decode cX6_ifAsked 22 = .ok (.ldc 194, 2) := by decide +kernel
theorem dX6_ifAsked_24 : decode cX6_ifAsked 24 = .ok (.invokespecial 38, 3) := by decide +kernel
theorem dX6_ifAsked_27 : decode cX6_ifAsked 27 = .ok (.athrow, 1) := by decide +kernel
theorem dX6_ifAsked_28 : decode cX6_ifAsked 28 = .ok (.iload_n 2, 1) := by decide +kernel
theorem dX6_ifAsked_29 : decode cX6_ifAsked 29 = .ok (.bipush 10, 2) := by decide +kernel
theorem dX6_ifAsked_31 : decode cX6_ifAsked 31 = .ok (.invokestatic 30, 3) := by decide +kernel
theorem dX6_ifAsked_34 : decode cX6_ifAsked 34 = .ok (.ifCond .ne 11, 3) := by decide +kernel
theorem dX6_ifAsked_37 : decode cX6_ifAsked 37 = .ok (.iload_n 3, 1) := by decide +kernel
theorem dX6_ifAsked_38 : decode cX6_ifAsked 38 = .ok (.iconst 3, 1) := by decide +kernel
theorem dX6_ifAsked_39 : decode cX6_ifAsked 39 = .ok (.invokestatic 30, 3) := by decide +kernel
theorem dX6_ifAsked_42 : decode cX6_ifAsked 42 = .ok (.ifCond .eq 13, 3) := by decide +kernel
theorem dX6_ifAsked_45 : decode cX6_ifAsked 45 = .ok (.new 34, 3) := by decide +kernel
theorem dX6_ifAsked_48 : decode cX6_ifAsked 48 = .ok (.dup, 1) := by decide +kernel
theorem dX6_ifAsked_49 : decode cX6_ifAsked 49 = .ok (.ldc 117, 2) := by decide +kernel
theorem dX6_ifAsked_51 : decode cX6_ifAsked 51 = .ok (.invokespecial 38, 3) := by decide +kernel
theorem dX6_ifAsked_54 : decode cX6_ifAsked 54 = .ok (.athrow, 1) := by decide +kernel
theorem dX6_ifAsked_55 : decode cX6_ifAsked 55 = .ok (.iload 4, 2) := by decide +kernel
theorem dX6_ifAsked_57 : decode cX6_ifAsked 57 = .ok (.ifCond .ne 17, 3) := by decide +kernel
theorem dX6_ifAsked_60 : decode cX6_ifAsked 60 = .ok (.aload_n 0, 1) := by decide +kernel
theorem dX6_ifAsked_61 : decode cX6_ifAsked 61 = .ok (.getfield 12, 3) := by decide +kernel
theorem dX6_ifAsked_64 : decode cX6_ifAsked 64 = .ok (.getfield 41, 3) := by decide +kernel
theorem dX6_ifAsked_67 : decode cX6_ifAsked 67 = .ok (.iload_n 1, 1) := by decide +kernel
theorem dX6_ifAsked_68 : decode cX6_ifAsked 68 = .ok (.iload_n 2, 1) := by decide +kernel
theorem dX6_ifAsked_69 : decode cX6_ifAsked 69 = .ok (.iload_n 3, 1) := by decide +kernel
theorem dX6_ifAsked_70 : decode cX6_ifAsked 70 = .ok (.invokevirtual 139, 3) := by decide +kernel
theorem dX6_ifAsked_73 : decode cX6_ifAsked 73 = .ok (.ireturn, 1) := by decide +kernel
theorem dX6_ifAsked_74 : decode cX6_ifAsked 74 = .ok (.iload 4, 2) := by decide +kernel
theorem dX6_ifAsked_76 : decode cX6_ifAsked 76 = .ok (.iconst 1, 1) := by decide +kernel
theorem dX6_ifAsked_77 : decode cX6_ifAsked 77 = .ok (.if_icmp .ne 17, 3) := by decide +kernel
theorem dX6_ifAsked_80 : decode cX6_ifAsked 80 = .ok (.aload_n 0, 1) := by decide +kernel
theorem dX6_ifAsked_81 : decode cX6_ifAsked 81 = .ok (.getfield 12, 3) := by decide +kernel
theorem dX6_ifAsked_84 : decode cX6_ifAsked 84 = .ok (.getfield 41, 3) := by decide +kernel
theorem dX6_ifAsked_87 : decode cX6_ifAsked 87 = .ok (.iload_n 1, 1) := by decide +kernel
theorem dX6_ifAsked_88 : decode cX6_ifAsked 88 = .ok (.iload_n 2, 1) := by decide +kernel
theorem dX6_ifAsked_89 : decode cX6_ifAsked 89 = .ok (.iload_n 3, 1) := by decide +kernel
theorem dX6_ifAsked_90 : decode cX6_ifAsked 90 = .ok (.invokevirtual 126, 3) := by decide +kernel
theorem dX6_ifAsked_93 : decode cX6_ifAsked 93 = .ok (.ireturn, 1) := by decide +kernel
theorem dX6_ifAsked_94 : decode cX6_ifAsked 94 = .ok (.new 34, 3) := by decide +kernel
theorem dX6_ifAsked_97 : decode cX6_ifAsked 97 = .ok (.dup, 1) := by decide +kernel
theorem dX6_ifAsked_98 : decode cX6_ifAsked 98 = .ok (.ldc 196, 2) := by decide +kernel
theorem dX6_ifAsked_100 : decode cX6_ifAsked 100 = .ok (.invokespecial 38, 3) := by decide +kernel
theorem dX6_ifAsked_103 : decode cX6_ifAsked 103 = .ok (.athrow, 1) := by decide +kernel
theorem dX6_lies_0 : decode cX6_lies 0 = .ok (.iload_n 1, 1) := by decide +kernel
theorem dX6_lies_1 : decode cX6_lies 1 = .ok (.bipush 10, 2) := by decide +kernel
theorem dX6_lies_3 : decode cX6_lies 3 = .ok (.invokestatic 30, 3) := by decide +kernel
theorem dX6_lies_6 : decode cX6_lies 6 = .ok (.ifCond .eq 13, 3) := by decide +kernel
theorem dX6_lies_9 : decode cX6_lies 9 = .ok (.new 34, 3) := by decide +kernel
theorem dX6_lies_12 : decode cX6_lies 12 = .ok (.dup, 1) := by decide +kernel
theorem dX6_lies_13 : decode cX6_lies 13 = .ok (.ldc 36, 2) := by decide +kernel
theorem dX6_lies_15 : decode cX6_lies 15 = .ok (.invokespecial 38, 3) := by decide +kernel
theorem dX6_lies_18 : decode cX6_lies 18 = .ok (.athrow, 1) := by decide +kernel
theorem dX6_lies_19 : decode cX6_lies 19 = .ok (.aload_n 0, 1) := by decide +kernel
theorem dX6_lies_20 : decode cX6_lies 20 = .ok (.getfield 12, 3) := by decide +kernel
theorem dX6_lies_23 : decode cX6_lies 23 = .ok (.getfield 41, 3) := by decide +kernel
theorem dX6_lies_26 : decode cX6_lies 26 = .ok (.iload_n 1, 1) := by decide +kernel
theorem dX6_lies_27 : decode cX6_lies 27 = .ok (.invokevirtual 198, 3) := by decide +kernel
theorem dX6_lies_30 : decode cX6_lies 30 = .ok (.ireturn, 1) := by decide +kernel
theorem dX6_cheapest_0 : decode cX6_cheapest 0 = .ok (.iload_n 1, 1) := by decide +kernel
theorem dX6_cheapest_1 : decode cX6_cheapest 1 = .ok (.bipush 10, 2) := by decide +kernel
theorem dX6_cheapest_3 : decode cX6_cheapest 3 = .ok (.invokestatic 30, 3) := by decide +kernel
theorem dX6_cheapest_6 : decode cX6_cheapest 6 = .ok (.ifCond .eq 13, 3) := by decide +kernel
theorem dX6_cheapest_9 : decode cX6_cheapest 9 = .ok (.new 34, 3) := by decide +kernel
theorem dX6_cheapest_12 : decode cX6_cheapest 12 = .ok (.dup, 1) := by decide +kernel
theorem dX6_cheapest_13 : decode cX6_cheapest 13 = .ok (.ldc 36, 2) := by decide +kernel
theorem dX6_cheapest_15 : decode cX6_cheapest 15 = .ok (.invokespecial 38, 3) := by decide +kernel
theorem dX6_cheapest_18 : decode cX6_cheapest 18 = .ok (.athrow, 1) := by decide +kernel
theorem dX6_cheapest_19 : decode cX6_cheapest 19 = .ok (.aload_n 0, 1) := by decide +kernel
theorem dX6_cheapest_20 : decode cX6_cheapest 20 = .ok (.getfield 12, 3) := by decide +kernel
theorem dX6_cheapest_23 : decode cX6_cheapest 23 = .ok (.getfield 41, 3) := by decide +kernel
theorem dX6_cheapest_26 : decode cX6_cheapest 26 = .ok (.iload_n 1, 1) := by decide +kernel
theorem dX6_cheapest_27 : decode cX6_cheapest 27 = .ok (.invokevirtual 201, 3) := by decide +kernel
theorem dX6_cheapest_30 : decode cX6_cheapest 30 = .ok (.ireturn, 1) := by decide +kernel
theorem dX6_holder_0 : decode cX6_holder 0 = .ok (.aload_n 0, 1) := by decide +kernel
theorem dX6_holder_1 : decode cX6_holder 1 = .ok (.invokevirtual 204, 3) := by decide +kernel
theorem dX6_holder_4 : decode cX6_holder 4 = .ok (.ireturn, 1) := by decide +kernel
theorem dX6_marked_0 : decode cX6_marked 0 = .ok (.aload_n 0, 1) := by decide +kernel
theorem dX6_marked_1 : decode cX6_marked 1 = .ok (.invokevirtual 207, 3) := by decide +kernel
theorem dX6_marked_4 : decode cX6_marked 4 = .ok (.dreturn, 1) := by decide +kernel
theorem dX6_digest_0 : decode cX6_digest 0 = .ok (.ldc2_w 211, 3) := by decide +kernel
theorem dX6_digest_3 : decode cX6_digest 3 = .ok (.lstore_n 1, 1) := by decide +kernel
theorem dX6_digest_4 : decode cX6_digest 4 = .ok (.iconst 0, 1) := by decide +kernel
theorem dX6_digest_5 : decode cX6_digest 5 = .ok (.istore_n 3, 1) := by decide +kernel
theorem dX6_digest_6 : decode cX6_digest 6 = .ok (.iload_n 3, 1) := by decide +kernel
theorem dX6_digest_7 : decode cX6_digest 7 = .ok (.bipush 13, 2) := by decide +kernel
theorem dX6_digest_9 : decode cX6_digest 9 = .ok (.if_icmp .ge 20, 3) := by decide +kernel
theorem dX6_digest_12 : decode cX6_digest 12 = .ok (.lload_n 1, 1) := by decide +kernel
theorem dX6_digest_13 : decode cX6_digest 13 = .ok (.aload_n 0, 1) := by decide +kernel
theorem dX6_digest_14 : decode cX6_digest 14 = .ok (.iload_n 3, 1) := by decide +kernel
theorem dX6_digest_15 : decode cX6_digest 15 = .ok (.invokevirtual 191, 3) := by decide +kernel
theorem dX6_digest_18 : decode cX6_digest 18 = .ok (.i2l, 1) := by decide +kernel
theorem dX6_digest_19 : decode cX6_digest 19 = .ok (.invokestatic 213, 3) := by decide +kernel
theorem dX6_digest_22 : decode cX6_digest 22 = .ok (.lstore_n 1, 1) := by decide +kernel
theorem dX6_digest_23 : decode cX6_digest 23 = .ok (.iinc 3 1, 3) := by decide +kernel
theorem dX6_digest_26 : decode cX6_digest 26 = .ok (.goto (-20), 3) := by decide +kernel
theorem dX6_digest_29 : decode cX6_digest 29 = .ok (.aload_n 0, 1) := by decide +kernel
theorem dX6_digest_30 : decode cX6_digest 30 = .ok (.lload_n 1, 1) := by decide +kernel
theorem dX6_digest_31 : decode cX6_digest 31 = .ok (.invokevirtual 217, 3) := by decide +kernel
theorem dX6_digest_34 : decode cX6_digest 34 = .ok (.lstore_n 1, 1) := by decide +kernel
theorem dX6_digest_35 : decode cX6_digest 35 = .ok (.iconst 0, 1) := by decide +kernel
theorem dX6_digest_36 : decode cX6_digest 36 = .ok (.istore_n 3, 1) := by decide +kernel
theorem dX6_digest_37 : decode cX6_digest 37 = .ok (.iload_n 3, 1) := by decide +kernel
theorem dX6_digest_38 : decode cX6_digest 38 = .ok (.bipush 10, 2) := by decide +kernel
theorem dX6_digest_40 : decode cX6_digest 40 = .ok (.if_icmp .ge 16, 3) := by decide +kernel
theorem dX6_digest_43 : decode cX6_digest 43 = .ok (.aload_n 0, 1) := by decide +kernel
theorem dX6_digest_44 : decode cX6_digest 44 = .ok (.lload_n 1, 1) := by decide +kernel
theorem dX6_digest_45 : decode cX6_digest 45 = .ok (.iload_n 3, 1) := by decide +kernel
theorem dX6_digest_46 : decode cX6_digest 46 = .ok (.invokevirtual 221, 3) := by decide +kernel
theorem dX6_digest_49 : decode cX6_digest 49 = .ok (.lstore_n 1, 1) := by decide +kernel
theorem dX6_digest_50 : decode cX6_digest 50 = .ok (.iinc 3 1, 3) := by decide +kernel
theorem dX6_digest_53 : decode cX6_digest 53 = .ok (.goto (-16), 3) := by decide +kernel
theorem dX6_digest_56 : decode cX6_digest 56 = .ok (.lload_n 1, 1) := by decide +kernel
theorem dX6_digest_57 : decode cX6_digest 57 = .ok (.aload_n 0, 1) := by decide +kernel
theorem dX6_digest_58 : decode cX6_digest 58 = .ok (.invokevirtual 204, 3) := by decide +kernel
theorem dX6_digest_61 : decode cX6_digest 61 = .ok (.i2l, 1) := by decide +kernel
theorem dX6_digest_62 : decode cX6_digest 62 = .ok (.invokestatic 213, 3) := by decide +kernel
theorem dX6_digest_65 : decode cX6_digest 65 = .ok (.lstore_n 1, 1) := by decide +kernel
theorem dX6_digest_66 : decode cX6_digest 66 = .ok (.lload_n 1, 1) := by decide +kernel
theorem dX6_digest_67 : decode cX6_digest 67 = .ok (.aload_n 0, 1) := by decide +kernel
theorem dX6_digest_68 : decode cX6_digest 68 = .ok (.invokevirtual 207, 3) := by decide +kernel
theorem dX6_digest_71 : decode cX6_digest 71 = .ok (.invokestatic 225, 3) := by decide +kernel
theorem dX6_digest_74 : decode cX6_digest 74 = .ok (.invokestatic 213, 3) := by decide +kernel
theorem dX6_digest_77 : decode cX6_digest 77 = .ok (.lstore_n 1, 1) := by decide +kernel
theorem dX6_digest_78 : decode cX6_digest 78 = .ok (.lload_n 1, 1) := by decide +kernel
theorem dX6_digest_79 : decode cX6_digest 79 = .ok (.aload_n 0, 1) := by decide +kernel
theorem dX6_digest_80 : decode cX6_digest 80 = .ok (.getfield 26, 3) := by decide +kernel
theorem dX6_digest_83 : decode cX6_digest 83 = .ok (.getfield 144, 3) := by decide +kernel
theorem dX6_digest_86 : decode cX6_digest 86 = .ok (.i2l, 1) := by decide +kernel
theorem dX6_digest_87 : decode cX6_digest 87 = .ok (.invokestatic 213, 3) := by decide +kernel
theorem dX6_digest_90 : decode cX6_digest 90 = .ok (.lstore_n 1, 1) := by decide +kernel
theorem dX6_digest_91 : decode cX6_digest 91 = .ok (.iconst 0, 1) := by decide +kernel
theorem dX6_digest_92 : decode cX6_digest 92 = .ok (.istore_n 3, 1) := by decide +kernel
theorem dX6_digest_93 : decode cX6_digest 93 = .ok (.iload_n 3, 1) := by decide +kernel
theorem dX6_digest_94 : decode cX6_digest 94 = .ok (.aload_n 0, 1) := by decide +kernel
theorem dX6_digest_95 : decode cX6_digest 95 = .ok (.getfield 26, 3) := by decide +kernel
theorem dX6_digest_98 : decode cX6_digest 98 = .ok (.getfield 144, 3) := by decide +kernel
theorem dX6_digest_101 : decode cX6_digest 101 = .ok (.if_icmp .ge 23, 3) := by decide +kernel
theorem dX6_digest_104 : decode cX6_digest 104 = .ok (.lload_n 1, 1) := by decide +kernel
theorem dX6_digest_105 : decode cX6_digest 105 = .ok (.aload_n 0, 1) := by decide +kernel
theorem dX6_digest_106 : decode cX6_digest 106 = .ok (.getfield 26, 3) := by decide +kernel
theorem dX6_digest_109 : decode cX6_digest 109 = .ok (.iload_n 3, 1) := by decide +kernel
theorem dX6_digest_110 : decode cX6_digest 110 = .ok (.invokevirtual 229, 3) := by decide +kernel
theorem dX6_digest_113 : decode cX6_digest 113 = .ok (.i2l, 1) := by decide +kernel
theorem dX6_digest_114 : decode cX6_digest 114 = .ok (.invokestatic 213, 3) := by decide +kernel
theorem dX6_digest_117 : decode cX6_digest 117 = .ok (.lstore_n 1, 1) := by decide +kernel
theorem dX6_digest_118 : decode cX6_digest 118 = .ok (.iinc 3 1, 3) := by decide +kernel
theorem dX6_digest_121 : decode cX6_digest 121 = .ok (.goto (-28), 3) := by decide +kernel
theorem dX6_digest_124 : decode cX6_digest 124 = .ok (.lload_n 1, 1) := by decide +kernel
theorem dX6_digest_125 : decode cX6_digest 125 = .ok (.lreturn, 1) := by decide +kernel
theorem dX6_isOutside_0 : decode cX6_isOutside 0 = .ok (.iload_n 0, 1) := by decide +kernel
theorem dX6_isOutside_1 : decode cX6_isOutside 1 = .ok (.ifCond .lt 8, 3) := by decide +kernel
theorem dX6_isOutside_4 : decode cX6_isOutside 4 = .ok (.iload_n 0, 1) := by decide +kernel
theorem dX6_isOutside_5 : decode cX6_isOutside 5 = .ok (.iload_n 1, 1) := by decide +kernel
theorem dX6_isOutside_6 : decode cX6_isOutside 6 = .ok (.if_icmp .lt 7, 3) := by decide +kernel
theorem dX6_isOutside_9 : decode cX6_isOutside 9 = .ok (.iconst 1, 1) := by decide +kernel
theorem dX6_isOutside_10 : decode cX6_isOutside 10 = .ok (.goto 4, 3) := by decide +kernel
theorem dX6_isOutside_13 : decode cX6_isOutside 13 = .ok (.iconst 0, 1) := by decide +kernel
theorem dX6_isOutside_14 : decode cX6_isOutside 14 = .ok (.ireturn, 1) := by decide +kernel
theorem dX6_slotNumber_0 : decode cX6_slotNumber 0 = .ok (.aload_n 0, 1) := by decide +kernel
theorem dX6_slotNumber_1 : decode cX6_slotNumber 1 = .ok (.getfield 12, 3) := by decide +kernel
theorem dX6_slotNumber_4 : decode cX6_slotNumber 4 = .ok (.getfield 41, 3) := by decide +kernel
theorem dX6_slotNumber_7 : decode cX6_slotNumber 7 = .ok (.astore_n 3, 1) := by decide +kernel
theorem dX6_slotNumber_8 : decode cX6_slotNumber 8 = .ok (.iload_n 2, 1) := by decide +kernel
theorem dX6_slotNumber_9 : decode cX6_slotNumber 9 = .ok (.tableswitch 48 0 2 #[27, 34, 41], 27) := by decide +kernel
theorem dX6_slotNumber_36 : decode cX6_slotNumber 36 = .ok (.aload_n 3, 1) := by decide +kernel
theorem dX6_slotNumber_37 : decode cX6_slotNumber 37 = .ok (.getfield 78, 3) := by decide +kernel
theorem dX6_slotNumber_40 : decode cX6_slotNumber 40 = .ok (.iload_n 1, 1) := by decide +kernel
theorem dX6_slotNumber_41 : decode cX6_slotNumber 41 = .ok (.iaload, 1) := by decide +kernel
theorem dX6_slotNumber_42 : decode cX6_slotNumber 42 = .ok (.ireturn, 1) := by decide +kernel
theorem dX6_slotNumber_43 : decode cX6_slotNumber 43 = .ok (.aload_n 3, 1) := by decide +kernel
theorem dX6_slotNumber_44 : decode cX6_slotNumber 44 = .ok (.getfield 233, 3) := by decide +kernel
theorem dX6_slotNumber_47 : decode cX6_slotNumber 47 = .ok (.iload_n 1, 1) := by decide +kernel
theorem dX6_slotNumber_48 : decode cX6_slotNumber 48 = .ok (.iaload, 1) := by decide +kernel
theorem dX6_slotNumber_49 : decode cX6_slotNumber 49 = .ok (.ireturn, 1) := by decide +kernel
theorem dX6_slotNumber_50 : decode cX6_slotNumber 50 = .ok (.aload_n 3, 1) := by decide +kernel
theorem dX6_slotNumber_51 : decode cX6_slotNumber 51 = .ok (.getfield 236, 3) := by decide +kernel
theorem dX6_slotNumber_54 : decode cX6_slotNumber 54 = .ok (.iload_n 1, 1) := by decide +kernel
theorem dX6_slotNumber_55 : decode cX6_slotNumber 55 = .ok (.iaload, 1) := by decide +kernel
theorem dX6_slotNumber_56 : decode cX6_slotNumber 56 = .ok (.ireturn, 1) := by decide +kernel
theorem dX6_slotNumber_57 : decode cX6_slotNumber 57 = .ok (.aload_n 3, 1) := by decide +kernel
theorem dX6_slotNumber_58 : decode cX6_slotNumber 58 = .ok (.iload_n 1, 1) := by decide +kernel
theorem dX6_slotNumber_59 : decode cX6_slotNumber 59 = .ok (.invokevirtual 69, 3) := by decide +kernel
theorem dX6_slotNumber_62 : decode cX6_slotNumber 62 = .ok (.ifCond .eq 7, 3) := by decide +kernel
theorem dX6_slotNumber_65 : decode cX6_slotNumber 65 = .ok (.iconst 1, 1) := by decide +kernel
theorem dX6_slotNumber_66 : decode cX6_slotNumber 66 = .ok (.goto 4, 3) := by decide +kernel
theorem dX6_slotNumber_69 : decode cX6_slotNumber 69 = .ok (.iconst 0, 1) := by decide +kernel
theorem dX6_slotNumber_70 : decode cX6_slotNumber 70 = .ok (.ireturn, 1) := by decide +kernel
theorem dX6_pageNumber_0 : decode cX6_pageNumber 0 = .ok (.aload_n 0, 1) := by decide +kernel
theorem dX6_pageNumber_1 : decode cX6_pageNumber 1 = .ok (.getfield 12, 3) := by decide +kernel
theorem dX6_pageNumber_4 : decode cX6_pageNumber 4 = .ok (.getfield 41, 3) := by decide +kernel
theorem dX6_pageNumber_7 : decode cX6_pageNumber 7 = .ok (.astore_n 3, 1) := by decide +kernel
theorem dX6_pageNumber_8 : decode cX6_pageNumber 8 = .ok (.iload_n 1, 1) := by decide +kernel
theorem dX6_pageNumber_9 : decode cX6_pageNumber 9 = .ok (.iconst 4, 1) := by decide +kernel
theorem dX6_pageNumber_10 : decode cX6_pageNumber 10 = .ok (.imul, 1) := by decide +kernel
theorem dX6_pageNumber_11 : decode cX6_pageNumber 11 = .ok (.istore 4, 2) := by decide +kernel
theorem dX6_pageNumber_13 : decode cX6_pageNumber 13 = .ok (.iload 4, 2) := by decide +kernel
theorem dX6_pageNumber_15 : decode cX6_pageNumber 15 = .ok (.iconst 4, 1) := by decide +kernel
theorem dX6_pageNumber_16 : decode cX6_pageNumber 16 = .ok (.iadd, 1) := by decide +kernel
theorem dX6_pageNumber_17 : decode cX6_pageNumber 17 = .ok (.istore 5, 2) := by decide +kernel
theorem dX6_pageNumber_19 : decode cX6_pageNumber 19 = .ok (.iload_n 2, 1) := by decide +kernel
theorem dX6_pageNumber_20 : decode cX6_pageNumber 20 = .ok (.tableswitch 84 0 3 #[32, 46, 55, 68], 32) := by decide +kernel
theorem dX6_pageNumber_52 : decode cX6_pageNumber 52 = .ok (.aload_n 3, 1) := by decide +kernel
theorem dX6_pageNumber_53 : decode cX6_pageNumber 53 = .ok (.iload_n 1, 1) := by decide +kernel
theorem dX6_pageNumber_54 : decode cX6_pageNumber 54 = .ok (.invokevirtual 239, 3) := by decide +kernel
theorem dX6_pageNumber_57 : decode cX6_pageNumber 57 = .ok (.ifCond .eq 7, 3) := by decide +kernel
theorem dX6_pageNumber_60 : decode cX6_pageNumber 60 = .ok (.iconst 1, 1) := by decide +kernel
theorem dX6_pageNumber_61 : decode cX6_pageNumber 61 = .ok (.goto 4, 3) := by decide +kernel
theorem dX6_pageNumber_64 : decode cX6_pageNumber 64 = .ok (.iconst 0, 1) := by decide +kernel
theorem dX6_pageNumber_65 : decode cX6_pageNumber 65 = .ok (.ireturn, 1) := by decide +kernel
theorem dX6_pageNumber_66 : decode cX6_pageNumber 66 = .ok (.aload_n 3, 1) := by decide +kernel
theorem dX6_pageNumber_67 : decode cX6_pageNumber 67 = .ok (.iload 4, 2) := by decide +kernel
theorem dX6_pageNumber_69 : decode cX6_pageNumber 69 = .ok (.iload 5, 2) := by decide +kernel
theorem dX6_pageNumber_71 : decode cX6_pageNumber 71 = .ok (.invokevirtual 242, 3) := by decide +kernel
theorem dX6_pageNumber_74 : decode cX6_pageNumber 74 = .ok (.ireturn, 1) := by decide +kernel
theorem dX6_pageNumber_75 : decode cX6_pageNumber 75 = .ok (.aload_n 3, 1) := by decide +kernel
theorem dX6_pageNumber_76 : decode cX6_pageNumber 76 = .ok (.iload 4, 2) := by decide +kernel
theorem dX6_pageNumber_78 : decode cX6_pageNumber 78 = .ok (.iload 5, 2) := by decide +kernel
theorem dX6_pageNumber_80 : decode cX6_pageNumber 80 = .ok (.aload_n 3, 1) := by decide +kernel
theorem dX6_pageNumber_81 : decode cX6_pageNumber 81 = .ok (.getfield 99, 3) := by decide +kernel
theorem dX6_pageNumber_84 : decode cX6_pageNumber 84 = .ok (.invokevirtual 245, 3) := by decide +kernel
theorem dX6_pageNumber_87 : decode cX6_pageNumber 87 = .ok (.ireturn, 1) := by decide +kernel
theorem dX6_pageNumber_88 : decode cX6_pageNumber 88 = .ok (.aload_n 3, 1) := by decide +kernel
theorem dX6_pageNumber_89 : decode cX6_pageNumber 89 = .ok (.iload 4, 2) := by decide +kernel
theorem dX6_pageNumber_91 : decode cX6_pageNumber 91 = .ok (.iload 5, 2) := by decide +kernel
theorem dX6_pageNumber_93 : decode cX6_pageNumber 93 = .ok (.aload_n 0, 1) := by decide +kernel
theorem dX6_pageNumber_94 : decode cX6_pageNumber 94 = .ok (.getfield 12, 3) := by decide +kernel
theorem dX6_pageNumber_97 : decode cX6_pageNumber 97 = .ok (.invokevirtual 107, 3) := by decide +kernel
theorem dX6_pageNumber_100 : decode cX6_pageNumber 100 = .ok (.invokevirtual 248, 3) := by decide +kernel
theorem dX6_pageNumber_103 : decode cX6_pageNumber 103 = .ok (.ireturn, 1) := by decide +kernel
theorem dX6_pageNumber_104 : decode cX6_pageNumber 104 = .ok (.aload_n 3, 1) := by decide +kernel
theorem dX6_pageNumber_105 : decode cX6_pageNumber 105 = .ok (.getfield 251, 3) := by decide +kernel
theorem dX6_pageNumber_108 : decode cX6_pageNumber 108 = .ok (.iload_n 1, 1) := by decide +kernel
theorem dX6_pageNumber_109 : decode cX6_pageNumber 109 = .ok (.iaload, 1) := by decide +kernel
theorem dX6_pageNumber_110 : decode cX6_pageNumber 110 = .ok (.ireturn, 1) := by decide +kernel
theorem dX6_askerNumber_0 : decode cX6_askerNumber 0 = .ok (.aload_n 0, 1) := by decide +kernel
theorem dX6_askerNumber_1 : decode cX6_askerNumber 1 = .ok (.getfield 12, 3) := by decide +kernel
theorem dX6_askerNumber_4 : decode cX6_askerNumber 4 = .ok (.getfield 90, 3) := by decide +kernel
theorem dX6_askerNumber_7 : decode cX6_askerNumber 7 = .ok (.getfield 94, 3) := by decide +kernel
theorem dX6_askerNumber_10 : decode cX6_askerNumber 10 = .ok (.iload_n 1, 1) := by decide +kernel
theorem dX6_askerNumber_11 : decode cX6_askerNumber 11 = .ok (.iaload, 1) := by decide +kernel
theorem dX6_askerNumber_12 : decode cX6_askerNumber 12 = .ok (.istore_n 3, 1) := by decide +kernel
theorem dX6_askerNumber_13 : decode cX6_askerNumber 13 = .ok (.iload_n 2, 1) := by decide +kernel
theorem dX6_askerNumber_14 : decode cX6_askerNumber 14 = .ok (.lookupswitch 52 #[(0, 26), (1, 28)], 26) := by decide +kernel
theorem dX6_askerNumber_40 : decode cX6_askerNumber 40 = .ok (.iload_n 3, 1) := by decide +kernel
theorem dX6_askerNumber_41 : decode cX6_askerNumber 41 = .ok (.ireturn, 1) := by decide +kernel
theorem dX6_askerNumber_42 : decode cX6_askerNumber 42 = .ok (.iload_n 3, 1) := by decide +kernel
theorem dX6_askerNumber_43 : decode cX6_askerNumber 43 = .ok (.iconst (-1), 1) := by decide +kernel
theorem dX6_askerNumber_44 : decode cX6_askerNumber 44 = .ok (.if_icmp .ne 7, 3) := by decide +kernel
theorem dX6_askerNumber_47 : decode cX6_askerNumber 47 = .ok (.iconst (-1), 1) := by decide +kernel
theorem dX6_askerNumber_48 : decode cX6_askerNumber 48 = .ok (.goto 17, 3) := by decide +kernel
theorem dX6_askerNumber_51 : decode cX6_askerNumber 51 = .ok (.aload_n 0, 1) := by decide +kernel
theorem dX6_askerNumber_52 : decode cX6_askerNumber 52 = .ok (.getfield 12, 3) := by decide +kernel
theorem dX6_askerNumber_55 : decode cX6_askerNumber 55 = .ok (.getfield 41, 3) := by decide +kernel
theorem dX6_askerNumber_58 : decode cX6_askerNumber 58 = .ok (.iconst 0, 1) := by decide +kernel
theorem dX6_askerNumber_59 : decode cX6_askerNumber 59 = .ok (.bipush 24, 2) := by decide +kernel
theorem dX6_askerNumber_61 : decode cX6_askerNumber 61 = .ok (.iload_n 3, 1) := by decide +kernel
theorem dX6_askerNumber_62 : decode cX6_askerNumber 62 = .ok (.invokevirtual 245, 3) := by decide +kernel
theorem dX6_askerNumber_65 : decode cX6_askerNumber 65 = .ok (.ireturn, 1) := by decide +kernel
theorem dX6_askerNumber_66 : decode cX6_askerNumber 66 = .ok (.aload_n 0, 1) := by decide +kernel
theorem dX6_askerNumber_67 : decode cX6_askerNumber 67 = .ok (.getfield 12, 3) := by decide +kernel
theorem dX6_askerNumber_70 : decode cX6_askerNumber 70 = .ok (.getfield 90, 3) := by decide +kernel
theorem dX6_askerNumber_73 : decode cX6_askerNumber 73 = .ok (.getfield 119, 3) := by decide +kernel
theorem dX6_askerNumber_76 : decode cX6_askerNumber 76 = .ok (.iload_n 1, 1) := by decide +kernel
theorem dX6_askerNumber_77 : decode cX6_askerNumber 77 = .ok (.iaload, 1) := by decide +kernel
theorem dX6_askerNumber_78 : decode cX6_askerNumber 78 = .ok (.ireturn, 1) := by decide +kernel
theorem dX6_countNumber_0 : decode cX6_countNumber 0 = .ok (.aload_n 0, 1) := by decide +kernel
theorem dX6_countNumber_1 : decode cX6_countNumber 1 = .ok (.getfield 12, 3) := by decide +kernel
theorem dX6_countNumber_4 : decode cX6_countNumber 4 = .ok (.getfield 41, 3) := by decide +kernel
theorem dX6_countNumber_7 : decode cX6_countNumber 7 = .ok (.astore_n 2, 1) := by decide +kernel
theorem dX6_countNumber_8 : decode cX6_countNumber 8 = .ok (.iload_n 1, 1) := by decide +kernel
theorem dX6_countNumber_9 : decode cX6_countNumber 9 = .ok (.tableswitch 178 0 11 #[63, 68, 76, 84, 96, 107, 112, 125, 138, 151, 162, 173], 63) := by decide +kernel
theorem dX6_countNumber_72 : decode cX6_countNumber 72 = .ok (.aload_n 2, 1) := by decide +kernel
theorem dX6_countNumber_73 : decode cX6_countNumber 73 = .ok (.getfield 99, 3) := by decide +kernel
theorem dX6_countNumber_76 : decode cX6_countNumber 76 = .ok (.ireturn, 1) := by decide +kernel
theorem dX6_countNumber_77 : decode cX6_countNumber 77 = .ok (.aload_n 0, 1) := by decide +kernel
theorem dX6_countNumber_78 : decode cX6_countNumber 78 = .ok (.getfield 12, 3) := by decide +kernel
theorem dX6_countNumber_81 : decode cX6_countNumber 81 = .ok (.invokevirtual 107, 3) := by decide +kernel
theorem dX6_countNumber_84 : decode cX6_countNumber 84 = .ok (.ireturn, 1) := by decide +kernel
theorem dX6_countNumber_85 : decode cX6_countNumber 85 = .ok (.aload_n 2, 1) := by decide +kernel
theorem dX6_countNumber_86 : decode cX6_countNumber 86 = .ok (.iconst 0, 1) := by decide +kernel
theorem dX6_countNumber_87 : decode cX6_countNumber 87 = .ok (.bipush 24, 2) := by decide +kernel
theorem dX6_countNumber_89 : decode cX6_countNumber 89 = .ok (.invokevirtual 242, 3) := by decide +kernel
theorem dX6_countNumber_92 : decode cX6_countNumber 92 = .ok (.ireturn, 1) := by decide +kernel
theorem dX6_countNumber_93 : decode cX6_countNumber 93 = .ok (.aload_n 2, 1) := by decide +kernel
theorem dX6_countNumber_94 : decode cX6_countNumber 94 = .ok (.iconst 0, 1) := by decide +kernel
theorem dX6_countNumber_95 : decode cX6_countNumber 95 = .ok (.bipush 24, 2) := by decide +kernel
theorem dX6_countNumber_97 : decode cX6_countNumber 97 = .ok (.aload_n 2, 1) := by decide +kernel
theorem dX6_countNumber_98 : decode cX6_countNumber 98 = .ok (.getfield 99, 3) := by decide +kernel
theorem dX6_countNumber_101 : decode cX6_countNumber 101 = .ok (.invokevirtual 245, 3) := by decide +kernel
theorem dX6_countNumber_104 : decode cX6_countNumber 104 = .ok (.ireturn, 1) := by decide +kernel
theorem dX6_countNumber_105 : decode cX6_countNumber 105 = .ok (.bipush 24, 2) := by decide +kernel
theorem dX6_countNumber_107 : decode cX6_countNumber 107 = .ok (.aload_n 2, 1) := by decide +kernel
theorem dX6_countNumber_108 : decode cX6_countNumber 108 = .ok (.iconst 0, 1) := by decide +kernel
theorem dX6_countNumber_109 : decode cX6_countNumber 109 = .ok (.bipush 24, 2) := by decide +kernel
theorem dX6_countNumber_111 : decode cX6_countNumber 111 = .ok (.invokevirtual 242, 3) := by decide +kernel
theorem dX6_countNumber_114 : decode cX6_countNumber 114 = .ok (.isub, 1) := by decide +kernel
theorem dX6_countNumber_115 : decode cX6_countNumber 115 = .ok (.ireturn, 1) := by decide +kernel
theorem dX6_countNumber_116 : decode cX6_countNumber 116 = .ok (.aload_n 2, 1) := by decide +kernel
theorem dX6_countNumber_117 : decode cX6_countNumber 117 = .ok (.invokevirtual 114, 3) := by decide +kernel
theorem dX6_countNumber_120 : decode cX6_countNumber 120 = .ok (.ireturn, 1) := by decide +kernel
theorem dX6_countNumber_121 : decode cX6_countNumber 121 = .ok (.aload_n 0, 1) := by decide +kernel
theorem dX6_countNumber_122 : decode cX6_countNumber 122 = .ok (.getfield 12, 3) := by decide +kernel
theorem dX6_countNumber_125 : decode cX6_countNumber 125 = .ok (.getfield 122, 3) := by decide +kernel
theorem dX6_countNumber_128 : decode cX6_countNumber 128 = .ok (.getfield 254, 3) := by decide +kernel
theorem dX6_countNumber_131 : decode cX6_countNumber 131 = .ok (.iconst 0, 1) := by decide +kernel
theorem dX6_countNumber_132 : decode cX6_countNumber 132 = .ok (.iaload, 1) := by decide +kernel
theorem dX6_countNumber_133 : decode cX6_countNumber 133 = .ok (.ireturn, 1) := by decide +kernel
theorem dX6_countNumber_134 : decode cX6_countNumber 134 = .ok (.aload_n 0, 1) := by decide +kernel
theorem dX6_countNumber_135 : decode cX6_countNumber 135 = .ok (.getfield 12, 3) := by decide +kernel
theorem dX6_countNumber_138 : decode cX6_countNumber 138 = .ok (.getfield 122, 3) := by decide +kernel
theorem dX6_countNumber_141 : decode cX6_countNumber 141 = .ok (.getfield 254, 3) := by decide +kernel
theorem dX6_countNumber_144 : decode cX6_countNumber 144 = .ok (.iconst 1, 1) := by decide +kernel
theorem dX6_countNumber_145 : decode cX6_countNumber 145 = .ok (.iaload, 1) := by decide +kernel
theorem dX6_countNumber_146 : decode cX6_countNumber 146 = .ok (.ireturn, 1) := by decide +kernel
theorem dX6_countNumber_147 : decode cX6_countNumber 147 = .ok (.aload_n 0, 1) := by decide +kernel
theorem dX6_countNumber_148 : decode cX6_countNumber 148 = .ok (.getfield 12, 3) := by decide +kernel
theorem dX6_countNumber_151 : decode cX6_countNumber 151 = .ok (.getfield 122, 3) := by decide +kernel
theorem dX6_countNumber_154 : decode cX6_countNumber 154 = .ok (.getfield 254, 3) := by decide +kernel
theorem dX6_countNumber_157 : decode cX6_countNumber 157 = .ok (.iconst 2, 1) := by decide +kernel
theorem dX6_countNumber_158 : decode cX6_countNumber 158 = .ok (.iaload, 1) := by decide +kernel
theorem dX6_countNumber_159 : decode cX6_countNumber 159 = .ok (.ireturn, 1) := by decide +kernel
theorem dX6_countNumber_160 : decode cX6_countNumber 160 = .ok (.aload_n 0, 1) := by decide +kernel
theorem dX6_countNumber_161 : decode cX6_countNumber 161 = .ok (.getfield 12, 3) := by decide +kernel
theorem dX6_countNumber_164 : decode cX6_countNumber 164 = .ok (.getfield 122, 3) := by decide +kernel
theorem dX6_countNumber_167 : decode cX6_countNumber 167 = .ok (.getfield 255, 3) := by decide +kernel
theorem dX6_countNumber_170 : decode cX6_countNumber 170 = .ok (.ireturn, 1) := by decide +kernel
theorem dX6_countNumber_171 : decode cX6_countNumber 171 = .ok (.aload_n 0, 1) := by decide +kernel
theorem dX6_countNumber_172 : decode cX6_countNumber 172 = .ok (.getfield 12, 3) := by decide +kernel
theorem dX6_countNumber_175 : decode cX6_countNumber 175 = .ok (.getfield 122, 3) := by decide +kernel
theorem dX6_countNumber_178 : decode cX6_countNumber 178 = .ok (.getfield 258, 3) := by decide +kernel
theorem dX6_countNumber_181 : decode cX6_countNumber 181 = .ok (.ireturn, 1) := by decide +kernel
theorem dX6_countNumber_182 : decode cX6_countNumber 182 = .ok (.aload_n 2, 1) := by decide +kernel
theorem dX6_countNumber_183 : decode cX6_countNumber 183 = .ok (.getfield 261, 3) := by decide +kernel
theorem dX6_countNumber_186 : decode cX6_countNumber 186 = .ok (.ireturn, 1) := by decide +kernel
theorem dX6_countNumber_187 : decode cX6_countNumber 187 = .ok (.aload_n 0, 1) := by decide +kernel
theorem dX6_countNumber_188 : decode cX6_countNumber 188 = .ok (.getfield 19, 3) := by decide +kernel
theorem dX6_countNumber_191 : decode cX6_countNumber 191 = .ok (.getfield 166, 3) := by decide +kernel
theorem dX6_countNumber_194 : decode cX6_countNumber 194 = .ok (.ireturn, 1) := by decide +kernel
theorem dX6_mostHolding_0 : decode cX6_mostHolding 0 = .ok (.iconst (-1), 1) := by decide +kernel
theorem dX6_mostHolding_1 : decode cX6_mostHolding 1 = .ok (.istore_n 1, 1) := by decide +kernel
theorem dX6_mostHolding_2 : decode cX6_mostHolding 2 = .ok (.aload_n 0, 1) := by decide +kernel
theorem dX6_mostHolding_3 : decode cX6_mostHolding 3 = .ok (.getfield 12, 3) := by decide +kernel
theorem dX6_mostHolding_6 : decode cX6_mostHolding 6 = .ok (.getfield 41, 3) := by decide +kernel
theorem dX6_mostHolding_9 : decode cX6_mostHolding 9 = .ok (.iconst 0, 1) := by decide +kernel
theorem dX6_mostHolding_10 : decode cX6_mostHolding 10 = .ok (.bipush 24, 2) := by decide +kernel
theorem dX6_mostHolding_12 : decode cX6_mostHolding 12 = .ok (.aload_n 0, 1) := by decide +kernel
theorem dX6_mostHolding_13 : decode cX6_mostHolding 13 = .ok (.getfield 12, 3) := by decide +kernel
theorem dX6_mostHolding_16 : decode cX6_mostHolding 16 = .ok (.invokevirtual 107, 3) := by decide +kernel
theorem dX6_mostHolding_19 : decode cX6_mostHolding 19 = .ok (.invokevirtual 248, 3) := by decide +kernel
theorem dX6_mostHolding_22 : decode cX6_mostHolding 22 = .ok (.istore_n 2, 1) := by decide +kernel
theorem dX6_mostHolding_23 : decode cX6_mostHolding 23 = .ok (.iconst 0, 1) := by decide +kernel
theorem dX6_mostHolding_24 : decode cX6_mostHolding 24 = .ok (.istore_n 3, 1) := by decide +kernel
theorem dX6_mostHolding_25 : decode cX6_mostHolding 25 = .ok (.iload_n 3, 1) := by decide +kernel
theorem dX6_mostHolding_26 : decode cX6_mostHolding 26 = .ok (.iconst 4, 1) := by decide +kernel
theorem dX6_mostHolding_27 : decode cX6_mostHolding 27 = .ok (.if_icmp .ge 60, 3) := by decide +kernel
theorem dX6_mostHolding_30 : decode cX6_mostHolding 30 = .ok (.aload_n 0, 1) := by decide +kernel
theorem dX6_mostHolding_31 : decode cX6_mostHolding 31 = .ok (.getfield 12, 3) := by decide +kernel
theorem dX6_mostHolding_34 : decode cX6_mostHolding 34 = .ok (.getfield 90, 3) := by decide +kernel
theorem dX6_mostHolding_37 : decode cX6_mostHolding 37 = .ok (.iload_n 3, 1) := by decide +kernel
theorem dX6_mostHolding_38 : decode cX6_mostHolding 38 = .ok (.aload_n 0, 1) := by decide +kernel
theorem dX6_mostHolding_39 : decode cX6_mostHolding 39 = .ok (.getfield 12, 3) := by decide +kernel
theorem dX6_mostHolding_42 : decode cX6_mostHolding 42 = .ok (.getfield 41, 3) := by decide +kernel
theorem dX6_mostHolding_45 : decode cX6_mostHolding 45 = .ok (.getfield 99, 3) := by decide +kernel
theorem dX6_mostHolding_48 : decode cX6_mostHolding 48 = .ok (.invokevirtual 264, 3) := by decide +kernel
theorem dX6_mostHolding_51 : decode cX6_mostHolding 51 = .ok (.istore 4, 2) := by decide +kernel
theorem dX6_mostHolding_53 : decode cX6_mostHolding 53 = .ok (.aload_n 0, 1) := by decide +kernel
theorem dX6_mostHolding_54 : decode cX6_mostHolding 54 = .ok (.getfield 12, 3) := by decide +kernel
theorem dX6_mostHolding_57 : decode cX6_mostHolding 57 = .ok (.getfield 41, 3) := by decide +kernel
theorem dX6_mostHolding_60 : decode cX6_mostHolding 60 = .ok (.iconst 0, 1) := by decide +kernel
theorem dX6_mostHolding_61 : decode cX6_mostHolding 61 = .ok (.bipush 24, 2) := by decide +kernel
theorem dX6_mostHolding_63 : decode cX6_mostHolding 63 = .ok (.iload 4, 2) := by decide +kernel
theorem dX6_mostHolding_65 : decode cX6_mostHolding 65 = .ok (.invokevirtual 248, 3) := by decide +kernel
theorem dX6_mostHolding_68 : decode cX6_mostHolding 68 = .ok (.istore 5, 2) := by decide +kernel
theorem dX6_mostHolding_70 : decode cX6_mostHolding 70 = .ok (.iload 5, 2) := by decide +kernel
theorem dX6_mostHolding_72 : decode cX6_mostHolding 72 = .ok (.iload_n 2, 1) := by decide +kernel
theorem dX6_mostHolding_73 : decode cX6_mostHolding 73 = .ok (.if_icmp .le 8, 3) := by decide +kernel
theorem dX6_mostHolding_76 : decode cX6_mostHolding 76 = .ok (.iload 5, 2) := by decide +kernel
theorem dX6_mostHolding_78 : decode cX6_mostHolding 78 = .ok (.istore_n 2, 1) := by decide +kernel
theorem dX6_mostHolding_79 : decode cX6_mostHolding 79 = .ok (.iload_n 3, 1) := by decide +kernel
theorem dX6_mostHolding_80 : decode cX6_mostHolding 80 = .ok (.istore_n 1, 1) := by decide +kernel
theorem dX6_mostHolding_81 : decode cX6_mostHolding 81 = .ok (.iinc 3 1, 3) := by decide +kernel
theorem dX6_mostHolding_84 : decode cX6_mostHolding 84 = .ok (.goto (-59), 3) := by decide +kernel
theorem dX6_mostHolding_87 : decode cX6_mostHolding 87 = .ok (.iload_n 1, 1) := by decide +kernel
theorem dX6_mostHolding_88 : decode cX6_mostHolding 88 = .ok (.ireturn, 1) := by decide +kernel
theorem dX6_markedShare_0 : decode cX6_markedShare 0 = .ok (.aload_n 0, 1) := by decide +kernel
theorem dX6_markedShare_1 : decode cX6_markedShare 1 = .ok (.getfield 12, 3) := by decide +kernel
theorem dX6_markedShare_4 : decode cX6_markedShare 4 = .ok (.getfield 41, 3) := by decide +kernel
theorem dX6_markedShare_7 : decode cX6_markedShare 7 = .ok (.invokevirtual 114, 3) := by decide +kernel
theorem dX6_markedShare_10 : decode cX6_markedShare 10 = .ok (.i2d, 1) := by decide +kernel
theorem dX6_markedShare_11 : decode cX6_markedShare 11 = .ok (.ldc2_w 267, 3) := by decide +kernel
theorem dX6_markedShare_14 : decode cX6_markedShare 14 = .ok (.ddiv, 1) := by decide +kernel
theorem dX6_markedShare_15 : decode cX6_markedShare 15 = .ok (.dreturn, 1) := by decide +kernel
theorem dX6_makeParts_0 : decode cX6_makeParts 0 = .ok (.iconst 0, 1) := by decide +kernel
theorem dX6_makeParts_1 : decode cX6_makeParts 1 = .ok (.istore_n 1, 1) := by decide +kernel
theorem dX6_makeParts_2 : decode cX6_makeParts 2 = .ok (.aload_n 0, 1) := by decide +kernel
theorem dX6_makeParts_3 : decode cX6_makeParts 3 = .ok (.getfield 26, 3) := by decide +kernel
theorem dX6_makeParts_6 : decode cX6_makeParts 6 = .ok (.invokevirtual 269, 3) := by decide +kernel
theorem dX6_makeParts_9 : decode cX6_makeParts 9 = .ok (.iconst 0, 1) := by decide +kernel
theorem dX6_makeParts_10 : decode cX6_makeParts 10 = .ok (.istore_n 2, 1) := by decide +kernel
theorem dX6_makeParts_11 : decode cX6_makeParts 11 = .ok (.iload_n 2, 1) := by decide +kernel
theorem dX6_makeParts_12 : decode cX6_makeParts 12 = .ok (.bipush 60, 2) := by decide +kernel
theorem dX6_makeParts_14 : decode cX6_makeParts 14 = .ok (.if_icmp .ge 55, 3) := by decide +kernel
theorem dX6_makeParts_17 : decode cX6_makeParts 17 = .ok (.aload_n 0, 1) := by decide +kernel
theorem dX6_makeParts_18 : decode cX6_makeParts 18 = .ok (.getfield 26, 3) := by decide +kernel
theorem dX6_makeParts_21 : decode cX6_makeParts 21 = .ok (.invokevirtual 272, 3) := by decide +kernel
theorem dX6_makeParts_24 : decode cX6_makeParts 24 = .ok (.ifCond .eq 45, 3) := by decide +kernel
theorem dX6_makeParts_27 : decode cX6_makeParts 27 = .ok (.aload_n 0, 1) := by decide +kernel
theorem dX6_makeParts_28 : decode cX6_makeParts 28 = .ok (.getfield 12, 3) := by decide +kernel
theorem dX6_makeParts_31 : decode cX6_makeParts 31 = .ok (.aload_n 0, 1) := by decide +kernel
theorem dX6_makeParts_32 : decode cX6_makeParts 32 = .ok (.getfield 26, 3) := by decide +kernel
theorem dX6_makeParts_35 : decode cX6_makeParts 35 = .ok (.getfield 275, 3) := by decide +kernel
theorem dX6_makeParts_38 : decode cX6_makeParts 38 = .ok (.aload_n 0, 1) := by decide +kernel
theorem dX6_makeParts_39 : decode cX6_makeParts 39 = .ok (.getfield 26, 3) := by decide +kernel
theorem dX6_makeParts_42 : decode cX6_makeParts 42 = .ok (.getfield 279, 3) := by decide +kernel
theorem dX6_makeParts_45 : decode cX6_makeParts 45 = .ok (.aload_n 0, 1) := by decide +kernel
theorem dX6_makeParts_46 : decode cX6_makeParts 46 = .ok (.getfield 26, 3) := by decide +kernel
theorem dX6_makeParts_49 : decode cX6_makeParts 49 = .ok (.getfield 282, 3) := by decide +kernel
theorem dX6_makeParts_52 : decode cX6_makeParts 52 = .ok (.invokevirtual 285, 3) := by decide +kernel
theorem dX6_makeParts_55 : decode cX6_makeParts 55 = .ok (.ifCond .ne 5, 3) := by decide +kernel
theorem dX6_makeParts_58 : decode cX6_makeParts 58 = .ok (.iload_n 1, 1) := by decide +kernel
theorem dX6_makeParts_59 : decode cX6_makeParts 59 = .ok (.ireturn, 1) := by decide +kernel
theorem dX6_makeParts_60 : decode cX6_makeParts 60 = .ok (.iinc 1 1, 3) := by decide +kernel
theorem dX6_makeParts_63 : decode cX6_makeParts 63 = .ok (.iinc 2 1, 3) := by decide +kernel
theorem dX6_makeParts_66 : decode cX6_makeParts 66 = .ok (.goto (-55), 3) := by decide +kernel
theorem dX6_makeParts_69 : decode cX6_makeParts 69 = .ok (.iload_n 1, 1) := by decide +kernel
theorem dX6_makeParts_70 : decode cX6_makeParts 70 = .ok (.ireturn, 1) := by decide +kernel
theorem dX6_mix_0 : decode cX6_mix 0 = .ok (.ldc2_w 289, 3) := by decide +kernel
theorem dX6_mix_3 : decode cX6_mix 3 = .ok (.lload_n 0, 1) := by decide +kernel
theorem dX6_mix_4 : decode cX6_mix 4 = .ok (.lmul, 1) := by decide +kernel
theorem dX6_mix_5 : decode cX6_mix 5 = .ok (.lload_n 2, 1) := by decide +kernel
theorem dX6_mix_6 : decode cX6_mix 6 = .ok (.ladd, 1) := by decide +kernel
theorem dX6_mix_7 : decode cX6_mix 7 = .ok (.lreturn, 1) := by decide +kernel
theorem dX6_mixParts_0 : decode cX6_mixParts 0 = .ok (.lload_n 1, 1) := by decide +kernel
theorem dX6_mixParts_1 : decode cX6_mixParts 1 = .ok (.lstore_n 3, 1) := by decide +kernel
theorem dX6_mixParts_2 : decode cX6_mixParts 2 = .ok (.iconst 0, 1) := by decide +kernel
theorem dX6_mixParts_3 : decode cX6_mixParts 3 = .ok (.istore 5, 2) := by decide +kernel
theorem dX6_mixParts_5 : decode cX6_mixParts 5 = .ok (.iload 5, 2) := by decide +kernel
theorem dX6_mixParts_7 : decode cX6_mixParts 7 = .ok (.bipush 24, 2) := by decide +kernel
theorem dX6_mixParts_9 : decode cX6_mixParts 9 = .ok (.if_icmp .ge 38, 3) := by decide +kernel
theorem dX6_mixParts_12 : decode cX6_mixParts 12 = .ok (.iconst 0, 1) := by decide +kernel
theorem dX6_mixParts_13 : decode cX6_mixParts 13 = .ok (.istore 6, 2) := by decide +kernel
theorem dX6_mixParts_15 : decode cX6_mixParts 15 = .ok (.iload 6, 2) := by decide +kernel
theorem dX6_mixParts_17 : decode cX6_mixParts 17 = .ok (.iconst 4, 1) := by decide +kernel
theorem dX6_mixParts_18 : decode cX6_mixParts 18 = .ok (.if_icmp .ge 23, 3) := by decide +kernel
theorem dX6_mixParts_21 : decode cX6_mixParts 21 = .ok (.lload_n 3, 1) := by decide +kernel
theorem dX6_mixParts_22 : decode cX6_mixParts 22 = .ok (.aload_n 0, 1) := by decide +kernel
theorem dX6_mixParts_23 : decode cX6_mixParts 23 = .ok (.iload 5, 2) := by decide +kernel
theorem dX6_mixParts_25 : decode cX6_mixParts 25 = .ok (.iload 6, 2) := by decide +kernel
theorem dX6_mixParts_27 : decode cX6_mixParts 27 = .ok (.invokevirtual 176, 3) := by decide +kernel
theorem dX6_mixParts_30 : decode cX6_mixParts 30 = .ok (.i2l, 1) := by decide +kernel
theorem dX6_mixParts_31 : decode cX6_mixParts 31 = .ok (.invokestatic 213, 3) := by decide +kernel
theorem dX6_mixParts_34 : decode cX6_mixParts 34 = .ok (.lstore_n 3, 1) := by decide +kernel
theorem dX6_mixParts_35 : decode cX6_mixParts 35 = .ok (.iinc 6 1, 3) := by decide +kernel
theorem dX6_mixParts_38 : decode cX6_mixParts 38 = .ok (.goto (-23), 3) := by decide +kernel
theorem dX6_mixParts_41 : decode cX6_mixParts 41 = .ok (.iinc 5 1, 3) := by decide +kernel
theorem dX6_mixParts_44 : decode cX6_mixParts 44 = .ok (.goto (-39), 3) := by decide +kernel
theorem dX6_mixParts_47 : decode cX6_mixParts 47 = .ok (.iconst 0, 1) := by decide +kernel
theorem dX6_mixParts_48 : decode cX6_mixParts 48 = .ok (.istore 5, 2) := by decide +kernel
theorem dX6_mixParts_50 : decode cX6_mixParts 50 = .ok (.iload 5, 2) := by decide +kernel
theorem dX6_mixParts_52 : decode cX6_mixParts 52 = .ok (.bipush 6, 2) := by decide +kernel
theorem dX6_mixParts_54 : decode cX6_mixParts 54 = .ok (.if_icmp .ge 38, 3) := by decide +kernel
theorem dX6_mixParts_57 : decode cX6_mixParts 57 = .ok (.iconst 0, 1) := by decide +kernel
theorem dX6_mixParts_58 : decode cX6_mixParts 58 = .ok (.istore 6, 2) := by decide +kernel
theorem dX6_mixParts_60 : decode cX6_mixParts 60 = .ok (.iload 6, 2) := by decide +kernel
theorem dX6_mixParts_62 : decode cX6_mixParts 62 = .ok (.iconst 5, 1) := by decide +kernel
theorem dX6_mixParts_63 : decode cX6_mixParts 63 = .ok (.if_icmp .ge 23, 3) := by decide +kernel
theorem dX6_mixParts_66 : decode cX6_mixParts 66 = .ok (.lload_n 3, 1) := by decide +kernel
theorem dX6_mixParts_67 : decode cX6_mixParts 67 = .ok (.aload_n 0, 1) := by decide +kernel
theorem dX6_mixParts_68 : decode cX6_mixParts 68 = .ok (.iload 5, 2) := by decide +kernel
theorem dX6_mixParts_70 : decode cX6_mixParts 70 = .ok (.iload 6, 2) := by decide +kernel
theorem dX6_mixParts_72 : decode cX6_mixParts 72 = .ok (.invokevirtual 181, 3) := by decide +kernel
theorem dX6_mixParts_75 : decode cX6_mixParts 75 = .ok (.i2l, 1) := by decide +kernel
theorem dX6_mixParts_76 : decode cX6_mixParts 76 = .ok (.invokestatic 213, 3) := by decide +kernel
theorem dX6_mixParts_79 : decode cX6_mixParts 79 = .ok (.lstore_n 3, 1) := by decide +kernel
theorem dX6_mixParts_80 : decode cX6_mixParts 80 = .ok (.iinc 6 1, 3) := by decide +kernel
theorem dX6_mixParts_83 : decode cX6_mixParts 83 = .ok (.goto (-23), 3) := by decide +kernel
theorem dX6_mixParts_86 : decode cX6_mixParts 86 = .ok (.iinc 5 1, 3) := by decide +kernel
theorem dX6_mixParts_89 : decode cX6_mixParts 89 = .ok (.goto (-39), 3) := by decide +kernel
theorem dX6_mixParts_92 : decode cX6_mixParts 92 = .ok (.iconst 0, 1) := by decide +kernel
theorem dX6_mixParts_93 : decode cX6_mixParts 93 = .ok (.istore 5, 2) := by decide +kernel
theorem dX6_mixParts_95 : decode cX6_mixParts 95 = .ok (.iload 5, 2) := by decide +kernel
theorem dX6_mixParts_97 : decode cX6_mixParts 97 = .ok (.iconst 4, 1) := by decide +kernel
theorem dX6_mixParts_98 : decode cX6_mixParts 98 = .ok (.if_icmp .ge 38, 3) := by decide +kernel
theorem dX6_mixParts_101 : decode cX6_mixParts 101 = .ok (.iconst 0, 1) := by decide +kernel
theorem dX6_mixParts_102 : decode cX6_mixParts 102 = .ok (.istore 6, 2) := by decide +kernel
theorem dX6_mixParts_104 : decode cX6_mixParts 104 = .ok (.iload 6, 2) := by decide +kernel
theorem dX6_mixParts_106 : decode cX6_mixParts 106 = .ok (.iconst 3, 1) := by decide +kernel
theorem dX6_mixParts_107 : decode cX6_mixParts 107 = .ok (.if_icmp .ge 23, 3) := by decide +kernel
theorem dX6_mixParts_110 : decode cX6_mixParts 110 = .ok (.lload_n 3, 1) := by decide +kernel
theorem dX6_mixParts_111 : decode cX6_mixParts 111 = .ok (.aload_n 0, 1) := by decide +kernel
theorem dX6_mixParts_112 : decode cX6_mixParts 112 = .ok (.iload 5, 2) := by decide +kernel
theorem dX6_mixParts_114 : decode cX6_mixParts 114 = .ok (.iload 6, 2) := by decide +kernel
theorem dX6_mixParts_116 : decode cX6_mixParts 116 = .ok (.invokevirtual 186, 3) := by decide +kernel
theorem dX6_mixParts_119 : decode cX6_mixParts 119 = .ok (.i2l, 1) := by decide +kernel
theorem dX6_mixParts_120 : decode cX6_mixParts 120 = .ok (.invokestatic 213, 3) := by decide +kernel
theorem dX6_mixParts_123 : decode cX6_mixParts 123 = .ok (.lstore_n 3, 1) := by decide +kernel
theorem dX6_mixParts_124 : decode cX6_mixParts 124 = .ok (.iinc 6 1, 3) := by decide +kernel
theorem dX6_mixParts_127 : decode cX6_mixParts 127 = .ok (.goto (-23), 3) := by decide +kernel
theorem dX6_mixParts_130 : decode cX6_mixParts 130 = .ok (.iinc 5 1, 3) := by decide +kernel
theorem dX6_mixParts_133 : decode cX6_mixParts 133 = .ok (.goto (-38), 3) := by decide +kernel
theorem dX6_mixParts_136 : decode cX6_mixParts 136 = .ok (.lload_n 3, 1) := by decide +kernel
theorem dX6_mixParts_137 : decode cX6_mixParts 137 = .ok (.lreturn, 1) := by decide +kernel
theorem dX6_mixValue_0 : decode cX6_mixValue 0 = .ok (.aload_n 0, 1) := by decide +kernel
theorem dX6_mixValue_1 : decode cX6_mixValue 1 = .ok (.getfield 12, 3) := by decide +kernel
theorem dX6_mixValue_4 : decode cX6_mixValue 4 = .ok (.getfield 41, 3) := by decide +kernel
theorem dX6_mixValue_7 : decode cX6_mixValue 7 = .ok (.astore 4, 2) := by decide +kernel
theorem dX6_mixValue_9 : decode cX6_mixValue 9 = .ok (.lload_n 1, 1) := by decide +kernel
theorem dX6_mixValue_10 : decode cX6_mixValue 10 = .ok (.lstore 5, 2) := by decide +kernel
theorem dX6_mixValue_12 : decode cX6_mixValue 12 = .ok (.iconst 0, 1) := by decide +kernel
theorem dX6_mixValue_13 : decode cX6_mixValue 13 = .ok (.istore 7, 2) := by decide +kernel
theorem dX6_mixValue_15 : decode cX6_mixValue 15 = .ok (.iload 7, 2) := by decide +kernel
theorem dX6_mixValue_17 : decode cX6_mixValue 17 = .ok (.iconst 3, 1) := by decide +kernel
theorem dX6_mixValue_18 : decode cX6_mixValue 18 = .ok (.if_icmp .ge 51, 3) := by decide +kernel
theorem dX6_mixValue_21 : decode cX6_mixValue 21 = .ok (.lload 5, 2) := by decide +kernel
theorem dX6_mixValue_23 : decode cX6_mixValue 23 = .ok (.aload 4, 2) := by decide +kernel
theorem dX6_mixValue_25 : decode cX6_mixValue 25 = .ok (.aload 4, 2) := by decide +kernel
theorem dX6_mixValue_27 : decode cX6_mixValue 27 = .ok (.getfield 99, 3) := by decide +kernel
theorem dX6_mixValue_30 : decode cX6_mixValue 30 = .ok (.iload_n 3, 1) := by decide +kernel
theorem dX6_mixValue_31 : decode cX6_mixValue 31 = .ok (.iload 7, 2) := by decide +kernel
theorem dX6_mixValue_33 : decode cX6_mixValue 33 = .ok (.invokevirtual 139, 3) := by decide +kernel
theorem dX6_mixValue_36 : decode cX6_mixValue 36 = .ok (.i2l, 1) := by decide +kernel
theorem dX6_mixValue_37 : decode cX6_mixValue 37 = .ok (.invokestatic 213, 3) := by decide +kernel
theorem dX6_mixValue_40 : decode cX6_mixValue 40 = .ok (.lstore 5, 2) := by decide +kernel
theorem dX6_mixValue_42 : decode cX6_mixValue 42 = .ok (.lload 5, 2) := by decide +kernel
theorem dX6_mixValue_44 : decode cX6_mixValue 44 = .ok (.aload 4, 2) := by decide +kernel
theorem dX6_mixValue_46 : decode cX6_mixValue 46 = .ok (.aload 4, 2) := by decide +kernel
theorem dX6_mixValue_48 : decode cX6_mixValue 48 = .ok (.getfield 99, 3) := by decide +kernel
theorem dX6_mixValue_51 : decode cX6_mixValue 51 = .ok (.iload_n 3, 1) := by decide +kernel
theorem dX6_mixValue_52 : decode cX6_mixValue 52 = .ok (.iload 7, 2) := by decide +kernel
theorem dX6_mixValue_54 : decode cX6_mixValue 54 = .ok (.invokevirtual 126, 3) := by decide +kernel
theorem dX6_mixValue_57 : decode cX6_mixValue 57 = .ok (.i2l, 1) := by decide +kernel
theorem dX6_mixValue_58 : decode cX6_mixValue 58 = .ok (.invokestatic 213, 3) := by decide +kernel
theorem dX6_mixValue_61 : decode cX6_mixValue 61 = .ok (.lstore 5, 2) := by decide +kernel
theorem dX6_mixValue_63 : decode cX6_mixValue 63 = .ok (.iinc 7 1, 3) := by decide +kernel
theorem dX6_mixValue_66 : decode cX6_mixValue 66 = .ok (.goto (-51), 3) := by decide +kernel
theorem dX6_mixValue_69 : decode cX6_mixValue 69 = .ok (.lload 5, 2) := by decide +kernel
theorem dX6_mixValue_71 : decode cX6_mixValue 71 = .ok (.aload 4, 2) := by decide +kernel
theorem dX6_mixValue_73 : decode cX6_mixValue 73 = .ok (.iload_n 3, 1) := by decide +kernel
theorem dX6_mixValue_74 : decode cX6_mixValue 74 = .ok (.invokevirtual 198, 3) := by decide +kernel
theorem dX6_mixValue_77 : decode cX6_mixValue 77 = .ok (.i2l, 1) := by decide +kernel
theorem dX6_mixValue_78 : decode cX6_mixValue 78 = .ok (.invokestatic 213, 3) := by decide +kernel
theorem dX6_mixValue_81 : decode cX6_mixValue 81 = .ok (.lstore 5, 2) := by decide +kernel
theorem dX6_mixValue_83 : decode cX6_mixValue 83 = .ok (.lload 5, 2) := by decide +kernel
theorem dX6_mixValue_85 : decode cX6_mixValue 85 = .ok (.aload 4, 2) := by decide +kernel
theorem dX6_mixValue_87 : decode cX6_mixValue 87 = .ok (.iload_n 3, 1) := by decide +kernel
theorem dX6_mixValue_88 : decode cX6_mixValue 88 = .ok (.invokevirtual 201, 3) := by decide +kernel
theorem dX6_mixValue_91 : decode cX6_mixValue 91 = .ok (.i2l, 1) := by decide +kernel
theorem dX6_mixValue_92 : decode cX6_mixValue 92 = .ok (.invokestatic 213, 3) := by decide +kernel
theorem dX6_mixValue_95 : decode cX6_mixValue 95 = .ok (.lreturn, 1) := by decide +kernel
theorem dX6_bitsOfShare_0 : decode cX6_bitsOfShare 0 = .ok (.dload_n 0, 1) := by decide +kernel
theorem dX6_bitsOfShare_1 : decode cX6_bitsOfShare 1 = .ok (.dconst 0, 1) := by decide +kernel
theorem dX6_bitsOfShare_2 : decode cX6_bitsOfShare 2 = .ok (.dcmp .g, 1) := by decide +kernel
theorem dX6_bitsOfShare_3 : decode cX6_bitsOfShare 3 = .ok (.ifCond .gt 5, 3) := by decide +kernel
theorem dX6_bitsOfShare_6 : decode cX6_bitsOfShare 6 = .ok (.lconst 0, 1) := by decide +kernel
theorem dX6_bitsOfShare_7 : decode cX6_bitsOfShare 7 = .ok (.lreturn, 1) := by decide +kernel
theorem dX6_bitsOfShare_8 : decode cX6_bitsOfShare 8 = .ok (.dload_n 0, 1) := by decide +kernel
theorem dX6_bitsOfShare_9 : decode cX6_bitsOfShare 9 = .ok (.dstore_n 2, 1) := by decide +kernel
theorem dX6_bitsOfShare_10 : decode cX6_bitsOfShare 10 = .ok (.sipush 1023, 3) := by decide +kernel
theorem dX6_bitsOfShare_13 : decode cX6_bitsOfShare 13 = .ok (.istore 4, 2) := by decide +kernel
theorem dX6_bitsOfShare_15 : decode cX6_bitsOfShare 15 = .ok (.dload_n 2, 1) := by decide +kernel
theorem dX6_bitsOfShare_16 : decode cX6_bitsOfShare 16 = .ok (.dconst 1, 1) := by decide +kernel
theorem dX6_bitsOfShare_17 : decode cX6_bitsOfShare 17 = .ok (.dcmp .g, 1) := by decide +kernel
theorem dX6_bitsOfShare_18 : decode cX6_bitsOfShare 18 = .ok (.ifCond .ge 21, 3) := by decide +kernel
theorem dX6_bitsOfShare_21 : decode cX6_bitsOfShare 21 = .ok (.iload 4, 2) := by decide +kernel
theorem dX6_bitsOfShare_23 : decode cX6_bitsOfShare 23 = .ok (.iconst 1, 1) := by decide +kernel
theorem dX6_bitsOfShare_24 : decode cX6_bitsOfShare 24 = .ok (.if_icmp .le 15, 3) := by decide +kernel
theorem dX6_bitsOfShare_27 : decode cX6_bitsOfShare 27 = .ok (.dload_n 2, 1) := by decide +kernel
theorem dX6_bitsOfShare_28 : decode cX6_bitsOfShare 28 = .ok (.ldc2_w 291, 3) := by decide +kernel
theorem dX6_bitsOfShare_31 : decode cX6_bitsOfShare 31 = .ok (.dmul, 1) := by decide +kernel
theorem dX6_bitsOfShare_32 : decode cX6_bitsOfShare 32 = .ok (.dstore_n 2, 1) := by decide +kernel
theorem dX6_bitsOfShare_33 : decode cX6_bitsOfShare 33 = .ok (.iinc 4 (-1), 3) := by decide +kernel
theorem dX6_bitsOfShare_36 : decode cX6_bitsOfShare 36 = .ok (.goto (-21), 3) := by decide +kernel
theorem dX6_bitsOfShare_39 : decode cX6_bitsOfShare 39 = .ok (.dload_n 2, 1) := by decide +kernel
theorem dX6_bitsOfShare_40 : decode cX6_bitsOfShare 40 = .ok (.dconst 1, 1) := by decide +kernel
theorem dX6_bitsOfShare_41 : decode cX6_bitsOfShare 41 = .ok (.dsub, 1) := by decide +kernel
theorem dX6_bitsOfShare_42 : decode cX6_bitsOfShare 42 = .ok (.ldc2_w 293, 3) := by decide +kernel
theorem dX6_bitsOfShare_45 : decode cX6_bitsOfShare 45 = .ok (.dmul, 1) := by decide +kernel
theorem dX6_bitsOfShare_46 : decode cX6_bitsOfShare 46 = .ok (.d2l, 1) := by decide +kernel
theorem dX6_bitsOfShare_47 : decode cX6_bitsOfShare 47 = .ok (.lstore 5, 2) := by decide +kernel
theorem dX6_bitsOfShare_49 : decode cX6_bitsOfShare 49 = .ok (.iload 4, 2) := by decide +kernel
theorem dX6_bitsOfShare_51 : decode cX6_bitsOfShare 51 = .ok (.i2l, 1) := by decide +kernel
theorem dX6_bitsOfShare_52 : decode cX6_bitsOfShare 52 = .ok (.bipush 52, 2) := by decide +kernel
theorem dX6_bitsOfShare_54 : decode cX6_bitsOfShare 54 = .ok (.lshl, 1) := by decide +kernel
theorem dX6_bitsOfShare_55 : decode cX6_bitsOfShare 55 = .ok (.lload 5, 2) := by decide +kernel
theorem dX6_bitsOfShare_57 : decode cX6_bitsOfShare 57 = .ok (.ladd, 1) := by decide +kernel
theorem dX6_bitsOfShare_58 : decode cX6_bitsOfShare 58 = .ok (.lreturn, 1) := by decide +kernel
end
section
theorem dX7_init_0 : decode cX7_init 0 = .ok (.aload_n 0, 1) := by decide +kernel
theorem dX7_init_1 : decode cX7_init 1 = .ok (.invokespecial 1, 3) := by decide +kernel
theorem dX7_init_4 : decode cX7_init 4 = .ok (.aload_n 0, 1) := by decide +kernel
theorem dX7_init_5 : decode cX7_init 5 = .ok (.bipush 99, 2) := by decide +kernel
theorem dX7_init_7 : decode cX7_init 7 = .ok (.newarray .int, 2) := by decide +kernel
theorem dX7_init_9 : decode cX7_init 9 = .ok (.putfield 7, 3) := by decide +kernel
theorem dX7_init_12 : decode cX7_init 12 = .ok (.aload_n 0, 1) := by decide +kernel
theorem dX7_init_13 : decode cX7_init 13 = .ok (.sipush 594, 3) := by decide +kernel
theorem dX7_init_16 : decode cX7_init 16 = .ok (.newarray .int, 2) := by decide +kernel
theorem dX7_init_18 : decode cX7_init 18 = .ok (.putfield 13, 3) := by decide +kernel
theorem dX7_init_21 : decode cX7_init 21 = .ok (.aload_n 0, 1) := by decide +kernel
theorem dX7_init_22 : decode cX7_init 22 = .ok (.bipush 60, 2) := by decide +kernel
theorem dX7_init_24 : decode cX7_init 24 = .ok (.newarray .int, 2) := by decide +kernel
theorem dX7_init_26 : decode cX7_init 26 = .ok (.putfield 16, 3) := by decide +kernel
theorem dX7_init_29 : decode cX7_init 29 = .ok (.aload_n 0, 1) := by decide +kernel
theorem dX7_init_30 : decode cX7_init 30 = .ok (.bipush 93, 2) := by decide +kernel
theorem dX7_init_32 : decode cX7_init 32 = .ok (.newarray .int, 2) := by decide +kernel
theorem dX7_init_34 : decode cX7_init 34 = .ok (.putfield 19, 3) := by decide +kernel
theorem dX7_init_37 : decode cX7_init 37 = .ok (.aload_n 0, 1) := by decide +kernel
theorem dX7_init_38 : decode cX7_init 38 = .ok (.iconst 0, 1) := by decide +kernel
theorem dX7_init_39 : decode cX7_init 39 = .ok (.putfield 22, 3) := by decide +kernel
theorem dX7_init_42 : decode cX7_init 42 = .ok (.return_, 1) := by decide +kernel
theorem dX7_thrown_0 : decode cX7_thrown 0 = .ok (.aload_n 0, 1) := by decide +kernel
theorem dX7_thrown_1 : decode cX7_thrown 1 = .ok (.getfield 22, 3) := by decide +kernel
theorem dX7_thrown_4 : decode cX7_thrown 4 = .ok (.ireturn, 1) := by decide +kernel
theorem dX7_in_0 : decode cX7_in 0 = .ok (.iload_n 0, 1) := by decide +kernel
theorem dX7_in_1 : decode cX7_in 1 = .ok (.iload_n 1, 1) := by decide +kernel
theorem dX7_in_2 : decode cX7_in 2 = .ok (.if_icmp .lt 12, 3) := by decide +kernel
theorem dX7_in_5 : decode cX7_in 5 = .ok (.iload_n 0, 1) := by decide +kernel
theorem dX7_in_6 : decode cX7_in 6 = .ok (.iload_n 2, 1) := by decide +kernel
theorem dX7_in_7 : decode cX7_in 7 = .ok (.if_icmp .gt 7, 3) := by decide +kernel
theorem dX7_in_10 : decode cX7_in 10 = .ok (.iconst 1, 1) := by decide +kernel
theorem dX7_in_11 : decode cX7_in 11 = .ok (.goto 4, 3) := by decide +kernel
theorem dX7_in_14 : decode cX7_in 14 = .ok (.iconst 0, 1) := by decide +kernel
theorem dX7_in_15 : decode cX7_in 15 = .ok (.ireturn, 1) := by decide +kernel
theorem dX7_fails_0 : decode cX7_fails 0 = .ok (.aload_n 0, 1) := by decide +kernel
theorem dX7_fails_1 : decode cX7_fails 1 = .ok (.iload_n 1, 1) := by decide +kernel
theorem dX7_fails_2 : decode cX7_fails 2 = .ok (.putfield 22, 3) := by decide +kernel
theorem dX7_fails_5 : decode cX7_fails 5 = .ok (.iconst 0, 1) := by decide +kernel
theorem dX7_fails_6 : decode cX7_fails 6 = .ok (.ireturn, 1) := by decide +kernel
theorem dX7_of_0 : decode cX7_of 0 = .ok (.aload_n 0, 1) := by decide +kernel
theorem dX7_of_1 : decode cX7_of 1 = .ok (.getfield 7, 3) := by decide +kernel
theorem dX7_of_4 : decode cX7_of 4 = .ok (.bipush 7, 2) := by decide +kernel
theorem dX7_of_6 : decode cX7_of 6 = .ok (.iconst 3, 1) := by decide +kernel
theorem dX7_of_7 : decode cX7_of 7 = .ok (.iload_n 1, 1) := by decide +kernel
theorem dX7_of_8 : decode cX7_of 8 = .ok (.imul, 1) := by decide +kernel
theorem dX7_of_9 : decode cX7_of 9 = .ok (.iadd, 1) := by decide +kernel
theorem dX7_of_10 : decode cX7_of 10 = .ok (.iload_n 2, 1) := by decide +kernel
theorem dX7_of_11 : decode cX7_of 11 = .ok (.iadd, 1) := by decide +kernel
theorem dX7_of_12 : decode cX7_of 12 = .ok (.iaload, 1) := by decide +kernel
theorem dX7_of_13 : decode cX7_of 13 = .ok (.ireturn, 1) := by decide +kernel
theorem dX7_lay_0 : decode cX7_lay 0 = .ok (.aload_n 0, 1) := by decide +kernel
theorem dX7_lay_1 : decode cX7_lay 1 = .ok (.getfield 7, 3) := by decide +kernel
theorem dX7_lay_4 : decode cX7_lay 4 = .ok (.bipush 7, 2) := by decide +kernel
theorem dX7_lay_6 : decode cX7_lay 6 = .ok (.iconst 3, 1) := by decide +kernel
theorem dX7_lay_7 : decode cX7_lay 7 = .ok (.iload_n 1, 1) := by decide +kernel
theorem dX7_lay_8 : decode cX7_lay 8 = .ok (.imul, 1) := by decide +kernel
theorem dX7_lay_9 : decode cX7_lay 9 = .ok (.iadd, 1) := by decide +kernel
theorem dX7_lay_10 : decode cX7_lay 10 = .ok (.iconst 0, 1) := by decide +kernel
theorem dX7_lay_11 : decode cX7_lay 11 = .ok (.iadd, 1) := by decide +kernel
theorem dX7_lay_12 : decode cX7_lay 12 = .ok (.iload_n 2, 1) := by decide +kernel
theorem dX7_lay_13 : decode cX7_lay 13 = .ok (.iastore, 1) := by decide +kernel
theorem dX7_lay_14 : decode cX7_lay 14 = .ok (.aload_n 0, 1) := by decide +kernel
theorem dX7_lay_15 : decode cX7_lay 15 = .ok (.getfield 7, 3) := by decide +kernel
theorem dX7_lay_18 : decode cX7_lay 18 = .ok (.bipush 7, 2) := by decide +kernel
theorem dX7_lay_20 : decode cX7_lay 20 = .ok (.iconst 3, 1) := by decide +kernel
theorem dX7_lay_21 : decode cX7_lay 21 = .ok (.iload_n 1, 1) := by decide +kernel
theorem dX7_lay_22 : decode cX7_lay 22 = .ok (.imul, 1) := by decide +kernel
theorem dX7_lay_23 : decode cX7_lay 23 = .ok (.iadd, 1) := by decide +kernel
theorem dX7_lay_24 : decode cX7_lay 24 = .ok (.iconst 1, 1) := by decide +kernel
theorem dX7_lay_25 : decode cX7_lay 25 = .ok (.iadd, 1) := by decide +kernel
theorem dX7_lay_26 : decode cX7_lay 26 = .ok (.iload_n 3, 1) := by decide +kernel
theorem dX7_lay_27 : decode cX7_lay 27 = .ok (.iastore, 1) := by decide +kernel
theorem dX7_lay_28 : decode cX7_lay 28 = .ok (.aload_n 0, 1) := by decide +kernel
theorem dX7_lay_29 : decode cX7_lay 29 = .ok (.getfield 7, 3) := by decide +kernel
theorem dX7_lay_32 : decode cX7_lay 32 = .ok (.bipush 7, 2) := by decide +kernel
theorem dX7_lay_34 : decode cX7_lay 34 = .ok (.iconst 3, 1) := by decide +kernel
theorem dX7_lay_35 : decode cX7_lay 35 = .ok (.iload_n 1, 1) := by decide +kernel
theorem dX7_lay_36 : decode cX7_lay 36 = .ok (.imul, 1) := by decide +kernel
theorem dX7_lay_37 : decode cX7_lay 37 = .ok (.iadd, 1) := by decide +kernel
theorem dX7_lay_38 : decode cX7_lay 38 = .ok (.iconst 2, 1) := by decide +kernel
theorem dX7_lay_39 : decode cX7_lay 39 = .ok (.iadd, 1) := by decide +kernel
theorem dX7_lay_40 : decode cX7_lay 40 = .ok (.iload 4, 2) := by decide +kernel
theorem dX7_lay_42 : decode cX7_lay 42 = .ok (.iastore, 1) := by decide +kernel
theorem dX7_lay_43 : decode cX7_lay 43 = .ok (.return_, 1) := by decide +kernel
theorem dX7_ofPage_0 : decode cX7_ofPage 0 = .ok (.aload_n 0, 1) := by decide +kernel
theorem dX7_ofPage_1 : decode cX7_ofPage 1 = .ok (.getfield 7, 3) := by decide +kernel
theorem dX7_ofPage_4 : decode cX7_ofPage 4 = .ok (.bipush 79, 2) := by decide +kernel
theorem dX7_ofPage_6 : decode cX7_ofPage 6 = .ok (.iconst 2, 1) := by decide +kernel
theorem dX7_ofPage_7 : decode cX7_ofPage 7 = .ok (.iload_n 1, 1) := by decide +kernel
theorem dX7_ofPage_8 : decode cX7_ofPage 8 = .ok (.imul, 1) := by decide +kernel
theorem dX7_ofPage_9 : decode cX7_ofPage 9 = .ok (.iadd, 1) := by decide +kernel
theorem dX7_ofPage_10 : decode cX7_ofPage 10 = .ok (.iload_n 2, 1) := by decide +kernel
theorem dX7_ofPage_11 : decode cX7_ofPage 11 = .ok (.iadd, 1) := by decide +kernel
theorem dX7_ofPage_12 : decode cX7_ofPage 12 = .ok (.iaload, 1) := by decide +kernel
theorem dX7_ofPage_13 : decode cX7_ofPage 13 = .ok (.ireturn, 1) := by decide +kernel
theorem dX7_snapshotOf_0 : decode cX7_snapshotOf 0 = .ok (.aload_n 0, 1) := by decide +kernel
theorem dX7_snapshotOf_1 : decode cX7_snapshotOf 1 = .ok (.getfield 7, 3) := by decide +kernel
theorem dX7_snapshotOf_4 : decode cX7_snapshotOf 4 = .ok (.bipush 91, 2) := by decide +kernel
theorem dX7_snapshotOf_6 : decode cX7_snapshotOf 6 = .ok (.iconst 2, 1) := by decide +kernel
theorem dX7_snapshotOf_7 : decode cX7_snapshotOf 7 = .ok (.iload_n 1, 1) := by decide +kernel
theorem dX7_snapshotOf_8 : decode cX7_snapshotOf 8 = .ok (.imul, 1) := by decide +kernel
theorem dX7_snapshotOf_9 : decode cX7_snapshotOf 9 = .ok (.iadd, 1) := by decide +kernel
theorem dX7_snapshotOf_10 : decode cX7_snapshotOf 10 = .ok (.iconst 0, 1) := by decide +kernel
theorem dX7_snapshotOf_11 : decode cX7_snapshotOf 11 = .ok (.iadd, 1) := by decide +kernel
theorem dX7_snapshotOf_12 : decode cX7_snapshotOf 12 = .ok (.iaload, 1) := by decide +kernel
theorem dX7_snapshotOf_13 : decode cX7_snapshotOf 13 = .ok (.iconst 1, 1) := by decide +kernel
theorem dX7_snapshotOf_14 : decode cX7_snapshotOf 14 = .ok (.isub, 1) := by decide +kernel
theorem dX7_snapshotOf_15 : decode cX7_snapshotOf 15 = .ok (.ireturn, 1) := by decide +kernel
theorem dX7_isPlace_0 : decode cX7_isPlace 0 = .ok (.iload_n 0, 1) := by decide +kernel
theorem dX7_isPlace_1 : decode cX7_isPlace 1 = .ok (.iconst 0, 1) := by decide +kernel
theorem dX7_isPlace_2 : decode cX7_isPlace 2 = .ok (.bipush 23, 2) := by decide +kernel
theorem dX7_isPlace_4 : decode cX7_isPlace 4 = .ok (.invokestatic 26, 3) := by decide +kernel
theorem dX7_isPlace_7 : decode cX7_isPlace 7 = .ok (.ireturn, 1) := by decide +kernel
theorem dX7_isPage_0 : decode cX7_isPage 0 = .ok (.iload_n 0, 1) := by decide +kernel
theorem dX7_isPage_1 : decode cX7_isPage 1 = .ok (.iconst 0, 1) := by decide +kernel
theorem dX7_isPage_2 : decode cX7_isPage 2 = .ok (.iconst 5, 1) := by decide +kernel
theorem dX7_isPage_3 : decode cX7_isPage 3 = .ok (.invokestatic 26, 3) := by decide +kernel
theorem dX7_isPage_6 : decode cX7_isPage 6 = .ok (.ireturn, 1) := by decide +kernel
theorem dX7_isAsker_0 : decode cX7_isAsker 0 = .ok (.iload_n 0, 1) := by decide +kernel
theorem dX7_isAsker_1 : decode cX7_isAsker 1 = .ok (.iconst 0, 1) := by decide +kernel
theorem dX7_isAsker_2 : decode cX7_isAsker 2 = .ok (.iconst 3, 1) := by decide +kernel
theorem dX7_isAsker_3 : decode cX7_isAsker 3 = .ok (.invokestatic 26, 3) := by decide +kernel
theorem dX7_isAsker_6 : decode cX7_isAsker 6 = .ok (.ireturn, 1) := by decide +kernel
theorem dX7_saves_0 : decode cX7_saves 0 = .ok (.aload_n 0, 1) := by decide +kernel
theorem dX7_saves_1 : decode cX7_saves 1 = .ok (.getfield 30, 3) := by decide +kernel
theorem dX7_saves_4 : decode cX7_saves 4 = .ok (.bipush 6, 2) := by decide +kernel
theorem dX7_saves_6 : decode cX7_saves 6 = .ok (.if_icmp .ne 43, 3) := by decide +kernel
theorem dX7_saves_9 : decode cX7_saves 9 = .ok (.iconst 0, 1) := by decide +kernel
theorem dX7_saves_10 : decode cX7_saves 10 = .ok (.istore_n 1, 1) := by decide +kernel
theorem dX7_saves_11 : decode cX7_saves 11 = .ok (.iload_n 1, 1) := by decide +kernel
theorem dX7_saves_12 : decode cX7_saves 12 = .ok (.sipush 495, 3) := by decide +kernel
theorem dX7_saves_15 : decode cX7_saves 15 = .ok (.if_icmp .ge 24, 3) := by decide +kernel
theorem dX7_saves_18 : decode cX7_saves 18 = .ok (.aload_n 0, 1) := by decide +kernel
theorem dX7_saves_19 : decode cX7_saves 19 = .ok (.getfield 13, 3) := by decide +kernel
theorem dX7_saves_22 : decode cX7_saves 22 = .ok (.iload_n 1, 1) := by decide +kernel
theorem dX7_saves_23 : decode cX7_saves 23 = .ok (.aload_n 0, 1) := by decide +kernel
theorem dX7_saves_24 : decode cX7_saves 24 = .ok (.getfield 13, 3) := by decide +kernel
theorem dX7_saves_27 : decode cX7_saves 27 = .ok (.iload_n 1, 1) := by decide +kernel
theorem dX7_saves_28 : decode cX7_saves 28 = .ok (.bipush 99, 2) := by decide +kernel
theorem dX7_saves_30 : decode cX7_saves 30 = .ok (.iadd, 1) := by decide +kernel
theorem dX7_saves_31 : decode cX7_saves 31 = .ok (.iaload, 1) := by decide +kernel
theorem dX7_saves_32 : decode cX7_saves 32 = .ok (.iastore, 1) := by decide +kernel
theorem dX7_saves_33 : decode cX7_saves 33 = .ok (.iinc 1 1, 3) := by decide +kernel
theorem dX7_saves_36 : decode cX7_saves 36 = .ok (.goto (-25), 3) := by decide +kernel
theorem dX7_saves_39 : decode cX7_saves 39 = .ok (.aload_n 0, 1) := by decide +kernel
theorem dX7_saves_40 : decode cX7_saves 40 = .ok (.dup, 1) := by decide +kernel
theorem dX7_saves_41 : decode cX7_saves 41 = .ok (.getfield 30, 3) := by decide +kernel
theorem dX7_saves_44 : decode cX7_saves 44 = .ok (.iconst 1, 1) := by decide +kernel
theorem dX7_saves_45 : decode cX7_saves 45 = .ok (.isub, 1) := by decide +kernel
theorem dX7_saves_46 : decode cX7_saves 46 = .ok (.putfield 30, 3) := by decide +kernel
theorem dX7_saves_49 : decode cX7_saves 49 = .ok (.iconst 0, 1) := by decide +kernel
theorem dX7_saves_50 : decode cX7_saves 50 = .ok (.istore_n 1, 1) := by decide +kernel
theorem dX7_saves_51 : decode cX7_saves 51 = .ok (.iload_n 1, 1) := by decide +kernel
theorem dX7_saves_52 : decode cX7_saves 52 = .ok (.bipush 99, 2) := by decide +kernel
theorem dX7_saves_54 : decode cX7_saves 54 = .ok (.if_icmp .ge 29, 3) := by decide +kernel
theorem dX7_saves_57 : decode cX7_saves 57 = .ok (.aload_n 0, 1) := by decide +kernel
theorem dX7_saves_58 : decode cX7_saves 58 = .ok (.getfield 13, 3) := by decide +kernel
theorem dX7_saves_61 : decode cX7_saves 61 = .ok (.bipush 99, 2) := by decide +kernel
theorem dX7_saves_63 : decode cX7_saves 63 = .ok (.aload_n 0, 1) := by decide +kernel
theorem dX7_saves_64 : decode cX7_saves 64 = .ok (.getfield 30, 3) := by decide +kernel
theorem dX7_saves_67 : decode cX7_saves 67 = .ok (.imul, 1) := by decide +kernel
theorem dX7_saves_68 : decode cX7_saves 68 = .ok (.iload_n 1, 1) := by decide +kernel
theorem dX7_saves_69 : decode cX7_saves 69 = .ok (.iadd, 1) := by decide +kernel
theorem dX7_saves_70 : decode cX7_saves 70 = .ok (.aload_n 0, 1) := by decide +kernel
theorem dX7_saves_71 : decode cX7_saves 71 = .ok (.getfield 7, 3) := by decide +kernel
theorem dX7_saves_74 : decode cX7_saves 74 = .ok (.iload_n 1, 1) := by decide +kernel
theorem dX7_saves_75 : decode cX7_saves 75 = .ok (.iaload, 1) := by decide +kernel
theorem dX7_saves_76 : decode cX7_saves 76 = .ok (.iastore, 1) := by decide +kernel
theorem dX7_saves_77 : decode cX7_saves 77 = .ok (.iinc 1 1, 3) := by decide +kernel
theorem dX7_saves_80 : decode cX7_saves 80 = .ok (.goto (-29), 3) := by decide +kernel
theorem dX7_saves_83 : decode cX7_saves 83 = .ok (.aload_n 0, 1) := by decide +kernel
theorem dX7_saves_84 : decode cX7_saves 84 = .ok (.dup, 1) := by decide +kernel
theorem dX7_saves_85 : decode cX7_saves 85 = .ok (.getfield 30, 3) := by decide +kernel
theorem dX7_saves_88 : decode cX7_saves 88 = .ok (.iconst 1, 1) := by decide +kernel
theorem dX7_saves_89 : decode cX7_saves 89 = .ok (.iadd, 1) := by decide +kernel
theorem dX7_saves_90 : decode cX7_saves 90 = .ok (.putfield 30, 3) := by decide +kernel
theorem dX7_saves_93 : decode cX7_saves 93 = .ok (.return_, 1) := by decide +kernel
theorem dX7_isFull_0 : decode cX7_isFull 0 = .ok (.aload_n 0, 1) := by decide +kernel
theorem dX7_isFull_1 : decode cX7_isFull 1 = .ok (.iload_n 1, 1) := by decide +kernel
theorem dX7_isFull_2 : decode cX7_isFull 2 = .ok (.iconst 0, 1) := by decide +kernel
theorem dX7_isFull_3 : decode cX7_isFull 3 = .ok (.invokevirtual 33, 3) := by decide +kernel
theorem dX7_isFull_6 : decode cX7_isFull 6 = .ok (.ifCond .le 7, 3) := by decide +kernel
theorem dX7_isFull_9 : decode cX7_isFull 9 = .ok (.iconst 1, 1) := by decide +kernel
theorem dX7_isFull_10 : decode cX7_isFull 10 = .ok (.goto 4, 3) := by decide +kernel
theorem dX7_isFull_13 : decode cX7_isFull 13 = .ok (.iconst 0, 1) := by decide +kernel
theorem dX7_isFull_14 : decode cX7_isFull 14 = .ok (.ireturn, 1) := by decide +kernel
theorem dX7_isSeen_0 : decode cX7_isSeen 0 = .ok (.aload_n 0, 1) := by decide +kernel
theorem dX7_isSeen_1 : decode cX7_isSeen 1 = .ok (.iload_n 1, 1) := by decide +kernel
theorem dX7_isSeen_2 : decode cX7_isSeen 2 = .ok (.invokevirtual 37, 3) := by decide +kernel
theorem dX7_isSeen_5 : decode cX7_isSeen 5 = .ok (.ifCond .eq 17, 3) := by decide +kernel
theorem dX7_isSeen_8 : decode cX7_isSeen 8 = .ok (.aload_n 0, 1) := by decide +kernel
theorem dX7_isSeen_9 : decode cX7_isSeen 9 = .ok (.iload_n 1, 1) := by decide +kernel
theorem dX7_isSeen_10 : decode cX7_isSeen 10 = .ok (.iconst 1, 1) := by decide +kernel
theorem dX7_isSeen_11 : decode cX7_isSeen 11 = .ok (.invokevirtual 33, 3) := by decide +kernel
theorem dX7_isSeen_14 : decode cX7_isSeen 14 = .ok (.iload_n 2, 1) := by decide +kernel
theorem dX7_isSeen_15 : decode cX7_isSeen 15 = .ok (.if_icmp .gt 7, 3) := by decide +kernel
theorem dX7_isSeen_18 : decode cX7_isSeen 18 = .ok (.iconst 1, 1) := by decide +kernel
theorem dX7_isSeen_19 : decode cX7_isSeen 19 = .ok (.goto 4, 3) := by decide +kernel
theorem dX7_isSeen_22 : decode cX7_isSeen 22 = .ok (.iconst 0, 1) := by decide +kernel
theorem dX7_isSeen_23 : decode cX7_isSeen 23 = .ok (.istore_n 3, 1) := by decide +kernel
theorem dX7_isSeen_24 : decode cX7_isSeen 24 = .ok (.iload_n 3, 1) := by decide +kernel
theorem dX7_isSeen_25 : decode cX7_isSeen 25 = .ok (.ifCond .eq 26, 3) := by decide +kernel
theorem dX7_isSeen_28 : decode cX7_isSeen 28 = .ok (.aload_n 0, 1) := by decide +kernel
theorem dX7_isSeen_29 : decode cX7_isSeen 29 = .ok (.iload_n 1, 1) := by decide +kernel
theorem dX7_isSeen_30 : decode cX7_isSeen 30 = .ok (.iconst 2, 1) := by decide +kernel
theorem dX7_isSeen_31 : decode cX7_isSeen 31 = .ok (.invokevirtual 33, 3) := by decide +kernel
theorem dX7_isSeen_34 : decode cX7_isSeen 34 = .ok (.ifCond .eq 13, 3) := by decide +kernel
theorem dX7_isSeen_37 : decode cX7_isSeen 37 = .ok (.aload_n 0, 1) := by decide +kernel
theorem dX7_isSeen_38 : decode cX7_isSeen 38 = .ok (.iload_n 1, 1) := by decide +kernel
theorem dX7_isSeen_39 : decode cX7_isSeen 39 = .ok (.iconst 2, 1) := by decide +kernel
theorem dX7_isSeen_40 : decode cX7_isSeen 40 = .ok (.invokevirtual 33, 3) := by decide +kernel
theorem dX7_isSeen_43 : decode cX7_isSeen 43 = .ok (.iload_n 2, 1) := by decide +kernel
theorem dX7_isSeen_44 : decode cX7_isSeen 44 = .ok (.if_icmp .le 7, 3) := by decide +kernel
theorem dX7_isSeen_47 : decode cX7_isSeen 47 = .ok (.iconst 1, 1) := by decide +kernel
theorem dX7_isSeen_48 : decode cX7_isSeen 48 = .ok (.goto 4, 3) := by decide +kernel
theorem dX7_isSeen_51 : decode cX7_isSeen 51 = .ok (.iconst 0, 1) := by decide +kernel
theorem dX7_isSeen_52 : decode cX7_isSeen 52 = .ok (.ireturn, 1) := by decide +kernel
theorem dX7_lowestEmpty_0 : decode cX7_lowestEmpty 0 = .ok (.iconst 0, 1) := by decide +kernel
theorem dX7_lowestEmpty_1 : decode cX7_lowestEmpty 1 = .ok (.istore_n 1, 1) := by decide +kernel
theorem dX7_lowestEmpty_2 : decode cX7_lowestEmpty 2 = .ok (.iload_n 1, 1) := by decide +kernel
theorem dX7_lowestEmpty_3 : decode cX7_lowestEmpty 3 = .ok (.bipush 24, 2) := by decide +kernel
theorem dX7_lowestEmpty_5 : decode cX7_lowestEmpty 5 = .ok (.if_icmp .ge 17, 3) := by decide +kernel
theorem dX7_lowestEmpty_8 : decode cX7_lowestEmpty 8 = .ok (.aload_n 0, 1) := by decide +kernel
theorem dX7_lowestEmpty_9 : decode cX7_lowestEmpty 9 = .ok (.iload_n 1, 1) := by decide +kernel
theorem dX7_lowestEmpty_10 : decode cX7_lowestEmpty 10 = .ok (.invokevirtual 37, 3) := by decide +kernel
theorem dX7_lowestEmpty_13 : decode cX7_lowestEmpty 13 = .ok (.ifCond .eq 9, 3) := by decide +kernel
theorem dX7_lowestEmpty_16 : decode cX7_lowestEmpty 16 = .ok (.iinc 1 1, 3) := by decide +kernel
theorem dX7_lowestEmpty_19 : decode cX7_lowestEmpty 19 = .ok (.goto (-17), 3) := by decide +kernel
theorem dX7_lowestEmpty_22 : decode cX7_lowestEmpty 22 = .ok (.iload_n 1, 1) := by decide +kernel
theorem dX7_lowestEmpty_23 : decode cX7_lowestEmpty 23 = .ok (.bipush 24, 2) := by decide +kernel
theorem dX7_lowestEmpty_25 : decode cX7_lowestEmpty 25 = .ok (.if_icmp .ge 7, 3) := by decide +kernel
theorem dX7_lowestEmpty_28 : decode cX7_lowestEmpty 28 = .ok (.iload_n 1, 1) := by decide +kernel
theorem dX7_lowestEmpty_29 : decode cX7_lowestEmpty 29 = .ok (.goto 4, 3) := by decide +kernel
theorem dX7_lowestEmpty_32 : decode cX7_lowestEmpty 32 = .ok (.iconst (-1), 1) := by decide +kernel
theorem dX7_lowestEmpty_33 : decode cX7_lowestEmpty 33 = .ok (.ireturn, 1) := by decide +kernel
theorem dX7_unmarks_0 : decode cX7_unmarks 0 = .ok (.aload_n 0, 1) := by decide +kernel
theorem dX7_unmarks_1 : decode cX7_unmarks 1 = .ok (.getfield 7, 3) := by decide +kernel
theorem dX7_unmarks_4 : decode cX7_unmarks 4 = .ok (.bipush 79, 2) := by decide +kernel
theorem dX7_unmarks_6 : decode cX7_unmarks 6 = .ok (.iconst 2, 1) := by decide +kernel
theorem dX7_unmarks_7 : decode cX7_unmarks 7 = .ok (.iload_n 1, 1) := by decide +kernel
theorem dX7_unmarks_8 : decode cX7_unmarks 8 = .ok (.iconst 4, 1) := by decide +kernel
theorem dX7_unmarks_9 : decode cX7_unmarks 9 = .ok (.idiv, 1) := by decide +kernel
theorem dX7_unmarks_10 : decode cX7_unmarks 10 = .ok (.imul, 1) := by decide +kernel
theorem dX7_unmarks_11 : decode cX7_unmarks 11 = .ok (.iadd, 1) := by decide +kernel
theorem dX7_unmarks_12 : decode cX7_unmarks 12 = .ok (.iconst 0, 1) := by decide +kernel
theorem dX7_unmarks_13 : decode cX7_unmarks 13 = .ok (.iadd, 1) := by decide +kernel
theorem dX7_unmarks_14 : decode cX7_unmarks 14 = .ok (.iconst 0, 1) := by decide +kernel
theorem dX7_unmarks_15 : decode cX7_unmarks 15 = .ok (.iastore, 1) := by decide +kernel
theorem dX7_unmarks_16 : decode cX7_unmarks 16 = .ok (.aload_n 0, 1) := by decide +kernel
theorem dX7_unmarks_17 : decode cX7_unmarks 17 = .ok (.getfield 7, 3) := by decide +kernel
theorem dX7_unmarks_20 : decode cX7_unmarks 20 = .ok (.bipush 79, 2) := by decide +kernel
theorem dX7_unmarks_22 : decode cX7_unmarks 22 = .ok (.iconst 2, 1) := by decide +kernel
theorem dX7_unmarks_23 : decode cX7_unmarks 23 = .ok (.iload_n 1, 1) := by decide +kernel
theorem dX7_unmarks_24 : decode cX7_unmarks 24 = .ok (.iconst 4, 1) := by decide +kernel
theorem dX7_unmarks_25 : decode cX7_unmarks 25 = .ok (.idiv, 1) := by decide +kernel
theorem dX7_unmarks_26 : decode cX7_unmarks 26 = .ok (.imul, 1) := by decide +kernel
theorem dX7_unmarks_27 : decode cX7_unmarks 27 = .ok (.iadd, 1) := by decide +kernel
theorem dX7_unmarks_28 : decode cX7_unmarks 28 = .ok (.iconst 1, 1) := by decide +kernel
theorem dX7_unmarks_29 : decode cX7_unmarks 29 = .ok (.iadd, 1) := by decide +kernel
theorem dX7_unmarks_30 : decode cX7_unmarks 30 = .ok (.iconst 0, 1) := by decide +kernel
theorem dX7_unmarks_31 : decode cX7_unmarks 31 = .ok (.iastore, 1) := by decide +kernel
theorem dX7_unmarks_32 : decode cX7_unmarks 32 = .ok (.return_, 1) := by decide +kernel
theorem dX7_comes_0 : decode cX7_comes 0 = .ok (.aload_n 0, 1) := by decide +kernel
theorem dX7_comes_1 : decode cX7_comes 1 = .ok (.iload_n 1, 1) := by decide +kernel
theorem dX7_comes_2 : decode cX7_comes 2 = .ok (.iload_n 2, 1) := by decide +kernel
theorem dX7_comes_3 : decode cX7_comes 3 = .ok (.iconst 1, 1) := by decide +kernel
theorem dX7_comes_4 : decode cX7_comes 4 = .ok (.iadd, 1) := by decide +kernel
theorem dX7_comes_5 : decode cX7_comes 5 = .ok (.aload_n 0, 1) := by decide +kernel
theorem dX7_comes_6 : decode cX7_comes 6 = .ok (.getfield 7, 3) := by decide +kernel
theorem dX7_comes_9 : decode cX7_comes 9 = .ok (.iconst 0, 1) := by decide +kernel
theorem dX7_comes_10 : decode cX7_comes 10 = .ok (.iaload, 1) := by decide +kernel
theorem dX7_comes_11 : decode cX7_comes 11 = .ok (.iconst 0, 1) := by decide +kernel
theorem dX7_comes_12 : decode cX7_comes 12 = .ok (.invokevirtual 41, 3) := by decide +kernel
theorem dX7_comes_15 : decode cX7_comes 15 = .ok (.aload_n 0, 1) := by decide +kernel
theorem dX7_comes_16 : decode cX7_comes 16 = .ok (.iload_n 1, 1) := by decide +kernel
theorem dX7_comes_17 : decode cX7_comes 17 = .ok (.invokevirtual 45, 3) := by decide +kernel
theorem dX7_comes_20 : decode cX7_comes 20 = .ok (.return_, 1) := by decide +kernel
theorem dX7_goes_0 : decode cX7_goes 0 = .ok (.aload_n 0, 1) := by decide +kernel
theorem dX7_goes_1 : decode cX7_goes 1 = .ok (.getfield 7, 3) := by decide +kernel
theorem dX7_goes_4 : decode cX7_goes 4 = .ok (.bipush 7, 2) := by decide +kernel
theorem dX7_goes_6 : decode cX7_goes 6 = .ok (.iconst 3, 1) := by decide +kernel
theorem dX7_goes_7 : decode cX7_goes 7 = .ok (.iload_n 1, 1) := by decide +kernel
theorem dX7_goes_8 : decode cX7_goes 8 = .ok (.imul, 1) := by decide +kernel
theorem dX7_goes_9 : decode cX7_goes 9 = .ok (.iadd, 1) := by decide +kernel
theorem dX7_goes_10 : decode cX7_goes 10 = .ok (.iconst 2, 1) := by decide +kernel
theorem dX7_goes_11 : decode cX7_goes 11 = .ok (.iadd, 1) := by decide +kernel
theorem dX7_goes_12 : decode cX7_goes 12 = .ok (.aload_n 0, 1) := by decide +kernel
theorem dX7_goes_13 : decode cX7_goes 13 = .ok (.getfield 7, 3) := by decide +kernel
theorem dX7_goes_16 : decode cX7_goes 16 = .ok (.iconst 0, 1) := by decide +kernel
theorem dX7_goes_17 : decode cX7_goes 17 = .ok (.iaload, 1) := by decide +kernel
theorem dX7_goes_18 : decode cX7_goes 18 = .ok (.iastore, 1) := by decide +kernel
theorem dX7_goes_19 : decode cX7_goes 19 = .ok (.aload_n 0, 1) := by decide +kernel
theorem dX7_goes_20 : decode cX7_goes 20 = .ok (.iload_n 1, 1) := by decide +kernel
theorem dX7_goes_21 : decode cX7_goes 21 = .ok (.invokevirtual 45, 3) := by decide +kernel
theorem dX7_goes_24 : decode cX7_goes 24 = .ok (.return_, 1) := by decide +kernel
theorem dX7_changes_0 : decode cX7_changes 0 = .ok (.aload_n 0, 1) := by decide +kernel
theorem dX7_changes_1 : decode cX7_changes 1 = .ok (.invokevirtual 49, 3) := by decide +kernel
theorem dX7_changes_4 : decode cX7_changes 4 = .ok (.istore 4, 2) := by decide +kernel
theorem dX7_changes_6 : decode cX7_changes 6 = .ok (.aload_n 0, 1) := by decide +kernel
theorem dX7_changes_7 : decode cX7_changes 7 = .ok (.getfield 7, 3) := by decide +kernel
theorem dX7_changes_10 : decode cX7_changes 10 = .ok (.iconst 0, 1) := by decide +kernel
theorem dX7_changes_11 : decode cX7_changes 11 = .ok (.dup2, 1) := by decide +kernel
theorem dX7_changes_12 : decode cX7_changes 12 = .ok (.iaload, 1) := by decide +kernel
theorem dX7_changes_13 : decode cX7_changes 13 = .ok (.iconst 1, 1) := by decide +kernel
theorem dX7_changes_14 : decode cX7_changes 14 = .ok (.iadd, 1) := by decide +kernel
theorem dX7_changes_15 : decode cX7_changes 15 = .ok (.iastore, 1) := by decide +kernel
theorem dX7_changes_16 : decode cX7_changes 16 = .ok (.iload_n 1, 1) := by decide +kernel
theorem dX7_changes_17 : decode cX7_changes 17 = .ok (.bipush 43, 2) := by decide +kernel
theorem dX7_changes_19 : decode cX7_changes 19 = .ok (.if_icmp .eq 8, 3) := by decide +kernel
theorem dX7_changes_22 : decode cX7_changes 22 = .ok (.aload_n 0, 1) := by decide +kernel
theorem dX7_changes_23 : decode cX7_changes 23 = .ok (.iload_n 2, 1) := by decide +kernel
theorem dX7_changes_24 : decode cX7_changes 24 = .ok (.invokevirtual 53, 3) := by decide +kernel
theorem dX7_changes_27 : decode cX7_changes 27 = .ok (.iload_n 1, 1) := by decide +kernel
theorem dX7_changes_28 : decode cX7_changes 28 = .ok (.bipush 45, 2) := by decide +kernel
theorem dX7_changes_30 : decode cX7_changes 30 = .ok (.if_icmp .eq 10, 3) := by decide +kernel
theorem dX7_changes_33 : decode cX7_changes 33 = .ok (.aload_n 0, 1) := by decide +kernel
theorem dX7_changes_34 : decode cX7_changes 34 = .ok (.iload 4, 2) := by decide +kernel
theorem dX7_changes_36 : decode cX7_changes 36 = .ok (.iload_n 3, 1) := by decide +kernel
theorem dX7_changes_37 : decode cX7_changes 37 = .ok (.invokevirtual 56, 3) := by decide +kernel
theorem dX7_changes_40 : decode cX7_changes 40 = .ok (.iload 4, 2) := by decide +kernel
theorem dX7_changes_42 : decode cX7_changes 42 = .ok (.ireturn, 1) := by decide +kernel
theorem dX7_canChange_0 : decode cX7_canChange 0 = .ok (.iload_n 1, 1) := by decide +kernel
theorem dX7_canChange_1 : decode cX7_canChange 1 = .ok (.bipush 43, 2) := by decide +kernel
theorem dX7_canChange_3 : decode cX7_canChange 3 = .ok (.if_icmp .eq 24, 3) := by decide +kernel
theorem dX7_canChange_6 : decode cX7_canChange 6 = .ok (.iload_n 2, 1) := by decide +kernel
theorem dX7_canChange_7 : decode cX7_canChange 7 = .ok (.invokestatic 60, 3) := by decide +kernel
theorem dX7_canChange_10 : decode cX7_canChange 10 = .ok (.ifCond .eq 21, 3) := by decide +kernel
theorem dX7_canChange_13 : decode cX7_canChange 13 = .ok (.aload_n 0, 1) := by decide +kernel
theorem dX7_canChange_14 : decode cX7_canChange 14 = .ok (.iload_n 2, 1) := by decide +kernel
theorem dX7_canChange_15 : decode cX7_canChange 15 = .ok (.aload_n 0, 1) := by decide +kernel
theorem dX7_canChange_16 : decode cX7_canChange 16 = .ok (.getfield 7, 3) := by decide +kernel
theorem dX7_canChange_19 : decode cX7_canChange 19 = .ok (.iconst 0, 1) := by decide +kernel
theorem dX7_canChange_20 : decode cX7_canChange 20 = .ok (.iaload, 1) := by decide +kernel
theorem dX7_canChange_21 : decode cX7_canChange 21 = .ok (.invokevirtual 63, 3) := by decide +kernel
theorem dX7_canChange_24 : decode cX7_canChange 24 = .ok (.ifCond .eq 7, 3) := by decide +kernel
theorem dX7_canChange_27 : decode cX7_canChange 27 = .ok (.iconst 1, 1) := by decide +kernel
theorem dX7_canChange_28 : decode cX7_canChange 28 = .ok (.goto 4, 3) := by decide +kernel
theorem dX7_canChange_31 : decode cX7_canChange 31 = .ok (.iconst 0, 1) := by decide +kernel
theorem dX7_canChange_32 : decode cX7_canChange 32 = .ok (.istore_n 3, 1) := by decide +kernel
theorem dX7_canChange_33 : decode cX7_canChange 33 = .ok (.iload_n 3, 1) := by decide +kernel
theorem dX7_canChange_34 : decode cX7_canChange 34 = .ok (.ifCond .eq 21, 3) := by decide +kernel
theorem dX7_canChange_37 : decode cX7_canChange 37 = .ok (.iload_n 1, 1) := by decide +kernel
theorem dX7_canChange_38 : decode cX7_canChange 38 = .ok (.bipush 45, 2) := by decide +kernel
theorem dX7_canChange_40 : decode cX7_canChange 40 = .ok (.if_icmp .eq 11, 3) := by decide +kernel
theorem dX7_canChange_43 : decode cX7_canChange 43 = .ok (.aload_n 0, 1) := by decide +kernel
theorem dX7_canChange_44 : decode cX7_canChange 44 = .ok (.invokevirtual 49, 3) := by decide +kernel
theorem dX7_canChange_47 : decode cX7_canChange 47 = .ok (.iconst (-1), 1) := by decide +kernel
theorem dX7_canChange_48 : decode cX7_canChange 48 = .ok (.if_icmp .eq 7, 3) := by decide +kernel
theorem dX7_canChange_51 : decode cX7_canChange 51 = .ok (.iconst 1, 1) := by decide +kernel
theorem dX7_canChange_52 : decode cX7_canChange 52 = .ok (.goto 4, 3) := by decide +kernel
theorem dX7_canChange_55 : decode cX7_canChange 55 = .ok (.iconst 0, 1) := by decide +kernel
theorem dX7_canChange_56 : decode cX7_canChange 56 = .ok (.ireturn, 1) := by decide +kernel
theorem dX7_put_0 : decode cX7_put 0 = .ok (.aload_n 0, 1) := by decide +kernel
theorem dX7_put_1 : decode cX7_put 1 = .ok (.iconst 0, 1) := by decide +kernel
theorem dX7_put_2 : decode cX7_put 2 = .ok (.putfield 22, 3) := by decide +kernel
theorem dX7_put_5 : decode cX7_put 5 = .ok (.iload_n 1, 1) := by decide +kernel
theorem dX7_put_6 : decode cX7_put 6 = .ok (.iconst 0, 1) := by decide +kernel
theorem dX7_put_7 : decode cX7_put 7 = .ok (.bipush 9, 2) := by decide +kernel
theorem dX7_put_9 : decode cX7_put 9 = .ok (.invokestatic 26, 3) := by decide +kernel
theorem dX7_put_12 : decode cX7_put 12 = .ok (.ifCond .ne 9, 3) := by decide +kernel
theorem dX7_put_15 : decode cX7_put 15 = .ok (.aload_n 0, 1) := by decide +kernel
theorem dX7_put_16 : decode cX7_put 16 = .ok (.iconst 1, 1) := by decide +kernel
theorem dX7_put_17 : decode cX7_put 17 = .ok (.invokevirtual 67, 3) := by decide +kernel
theorem dX7_put_20 : decode cX7_put 20 = .ok (.ireturn, 1) := by decide +kernel
theorem dX7_put_21 : decode cX7_put 21 = .ok (.aload_n 0, 1) := by decide +kernel
theorem dX7_put_22 : decode cX7_put 22 = .ok (.bipush 43, 2) := by decide +kernel
theorem dX7_put_24 : decode cX7_put 24 = .ok (.iconst 0, 1) := by decide +kernel
theorem dX7_put_25 : decode cX7_put 25 = .ok (.invokevirtual 71, 3) := by decide +kernel
theorem dX7_put_28 : decode cX7_put 28 = .ok (.ifCond .ne 9, 3) := by decide +kernel
theorem dX7_put_31 : decode cX7_put 31 = .ok (.aload_n 0, 1) := by decide +kernel
theorem dX7_put_32 : decode cX7_put 32 = .ok (.iconst 2, 1) := by decide +kernel
theorem dX7_put_33 : decode cX7_put 33 = .ok (.invokevirtual 67, 3) := by decide +kernel
theorem dX7_put_36 : decode cX7_put 36 = .ok (.ireturn, 1) := by decide +kernel
theorem dX7_put_37 : decode cX7_put 37 = .ok (.aload_n 0, 1) := by decide +kernel
theorem dX7_put_38 : decode cX7_put 38 = .ok (.invokevirtual 74, 3) := by decide +kernel
theorem dX7_put_41 : decode cX7_put 41 = .ok (.aload_n 0, 1) := by decide +kernel
theorem dX7_put_42 : decode cX7_put 42 = .ok (.bipush 43, 2) := by decide +kernel
theorem dX7_put_44 : decode cX7_put 44 = .ok (.iconst 0, 1) := by decide +kernel
theorem dX7_put_45 : decode cX7_put 45 = .ok (.iload_n 1, 1) := by decide +kernel
theorem dX7_put_46 : decode cX7_put 46 = .ok (.invokevirtual 77, 3) := by decide +kernel
theorem dX7_put_49 : decode cX7_put 49 = .ok (.ireturn, 1) := by decide +kernel
theorem dX7_take_0 : decode cX7_take 0 = .ok (.aload_n 0, 1) := by decide +kernel
theorem dX7_take_1 : decode cX7_take 1 = .ok (.iconst 0, 1) := by decide +kernel
theorem dX7_take_2 : decode cX7_take 2 = .ok (.putfield 22, 3) := by decide +kernel
theorem dX7_take_5 : decode cX7_take 5 = .ok (.iload_n 1, 1) := by decide +kernel
theorem dX7_take_6 : decode cX7_take 6 = .ok (.invokestatic 60, 3) := by decide +kernel
theorem dX7_take_9 : decode cX7_take 9 = .ok (.ifCond .ne 9, 3) := by decide +kernel
theorem dX7_take_12 : decode cX7_take 12 = .ok (.aload_n 0, 1) := by decide +kernel
theorem dX7_take_13 : decode cX7_take 13 = .ok (.iconst 1, 1) := by decide +kernel
theorem dX7_take_14 : decode cX7_take 14 = .ok (.invokevirtual 67, 3) := by decide +kernel
theorem dX7_take_17 : decode cX7_take 17 = .ok (.ireturn, 1) := by decide +kernel
theorem dX7_take_18 : decode cX7_take 18 = .ok (.aload_n 0, 1) := by decide +kernel
theorem dX7_take_19 : decode cX7_take 19 = .ok (.bipush 45, 2) := by decide +kernel
theorem dX7_take_21 : decode cX7_take 21 = .ok (.iload_n 1, 1) := by decide +kernel
theorem dX7_take_22 : decode cX7_take 22 = .ok (.invokevirtual 71, 3) := by decide +kernel
theorem dX7_take_25 : decode cX7_take 25 = .ok (.ifCond .ne 9, 3) := by decide +kernel
theorem dX7_take_28 : decode cX7_take 28 = .ok (.aload_n 0, 1) := by decide +kernel
theorem dX7_take_29 : decode cX7_take 29 = .ok (.iconst 2, 1) := by decide +kernel
theorem dX7_take_30 : decode cX7_take 30 = .ok (.invokevirtual 67, 3) := by decide +kernel
theorem dX7_take_33 : decode cX7_take 33 = .ok (.ireturn, 1) := by decide +kernel
theorem dX7_take_34 : decode cX7_take 34 = .ok (.aload_n 0, 1) := by decide +kernel
theorem dX7_take_35 : decode cX7_take 35 = .ok (.invokevirtual 74, 3) := by decide +kernel
theorem dX7_take_38 : decode cX7_take 38 = .ok (.aload_n 0, 1) := by decide +kernel
theorem dX7_take_39 : decode cX7_take 39 = .ok (.bipush 45, 2) := by decide +kernel
theorem dX7_take_41 : decode cX7_take 41 = .ok (.iload_n 1, 1) := by decide +kernel
theorem dX7_take_42 : decode cX7_take 42 = .ok (.iconst 0, 1) := by decide +kernel
theorem dX7_take_43 : decode cX7_take 43 = .ok (.invokevirtual 77, 3) := by decide +kernel
theorem dX7_take_46 : decode cX7_take 46 = .ok (.pop, 1) := by decide +kernel
theorem dX7_take_47 : decode cX7_take 47 = .ok (.aload_n 0, 1) := by decide +kernel
theorem dX7_take_48 : decode cX7_take 48 = .ok (.iload_n 1, 1) := by decide +kernel
theorem dX7_take_49 : decode cX7_take 49 = .ok (.iconst 0, 1) := by decide +kernel
theorem dX7_take_50 : decode cX7_take 50 = .ok (.invokevirtual 33, 3) := by decide +kernel
theorem dX7_take_53 : decode cX7_take 53 = .ok (.iconst 1, 1) := by decide +kernel
theorem dX7_take_54 : decode cX7_take 54 = .ok (.isub, 1) := by decide +kernel
theorem dX7_take_55 : decode cX7_take 55 = .ok (.ireturn, 1) := by decide +kernel
theorem dX7_change_0 : decode cX7_change 0 = .ok (.aload_n 0, 1) := by decide +kernel
theorem dX7_change_1 : decode cX7_change 1 = .ok (.iconst 0, 1) := by decide +kernel
theorem dX7_change_2 : decode cX7_change 2 = .ok (.putfield 22, 3) := by decide +kernel
theorem dX7_change_5 : decode cX7_change 5 = .ok (.iload_n 1, 1) := by decide +kernel
theorem dX7_change_6 : decode cX7_change 6 = .ok (.invokestatic 60, 3) := by decide +kernel
theorem dX7_change_9 : decode cX7_change 9 = .ok (.ifCond .ne 9, 3) := by decide +kernel
theorem dX7_change_12 : decode cX7_change 12 = .ok (.aload_n 0, 1) := by decide +kernel
theorem dX7_change_13 : decode cX7_change 13 = .ok (.iconst 1, 1) := by decide +kernel
theorem dX7_change_14 : decode cX7_change 14 = .ok (.invokevirtual 67, 3) := by decide +kernel
theorem dX7_change_17 : decode cX7_change 17 = .ok (.ireturn, 1) := by decide +kernel
theorem dX7_change_18 : decode cX7_change 18 = .ok (.iload_n 2, 1) := by decide +kernel
theorem dX7_change_19 : decode cX7_change 19 = .ok (.iconst 0, 1) := by decide +kernel
theorem dX7_change_20 : decode cX7_change 20 = .ok (.bipush 9, 2) := by decide +kernel
theorem dX7_change_22 : decode cX7_change 22 = .ok (.invokestatic 26, 3) := by decide +kernel
theorem dX7_change_25 : decode cX7_change 25 = .ok (.ifCond .ne 9, 3) := by decide +kernel
theorem dX7_change_28 : decode cX7_change 28 = .ok (.aload_n 0, 1) := by decide +kernel
theorem dX7_change_29 : decode cX7_change 29 = .ok (.iconst 2, 1) := by decide +kernel
theorem dX7_change_30 : decode cX7_change 30 = .ok (.invokevirtual 67, 3) := by decide +kernel
theorem dX7_change_33 : decode cX7_change 33 = .ok (.ireturn, 1) := by decide +kernel
theorem dX7_change_34 : decode cX7_change 34 = .ok (.aload_n 0, 1) := by decide +kernel
theorem dX7_change_35 : decode cX7_change 35 = .ok (.bipush 61, 2) := by decide +kernel
theorem dX7_change_37 : decode cX7_change 37 = .ok (.iload_n 1, 1) := by decide +kernel
theorem dX7_change_38 : decode cX7_change 38 = .ok (.invokevirtual 71, 3) := by decide +kernel
theorem dX7_change_41 : decode cX7_change 41 = .ok (.ifCond .ne 9, 3) := by decide +kernel
theorem dX7_change_44 : decode cX7_change 44 = .ok (.aload_n 0, 1) := by decide +kernel
theorem dX7_change_45 : decode cX7_change 45 = .ok (.iconst 3, 1) := by decide +kernel
theorem dX7_change_46 : decode cX7_change 46 = .ok (.invokevirtual 67, 3) := by decide +kernel
theorem dX7_change_49 : decode cX7_change 49 = .ok (.ireturn, 1) := by decide +kernel
theorem dX7_change_50 : decode cX7_change 50 = .ok (.aload_n 0, 1) := by decide +kernel
theorem dX7_change_51 : decode cX7_change 51 = .ok (.invokevirtual 74, 3) := by decide +kernel
theorem dX7_change_54 : decode cX7_change 54 = .ok (.aload_n 0, 1) := by decide +kernel
theorem dX7_change_55 : decode cX7_change 55 = .ok (.bipush 61, 2) := by decide +kernel
theorem dX7_change_57 : decode cX7_change 57 = .ok (.iload_n 1, 1) := by decide +kernel
theorem dX7_change_58 : decode cX7_change 58 = .ok (.iload_n 2, 1) := by decide +kernel
theorem dX7_change_59 : decode cX7_change 59 = .ok (.invokevirtual 77, 3) := by decide +kernel
theorem dX7_change_62 : decode cX7_change 62 = .ok (.ireturn, 1) := by decide +kernel
theorem dX7_horizonBut_0 : decode cX7_horizonBut 0 = .ok (.aload_n 0, 1) := by decide +kernel
theorem dX7_horizonBut_1 : decode cX7_horizonBut 1 = .ok (.getfield 7, 3) := by decide +kernel
theorem dX7_horizonBut_4 : decode cX7_horizonBut 4 = .ok (.iconst 0, 1) := by decide +kernel
theorem dX7_horizonBut_5 : decode cX7_horizonBut 5 = .ok (.iaload, 1) := by decide +kernel
theorem dX7_horizonBut_6 : decode cX7_horizonBut 6 = .ok (.istore_n 2, 1) := by decide +kernel
theorem dX7_horizonBut_7 : decode cX7_horizonBut 7 = .ok (.iconst 0, 1) := by decide +kernel
theorem dX7_horizonBut_8 : decode cX7_horizonBut 8 = .ok (.istore_n 3, 1) := by decide +kernel
theorem dX7_horizonBut_9 : decode cX7_horizonBut 9 = .ok (.iload_n 3, 1) := by decide +kernel
theorem dX7_horizonBut_10 : decode cX7_horizonBut 10 = .ok (.iconst 4, 1) := by decide +kernel
theorem dX7_horizonBut_11 : decode cX7_horizonBut 11 = .ok (.if_icmp .ge 40, 3) := by decide +kernel
theorem dX7_horizonBut_14 : decode cX7_horizonBut 14 = .ok (.aload_n 0, 1) := by decide +kernel
theorem dX7_horizonBut_15 : decode cX7_horizonBut 15 = .ok (.iload_n 3, 1) := by decide +kernel
theorem dX7_horizonBut_16 : decode cX7_horizonBut 16 = .ok (.invokevirtual 81, 3) := by decide +kernel
theorem dX7_horizonBut_19 : decode cX7_horizonBut 19 = .ok (.istore 4, 2) := by decide +kernel
theorem dX7_horizonBut_21 : decode cX7_horizonBut 21 = .ok (.iload_n 3, 1) := by decide +kernel
theorem dX7_horizonBut_22 : decode cX7_horizonBut 22 = .ok (.iload_n 1, 1) := by decide +kernel
theorem dX7_horizonBut_23 : decode cX7_horizonBut 23 = .ok (.if_icmp .eq 20, 3) := by decide +kernel
theorem dX7_horizonBut_26 : decode cX7_horizonBut 26 = .ok (.iload 4, 2) := by decide +kernel
theorem dX7_horizonBut_28 : decode cX7_horizonBut 28 = .ok (.iconst (-1), 1) := by decide +kernel
theorem dX7_horizonBut_29 : decode cX7_horizonBut 29 = .ok (.if_icmp .eq 14, 3) := by decide +kernel
theorem dX7_horizonBut_32 : decode cX7_horizonBut 32 = .ok (.iload 4, 2) := by decide +kernel
theorem dX7_horizonBut_34 : decode cX7_horizonBut 34 = .ok (.iload_n 2, 1) := by decide +kernel
theorem dX7_horizonBut_35 : decode cX7_horizonBut 35 = .ok (.if_icmp .ge 8, 3) := by decide +kernel
theorem dX7_horizonBut_38 : decode cX7_horizonBut 38 = .ok (.iload 4, 2) := by decide +kernel
theorem dX7_horizonBut_40 : decode cX7_horizonBut 40 = .ok (.goto 4, 3) := by decide +kernel
theorem dX7_horizonBut_43 : decode cX7_horizonBut 43 = .ok (.iload_n 2, 1) := by decide +kernel
theorem dX7_horizonBut_44 : decode cX7_horizonBut 44 = .ok (.istore_n 2, 1) := by decide +kernel
theorem dX7_horizonBut_45 : decode cX7_horizonBut 45 = .ok (.iinc 3 1, 3) := by decide +kernel
theorem dX7_horizonBut_48 : decode cX7_horizonBut 48 = .ok (.goto (-39), 3) := by decide +kernel
theorem dX7_horizonBut_51 : decode cX7_horizonBut 51 = .ok (.iload_n 2, 1) := by decide +kernel
theorem dX7_horizonBut_52 : decode cX7_horizonBut 52 = .ok (.ireturn, 1) := by decide +kernel
theorem dX7_horizon_0 : decode cX7_horizon 0 = .ok (.aload_n 0, 1) := by decide +kernel
theorem dX7_horizon_1 : decode cX7_horizon 1 = .ok (.iconst (-1), 1) := by decide +kernel
theorem dX7_horizon_2 : decode cX7_horizon 2 = .ok (.invokevirtual 84, 3) := by decide +kernel
theorem dX7_horizon_5 : decode cX7_horizon 5 = .ok (.ireturn, 1) := by decide +kernel
theorem dX7_open_0 : decode cX7_open 0 = .ok (.aload_n 0, 1) := by decide +kernel
theorem dX7_open_1 : decode cX7_open 1 = .ok (.iconst 0, 1) := by decide +kernel
theorem dX7_open_2 : decode cX7_open 2 = .ok (.putfield 22, 3) := by decide +kernel
theorem dX7_open_5 : decode cX7_open 5 = .ok (.iload_n 1, 1) := by decide +kernel
theorem dX7_open_6 : decode cX7_open 6 = .ok (.invokestatic 87, 3) := by decide +kernel
theorem dX7_open_9 : decode cX7_open 9 = .ok (.ifCond .ne 9, 3) := by decide +kernel
theorem dX7_open_12 : decode cX7_open 12 = .ok (.aload_n 0, 1) := by decide +kernel
theorem dX7_open_13 : decode cX7_open 13 = .ok (.iconst 1, 1) := by decide +kernel
theorem dX7_open_14 : decode cX7_open 14 = .ok (.invokevirtual 67, 3) := by decide +kernel
theorem dX7_open_17 : decode cX7_open 17 = .ok (.ireturn, 1) := by decide +kernel
theorem dX7_open_18 : decode cX7_open 18 = .ok (.aload_n 0, 1) := by decide +kernel
theorem dX7_open_19 : decode cX7_open 19 = .ok (.invokevirtual 74, 3) := by decide +kernel
theorem dX7_open_22 : decode cX7_open 22 = .ok (.aload_n 0, 1) := by decide +kernel
theorem dX7_open_23 : decode cX7_open 23 = .ok (.getfield 7, 3) := by decide +kernel
theorem dX7_open_26 : decode cX7_open 26 = .ok (.bipush 91, 2) := by decide +kernel
theorem dX7_open_28 : decode cX7_open 28 = .ok (.iconst 2, 1) := by decide +kernel
theorem dX7_open_29 : decode cX7_open 29 = .ok (.iload_n 1, 1) := by decide +kernel
theorem dX7_open_30 : decode cX7_open 30 = .ok (.imul, 1) := by decide +kernel
theorem dX7_open_31 : decode cX7_open 31 = .ok (.iadd, 1) := by decide +kernel
theorem dX7_open_32 : decode cX7_open 32 = .ok (.iconst 0, 1) := by decide +kernel
theorem dX7_open_33 : decode cX7_open 33 = .ok (.iadd, 1) := by decide +kernel
theorem dX7_open_34 : decode cX7_open 34 = .ok (.aload_n 0, 1) := by decide +kernel
theorem dX7_open_35 : decode cX7_open 35 = .ok (.getfield 7, 3) := by decide +kernel
theorem dX7_open_38 : decode cX7_open 38 = .ok (.iconst 0, 1) := by decide +kernel
theorem dX7_open_39 : decode cX7_open 39 = .ok (.iaload, 1) := by decide +kernel
theorem dX7_open_40 : decode cX7_open 40 = .ok (.iconst 1, 1) := by decide +kernel
theorem dX7_open_41 : decode cX7_open 41 = .ok (.iadd, 1) := by decide +kernel
theorem dX7_open_42 : decode cX7_open 42 = .ok (.iastore, 1) := by decide +kernel
theorem dX7_open_43 : decode cX7_open 43 = .ok (.aload_n 0, 1) := by decide +kernel
theorem dX7_open_44 : decode cX7_open 44 = .ok (.getfield 7, 3) := by decide +kernel
theorem dX7_open_47 : decode cX7_open 47 = .ok (.iconst 0, 1) := by decide +kernel
theorem dX7_open_48 : decode cX7_open 48 = .ok (.iaload, 1) := by decide +kernel
theorem dX7_open_49 : decode cX7_open 49 = .ok (.ireturn, 1) := by decide +kernel
theorem dX7_close_0 : decode cX7_close 0 = .ok (.aload_n 0, 1) := by decide +kernel
theorem dX7_close_1 : decode cX7_close 1 = .ok (.iconst 0, 1) := by decide +kernel
theorem dX7_close_2 : decode cX7_close 2 = .ok (.putfield 22, 3) := by decide +kernel
theorem dX7_close_5 : decode cX7_close 5 = .ok (.iload_n 1, 1) := by decide +kernel
theorem dX7_close_6 : decode cX7_close 6 = .ok (.invokestatic 87, 3) := by decide +kernel
theorem dX7_close_9 : decode cX7_close 9 = .ok (.ifCond .ne 9, 3) := by decide +kernel
theorem dX7_close_12 : decode cX7_close 12 = .ok (.aload_n 0, 1) := by decide +kernel
theorem dX7_close_13 : decode cX7_close 13 = .ok (.iconst 1, 1) := by decide +kernel
theorem dX7_close_14 : decode cX7_close 14 = .ok (.invokevirtual 67, 3) := by decide +kernel
theorem dX7_close_17 : decode cX7_close 17 = .ok (.ireturn, 1) := by decide +kernel
theorem dX7_close_18 : decode cX7_close 18 = .ok (.aload_n 0, 1) := by decide +kernel
theorem dX7_close_19 : decode cX7_close 19 = .ok (.iload_n 1, 1) := by decide +kernel
theorem dX7_close_20 : decode cX7_close 20 = .ok (.invokevirtual 81, 3) := by decide +kernel
theorem dX7_close_23 : decode cX7_close 23 = .ok (.istore_n 2, 1) := by decide +kernel
theorem dX7_close_24 : decode cX7_close 24 = .ok (.iload_n 2, 1) := by decide +kernel
theorem dX7_close_25 : decode cX7_close 25 = .ok (.iconst (-1), 1) := by decide +kernel
theorem dX7_close_26 : decode cX7_close 26 = .ok (.if_icmp .ne 9, 3) := by decide +kernel
theorem dX7_close_29 : decode cX7_close 29 = .ok (.aload_n 0, 1) := by decide +kernel
theorem dX7_close_30 : decode cX7_close 30 = .ok (.iconst 2, 1) := by decide +kernel
theorem dX7_close_31 : decode cX7_close 31 = .ok (.invokevirtual 67, 3) := by decide +kernel
theorem dX7_close_34 : decode cX7_close 34 = .ok (.ireturn, 1) := by decide +kernel
theorem dX7_close_35 : decode cX7_close 35 = .ok (.aload_n 0, 1) := by decide +kernel
theorem dX7_close_36 : decode cX7_close 36 = .ok (.invokevirtual 74, 3) := by decide +kernel
theorem dX7_close_39 : decode cX7_close 39 = .ok (.aload_n 0, 1) := by decide +kernel
theorem dX7_close_40 : decode cX7_close 40 = .ok (.getfield 7, 3) := by decide +kernel
theorem dX7_close_43 : decode cX7_close 43 = .ok (.bipush 91, 2) := by decide +kernel
theorem dX7_close_45 : decode cX7_close 45 = .ok (.iconst 2, 1) := by decide +kernel
theorem dX7_close_46 : decode cX7_close 46 = .ok (.iload_n 1, 1) := by decide +kernel
theorem dX7_close_47 : decode cX7_close 47 = .ok (.imul, 1) := by decide +kernel
theorem dX7_close_48 : decode cX7_close 48 = .ok (.iadd, 1) := by decide +kernel
theorem dX7_close_49 : decode cX7_close 49 = .ok (.iconst 0, 1) := by decide +kernel
theorem dX7_close_50 : decode cX7_close 50 = .ok (.iadd, 1) := by decide +kernel
theorem dX7_close_51 : decode cX7_close 51 = .ok (.iconst 0, 1) := by decide +kernel
theorem dX7_close_52 : decode cX7_close 52 = .ok (.iastore, 1) := by decide +kernel
theorem dX7_close_53 : decode cX7_close 53 = .ok (.iload_n 2, 1) := by decide +kernel
theorem dX7_close_54 : decode cX7_close 54 = .ok (.ireturn, 1) := by decide +kernel
theorem dX7_isOld_0 : decode cX7_isOld 0 = .ok (.aload_n 0, 1) := by decide +kernel
theorem dX7_isOld_1 : decode cX7_isOld 1 = .ok (.iload_n 1, 1) := by decide +kernel
theorem dX7_isOld_2 : decode cX7_isOld 2 = .ok (.invokevirtual 37, 3) := by decide +kernel
theorem dX7_isOld_5 : decode cX7_isOld 5 = .ok (.ifCond .eq 26, 3) := by decide +kernel
theorem dX7_isOld_8 : decode cX7_isOld 8 = .ok (.aload_n 0, 1) := by decide +kernel
theorem dX7_isOld_9 : decode cX7_isOld 9 = .ok (.iload_n 1, 1) := by decide +kernel
theorem dX7_isOld_10 : decode cX7_isOld 10 = .ok (.iconst 2, 1) := by decide +kernel
theorem dX7_isOld_11 : decode cX7_isOld 11 = .ok (.invokevirtual 33, 3) := by decide +kernel
theorem dX7_isOld_14 : decode cX7_isOld 14 = .ok (.ifCond .le 17, 3) := by decide +kernel
theorem dX7_isOld_17 : decode cX7_isOld 17 = .ok (.aload_n 0, 1) := by decide +kernel
theorem dX7_isOld_18 : decode cX7_isOld 18 = .ok (.iload_n 1, 1) := by decide +kernel
theorem dX7_isOld_19 : decode cX7_isOld 19 = .ok (.iconst 2, 1) := by decide +kernel
theorem dX7_isOld_20 : decode cX7_isOld 20 = .ok (.invokevirtual 33, 3) := by decide +kernel
theorem dX7_isOld_23 : decode cX7_isOld 23 = .ok (.iload_n 2, 1) := by decide +kernel
theorem dX7_isOld_24 : decode cX7_isOld 24 = .ok (.if_icmp .gt 7, 3) := by decide +kernel
theorem dX7_isOld_27 : decode cX7_isOld 27 = .ok (.iconst 1, 1) := by decide +kernel
theorem dX7_isOld_28 : decode cX7_isOld 28 = .ok (.goto 4, 3) := by decide +kernel
theorem dX7_isOld_31 : decode cX7_isOld 31 = .ok (.iconst 0, 1) := by decide +kernel
theorem dX7_isOld_32 : decode cX7_isOld 32 = .ok (.ireturn, 1) := by decide +kernel
theorem dX7_oldIn_0 : decode cX7_oldIn 0 = .ok (.iconst 0, 1) := by decide +kernel
theorem dX7_oldIn_1 : decode cX7_oldIn 1 = .ok (.istore_n 3, 1) := by decide +kernel
theorem dX7_oldIn_2 : decode cX7_oldIn 2 = .ok (.iconst 4, 1) := by decide +kernel
theorem dX7_oldIn_3 : decode cX7_oldIn 3 = .ok (.iload_n 1, 1) := by decide +kernel
theorem dX7_oldIn_4 : decode cX7_oldIn 4 = .ok (.imul, 1) := by decide +kernel
theorem dX7_oldIn_5 : decode cX7_oldIn 5 = .ok (.istore 4, 2) := by decide +kernel
theorem dX7_oldIn_7 : decode cX7_oldIn 7 = .ok (.iload 4, 2) := by decide +kernel
theorem dX7_oldIn_9 : decode cX7_oldIn 9 = .ok (.iconst 4, 1) := by decide +kernel
theorem dX7_oldIn_10 : decode cX7_oldIn 10 = .ok (.iload_n 1, 1) := by decide +kernel
theorem dX7_oldIn_11 : decode cX7_oldIn 11 = .ok (.imul, 1) := by decide +kernel
theorem dX7_oldIn_12 : decode cX7_oldIn 12 = .ok (.iconst 4, 1) := by decide +kernel
theorem dX7_oldIn_13 : decode cX7_oldIn 13 = .ok (.iadd, 1) := by decide +kernel
theorem dX7_oldIn_14 : decode cX7_oldIn 14 = .ok (.if_icmp .ge 27, 3) := by decide +kernel
theorem dX7_oldIn_17 : decode cX7_oldIn 17 = .ok (.iload_n 3, 1) := by decide +kernel
theorem dX7_oldIn_18 : decode cX7_oldIn 18 = .ok (.aload_n 0, 1) := by decide +kernel
theorem dX7_oldIn_19 : decode cX7_oldIn 19 = .ok (.iload 4, 2) := by decide +kernel
theorem dX7_oldIn_21 : decode cX7_oldIn 21 = .ok (.iload_n 2, 1) := by decide +kernel
theorem dX7_oldIn_22 : decode cX7_oldIn 22 = .ok (.invokevirtual 90, 3) := by decide +kernel
theorem dX7_oldIn_25 : decode cX7_oldIn 25 = .ok (.ifCond .eq 7, 3) := by decide +kernel
theorem dX7_oldIn_28 : decode cX7_oldIn 28 = .ok (.iconst 1, 1) := by decide +kernel
theorem dX7_oldIn_29 : decode cX7_oldIn 29 = .ok (.goto 4, 3) := by decide +kernel
theorem dX7_oldIn_32 : decode cX7_oldIn 32 = .ok (.iconst 0, 1) := by decide +kernel
theorem dX7_oldIn_33 : decode cX7_oldIn 33 = .ok (.iadd, 1) := by decide +kernel
theorem dX7_oldIn_34 : decode cX7_oldIn 34 = .ok (.istore_n 3, 1) := by decide +kernel
theorem dX7_oldIn_35 : decode cX7_oldIn 35 = .ok (.iinc 4 1, 3) := by decide +kernel
theorem dX7_oldIn_38 : decode cX7_oldIn 38 = .ok (.goto (-31), 3) := by decide +kernel
theorem dX7_oldIn_41 : decode cX7_oldIn 41 = .ok (.iload_n 3, 1) := by decide +kernel
theorem dX7_oldIn_42 : decode cX7_oldIn 42 = .ok (.ireturn, 1) := by decide +kernel
theorem dX7_sweeps_0 : decode cX7_sweeps 0 = .ok (.aload_n 0, 1) := by decide +kernel
theorem dX7_sweeps_1 : decode cX7_sweeps 1 = .ok (.invokevirtual 93, 3) := by decide +kernel
theorem dX7_sweeps_4 : decode cX7_sweeps 4 = .ok (.istore_n 2, 1) := by decide +kernel
theorem dX7_sweeps_5 : decode cX7_sweeps 5 = .ok (.aload_n 0, 1) := by decide +kernel
theorem dX7_sweeps_6 : decode cX7_sweeps 6 = .ok (.iload_n 1, 1) := by decide +kernel
theorem dX7_sweeps_7 : decode cX7_sweeps 7 = .ok (.iload_n 2, 1) := by decide +kernel
theorem dX7_sweeps_8 : decode cX7_sweeps 8 = .ok (.invokevirtual 96, 3) := by decide +kernel
theorem dX7_sweeps_11 : decode cX7_sweeps 11 = .ok (.istore_n 3, 1) := by decide +kernel
theorem dX7_sweeps_12 : decode cX7_sweeps 12 = .ok (.iconst 1, 1) := by decide +kernel
theorem dX7_sweeps_13 : decode cX7_sweeps 13 = .ok (.istore 4, 2) := by decide +kernel
theorem dX7_sweeps_15 : decode cX7_sweeps 15 = .ok (.iconst 4, 1) := by decide +kernel
theorem dX7_sweeps_16 : decode cX7_sweeps 16 = .ok (.iload_n 1, 1) := by decide +kernel
theorem dX7_sweeps_17 : decode cX7_sweeps 17 = .ok (.imul, 1) := by decide +kernel
theorem dX7_sweeps_18 : decode cX7_sweeps 18 = .ok (.istore 5, 2) := by decide +kernel
theorem dX7_sweeps_20 : decode cX7_sweeps 20 = .ok (.iload 5, 2) := by decide +kernel
theorem dX7_sweeps_22 : decode cX7_sweeps 22 = .ok (.iconst 4, 1) := by decide +kernel
theorem dX7_sweeps_23 : decode cX7_sweeps 23 = .ok (.iload_n 1, 1) := by decide +kernel
theorem dX7_sweeps_24 : decode cX7_sweeps 24 = .ok (.imul, 1) := by decide +kernel
theorem dX7_sweeps_25 : decode cX7_sweeps 25 = .ok (.iconst 4, 1) := by decide +kernel
theorem dX7_sweeps_26 : decode cX7_sweeps 26 = .ok (.iadd, 1) := by decide +kernel
theorem dX7_sweeps_27 : decode cX7_sweeps 27 = .ok (.if_icmp .ge 70, 3) := by decide +kernel
theorem dX7_sweeps_30 : decode cX7_sweeps 30 = .ok (.aload_n 0, 1) := by decide +kernel
theorem dX7_sweeps_31 : decode cX7_sweeps 31 = .ok (.iload 5, 2) := by decide +kernel
theorem dX7_sweeps_33 : decode cX7_sweeps 33 = .ok (.iload_n 2, 1) := by decide +kernel
theorem dX7_sweeps_34 : decode cX7_sweeps 34 = .ok (.invokevirtual 90, 3) := by decide +kernel
theorem dX7_sweeps_37 : decode cX7_sweeps 37 = .ok (.ifCond .eq 12, 3) := by decide +kernel
theorem dX7_sweeps_40 : decode cX7_sweeps 40 = .ok (.aload_n 0, 1) := by decide +kernel
theorem dX7_sweeps_41 : decode cX7_sweeps 41 = .ok (.iload 5, 2) := by decide +kernel
theorem dX7_sweeps_43 : decode cX7_sweeps 43 = .ok (.iconst 0, 1) := by decide +kernel
theorem dX7_sweeps_44 : decode cX7_sweeps 44 = .ok (.iconst 0, 1) := by decide +kernel
theorem dX7_sweeps_45 : decode cX7_sweeps 45 = .ok (.iconst 0, 1) := by decide +kernel
theorem dX7_sweeps_46 : decode cX7_sweeps 46 = .ok (.invokevirtual 41, 3) := by decide +kernel
theorem dX7_sweeps_49 : decode cX7_sweeps 49 = .ok (.iload 4, 2) := by decide +kernel
theorem dX7_sweeps_51 : decode cX7_sweeps 51 = .ok (.ifCond .eq 37, 3) := by decide +kernel
theorem dX7_sweeps_54 : decode cX7_sweeps 54 = .ok (.aload_n 0, 1) := by decide +kernel
theorem dX7_sweeps_55 : decode cX7_sweeps 55 = .ok (.iload 5, 2) := by decide +kernel
theorem dX7_sweeps_57 : decode cX7_sweeps 57 = .ok (.invokevirtual 37, 3) := by decide +kernel
theorem dX7_sweeps_60 : decode cX7_sweeps 60 = .ok (.ifCond .eq 24, 3) := by decide +kernel
theorem dX7_sweeps_63 : decode cX7_sweeps 63 = .ok (.aload_n 0, 1) := by decide +kernel
theorem dX7_sweeps_64 : decode cX7_sweeps 64 = .ok (.iload 5, 2) := by decide +kernel
theorem dX7_sweeps_66 : decode cX7_sweeps 66 = .ok (.iconst 1, 1) := by decide +kernel
theorem dX7_sweeps_67 : decode cX7_sweeps 67 = .ok (.invokevirtual 33, 3) := by decide +kernel
theorem dX7_sweeps_70 : decode cX7_sweeps 70 = .ok (.iload_n 2, 1) := by decide +kernel
theorem dX7_sweeps_71 : decode cX7_sweeps 71 = .ok (.if_icmp .gt 17, 3) := by decide +kernel
theorem dX7_sweeps_74 : decode cX7_sweeps 74 = .ok (.aload_n 0, 1) := by decide +kernel
theorem dX7_sweeps_75 : decode cX7_sweeps 75 = .ok (.iload 5, 2) := by decide +kernel
theorem dX7_sweeps_77 : decode cX7_sweeps 77 = .ok (.iconst 2, 1) := by decide +kernel
theorem dX7_sweeps_78 : decode cX7_sweeps 78 = .ok (.invokevirtual 33, 3) := by decide +kernel
theorem dX7_sweeps_81 : decode cX7_sweeps 81 = .ok (.ifCond .ne 7, 3) := by decide +kernel
theorem dX7_sweeps_84 : decode cX7_sweeps 84 = .ok (.iconst 1, 1) := by decide +kernel
theorem dX7_sweeps_85 : decode cX7_sweeps 85 = .ok (.goto 4, 3) := by decide +kernel
theorem dX7_sweeps_88 : decode cX7_sweeps 88 = .ok (.iconst 0, 1) := by decide +kernel
theorem dX7_sweeps_89 : decode cX7_sweeps 89 = .ok (.istore 4, 2) := by decide +kernel
theorem dX7_sweeps_91 : decode cX7_sweeps 91 = .ok (.iinc 5 1, 3) := by decide +kernel
theorem dX7_sweeps_94 : decode cX7_sweeps 94 = .ok (.goto (-74), 3) := by decide +kernel
theorem dX7_sweeps_97 : decode cX7_sweeps 97 = .ok (.iload 4, 2) := by decide +kernel
theorem dX7_sweeps_99 : decode cX7_sweeps 99 = .ok (.ifCond .eq 31, 3) := by decide +kernel
theorem dX7_sweeps_102 : decode cX7_sweeps 102 = .ok (.aload_n 0, 1) := by decide +kernel
theorem dX7_sweeps_103 : decode cX7_sweeps 103 = .ok (.getfield 7, 3) := by decide +kernel
theorem dX7_sweeps_106 : decode cX7_sweeps 106 = .ok (.bipush 79, 2) := by decide +kernel
theorem dX7_sweeps_108 : decode cX7_sweeps 108 = .ok (.iconst 2, 1) := by decide +kernel
theorem dX7_sweeps_109 : decode cX7_sweeps 109 = .ok (.iload_n 1, 1) := by decide +kernel
theorem dX7_sweeps_110 : decode cX7_sweeps 110 = .ok (.imul, 1) := by decide +kernel
theorem dX7_sweeps_111 : decode cX7_sweeps 111 = .ok (.iadd, 1) := by decide +kernel
theorem dX7_sweeps_112 : decode cX7_sweeps 112 = .ok (.iconst 0, 1) := by decide +kernel
theorem dX7_sweeps_113 : decode cX7_sweeps 113 = .ok (.iadd, 1) := by decide +kernel
theorem dX7_sweeps_114 : decode cX7_sweeps 114 = .ok (.iconst 1, 1) := by decide +kernel
theorem dX7_sweeps_115 : decode cX7_sweeps 115 = .ok (.iastore, 1) := by decide +kernel
theorem dX7_sweeps_116 : decode cX7_sweeps 116 = .ok (.aload_n 0, 1) := by decide +kernel
theorem dX7_sweeps_117 : decode cX7_sweeps 117 = .ok (.getfield 7, 3) := by decide +kernel
theorem dX7_sweeps_120 : decode cX7_sweeps 120 = .ok (.bipush 79, 2) := by decide +kernel
theorem dX7_sweeps_122 : decode cX7_sweeps 122 = .ok (.iconst 2, 1) := by decide +kernel
theorem dX7_sweeps_123 : decode cX7_sweeps 123 = .ok (.iload_n 1, 1) := by decide +kernel
theorem dX7_sweeps_124 : decode cX7_sweeps 124 = .ok (.imul, 1) := by decide +kernel
theorem dX7_sweeps_125 : decode cX7_sweeps 125 = .ok (.iadd, 1) := by decide +kernel
theorem dX7_sweeps_126 : decode cX7_sweeps 126 = .ok (.iconst 1, 1) := by decide +kernel
theorem dX7_sweeps_127 : decode cX7_sweeps 127 = .ok (.iadd, 1) := by decide +kernel
theorem dX7_sweeps_128 : decode cX7_sweeps 128 = .ok (.iload_n 2, 1) := by decide +kernel
theorem dX7_sweeps_129 : decode cX7_sweeps 129 = .ok (.iastore, 1) := by decide +kernel
theorem dX7_sweeps_130 : decode cX7_sweeps 130 = .ok (.aload_n 0, 1) := by decide +kernel
theorem dX7_sweeps_131 : decode cX7_sweeps 131 = .ok (.getfield 7, 3) := by decide +kernel
theorem dX7_sweeps_134 : decode cX7_sweeps 134 = .ok (.bipush 6, 2) := by decide +kernel
theorem dX7_sweeps_136 : decode cX7_sweeps 136 = .ok (.dup2, 1) := by decide +kernel
theorem dX7_sweeps_137 : decode cX7_sweeps 137 = .ok (.iaload, 1) := by decide +kernel
theorem dX7_sweeps_138 : decode cX7_sweeps 138 = .ok (.iload_n 3, 1) := by decide +kernel
theorem dX7_sweeps_139 : decode cX7_sweeps 139 = .ok (.iadd, 1) := by decide +kernel
theorem dX7_sweeps_140 : decode cX7_sweeps 140 = .ok (.iastore, 1) := by decide +kernel
theorem dX7_sweeps_141 : decode cX7_sweeps 141 = .ok (.iload_n 3, 1) := by decide +kernel
theorem dX7_sweeps_142 : decode cX7_sweeps 142 = .ok (.ireturn, 1) := by decide +kernel
theorem dX7_sweep_0 : decode cX7_sweep 0 = .ok (.aload_n 0, 1) := by decide +kernel
theorem dX7_sweep_1 : decode cX7_sweep 1 = .ok (.iconst 0, 1) := by decide +kernel
theorem dX7_sweep_2 : decode cX7_sweep 2 = .ok (.putfield 22, 3) := by decide +kernel
theorem dX7_sweep_5 : decode cX7_sweep 5 = .ok (.iload_n 1, 1) := by decide +kernel
theorem dX7_sweep_6 : decode cX7_sweep 6 = .ok (.invokestatic 99, 3) := by decide +kernel
theorem dX7_sweep_9 : decode cX7_sweep 9 = .ok (.ifCond .ne 9, 3) := by decide +kernel
theorem dX7_sweep_12 : decode cX7_sweep 12 = .ok (.aload_n 0, 1) := by decide +kernel
theorem dX7_sweep_13 : decode cX7_sweep 13 = .ok (.iconst 1, 1) := by decide +kernel
theorem dX7_sweep_14 : decode cX7_sweep 14 = .ok (.invokevirtual 67, 3) := by decide +kernel
theorem dX7_sweep_17 : decode cX7_sweep 17 = .ok (.ireturn, 1) := by decide +kernel
theorem dX7_sweep_18 : decode cX7_sweep 18 = .ok (.aload_n 0, 1) := by decide +kernel
theorem dX7_sweep_19 : decode cX7_sweep 19 = .ok (.invokevirtual 74, 3) := by decide +kernel
theorem dX7_sweep_22 : decode cX7_sweep 22 = .ok (.aload_n 0, 1) := by decide +kernel
theorem dX7_sweep_23 : decode cX7_sweep 23 = .ok (.iload_n 1, 1) := by decide +kernel
theorem dX7_sweep_24 : decode cX7_sweep 24 = .ok (.invokevirtual 102, 3) := by decide +kernel
theorem dX7_sweep_27 : decode cX7_sweep 27 = .ok (.ireturn, 1) := by decide +kernel
theorem dX7_markedPages_0 : decode cX7_markedPages 0 = .ok (.iconst 0, 1) := by decide +kernel
theorem dX7_markedPages_1 : decode cX7_markedPages 1 = .ok (.istore_n 1, 1) := by decide +kernel
theorem dX7_markedPages_2 : decode cX7_markedPages 2 = .ok (.iconst 0, 1) := by decide +kernel
theorem dX7_markedPages_3 : decode cX7_markedPages 3 = .ok (.istore_n 2, 1) := by decide +kernel
theorem dX7_markedPages_4 : decode cX7_markedPages 4 = .ok (.iload_n 2, 1) := by decide +kernel
theorem dX7_markedPages_5 : decode cX7_markedPages 5 = .ok (.bipush 6, 2) := by decide +kernel
theorem dX7_markedPages_7 : decode cX7_markedPages 7 = .ok (.if_icmp .ge 18, 3) := by decide +kernel
theorem dX7_markedPages_10 : decode cX7_markedPages 10 = .ok (.iload_n 1, 1) := by decide +kernel
theorem dX7_markedPages_11 : decode cX7_markedPages 11 = .ok (.aload_n 0, 1) := by decide +kernel
theorem dX7_markedPages_12 : decode cX7_markedPages 12 = .ok (.iload_n 2, 1) := by decide +kernel
theorem dX7_markedPages_13 : decode cX7_markedPages 13 = .ok (.iconst 0, 1) := by decide +kernel
theorem dX7_markedPages_14 : decode cX7_markedPages 14 = .ok (.invokevirtual 105, 3) := by decide +kernel
theorem dX7_markedPages_17 : decode cX7_markedPages 17 = .ok (.iadd, 1) := by decide +kernel
theorem dX7_markedPages_18 : decode cX7_markedPages 18 = .ok (.istore_n 1, 1) := by decide +kernel
theorem dX7_markedPages_19 : decode cX7_markedPages 19 = .ok (.iinc 2 1, 3) := by decide +kernel
theorem dX7_markedPages_22 : decode cX7_markedPages 22 = .ok (.goto (-18), 3) := by decide +kernel
theorem dX7_markedPages_25 : decode cX7_markedPages 25 = .ok (.iload_n 1, 1) := by decide +kernel
theorem dX7_markedPages_26 : decode cX7_markedPages 26 = .ok (.ireturn, 1) := by decide +kernel
theorem dX7_sweepAll_0 : decode cX7_sweepAll 0 = .ok (.aload_n 0, 1) := by decide +kernel
theorem dX7_sweepAll_1 : decode cX7_sweepAll 1 = .ok (.iconst 0, 1) := by decide +kernel
theorem dX7_sweepAll_2 : decode cX7_sweepAll 2 = .ok (.putfield 22, 3) := by decide +kernel
theorem dX7_sweepAll_5 : decode cX7_sweepAll 5 = .ok (.aload_n 0, 1) := by decide +kernel
theorem dX7_sweepAll_6 : decode cX7_sweepAll 6 = .ok (.invokevirtual 74, 3) := by decide +kernel
theorem dX7_sweepAll_9 : decode cX7_sweepAll 9 = .ok (.iconst 0, 1) := by decide +kernel
theorem dX7_sweepAll_10 : decode cX7_sweepAll 10 = .ok (.istore_n 1, 1) := by decide +kernel
theorem dX7_sweepAll_11 : decode cX7_sweepAll 11 = .ok (.iload_n 1, 1) := by decide +kernel
theorem dX7_sweepAll_12 : decode cX7_sweepAll 12 = .ok (.bipush 6, 2) := by decide +kernel
theorem dX7_sweepAll_14 : decode cX7_sweepAll 14 = .ok (.if_icmp .ge 15, 3) := by decide +kernel
theorem dX7_sweepAll_17 : decode cX7_sweepAll 17 = .ok (.aload_n 0, 1) := by decide +kernel
theorem dX7_sweepAll_18 : decode cX7_sweepAll 18 = .ok (.iload_n 1, 1) := by decide +kernel
theorem dX7_sweepAll_19 : decode cX7_sweepAll 19 = .ok (.invokevirtual 102, 3) := by decide +kernel
theorem dX7_sweepAll_22 : decode cX7_sweepAll 22 = .ok (.pop, 1) := by decide +kernel
theorem dX7_sweepAll_23 : decode cX7_sweepAll 23 = .ok (.iinc 1 1, 3) := by decide +kernel
theorem dX7_sweepAll_26 : decode cX7_sweepAll 26 = .ok (.goto (-15), 3) := by decide +kernel
theorem dX7_sweepAll_29 : decode cX7_sweepAll 29 = .ok (.aload_n 0, 1) := by decide +kernel
theorem dX7_sweepAll_30 : decode cX7_sweepAll 30 = .ok (.invokevirtual 108, 3) := by decide +kernel
theorem dX7_sweepAll_33 : decode cX7_sweepAll 33 = .ok (.ireturn, 1) := by decide +kernel
theorem dX7_greatestMark_0 : decode cX7_greatestMark 0 = .ok (.iconst 0, 1) := by decide +kernel
theorem dX7_greatestMark_1 : decode cX7_greatestMark 1 = .ok (.istore_n 1, 1) := by decide +kernel
theorem dX7_greatestMark_2 : decode cX7_greatestMark 2 = .ok (.iconst 0, 1) := by decide +kernel
theorem dX7_greatestMark_3 : decode cX7_greatestMark 3 = .ok (.istore_n 2, 1) := by decide +kernel
theorem dX7_greatestMark_4 : decode cX7_greatestMark 4 = .ok (.iload_n 2, 1) := by decide +kernel
theorem dX7_greatestMark_5 : decode cX7_greatestMark 5 = .ok (.bipush 6, 2) := by decide +kernel
theorem dX7_greatestMark_7 : decode cX7_greatestMark 7 = .ok (.if_icmp .ge 40, 3) := by decide +kernel
theorem dX7_greatestMark_10 : decode cX7_greatestMark 10 = .ok (.aload_n 0, 1) := by decide +kernel
theorem dX7_greatestMark_11 : decode cX7_greatestMark 11 = .ok (.iload_n 2, 1) := by decide +kernel
theorem dX7_greatestMark_12 : decode cX7_greatestMark 12 = .ok (.iconst 0, 1) := by decide +kernel
theorem dX7_greatestMark_13 : decode cX7_greatestMark 13 = .ok (.invokevirtual 105, 3) := by decide +kernel
theorem dX7_greatestMark_16 : decode cX7_greatestMark 16 = .ok (.iconst 1, 1) := by decide +kernel
theorem dX7_greatestMark_17 : decode cX7_greatestMark 17 = .ok (.if_icmp .ne 22, 3) := by decide +kernel
theorem dX7_greatestMark_20 : decode cX7_greatestMark 20 = .ok (.aload_n 0, 1) := by decide +kernel
theorem dX7_greatestMark_21 : decode cX7_greatestMark 21 = .ok (.iload_n 2, 1) := by decide +kernel
theorem dX7_greatestMark_22 : decode cX7_greatestMark 22 = .ok (.iconst 1, 1) := by decide +kernel
theorem dX7_greatestMark_23 : decode cX7_greatestMark 23 = .ok (.invokevirtual 105, 3) := by decide +kernel
theorem dX7_greatestMark_26 : decode cX7_greatestMark 26 = .ok (.iload_n 1, 1) := by decide +kernel
theorem dX7_greatestMark_27 : decode cX7_greatestMark 27 = .ok (.if_icmp .le 12, 3) := by decide +kernel
theorem dX7_greatestMark_30 : decode cX7_greatestMark 30 = .ok (.aload_n 0, 1) := by decide +kernel
theorem dX7_greatestMark_31 : decode cX7_greatestMark 31 = .ok (.iload_n 2, 1) := by decide +kernel
theorem dX7_greatestMark_32 : decode cX7_greatestMark 32 = .ok (.iconst 1, 1) := by decide +kernel
theorem dX7_greatestMark_33 : decode cX7_greatestMark 33 = .ok (.invokevirtual 105, 3) := by decide +kernel
theorem dX7_greatestMark_36 : decode cX7_greatestMark 36 = .ok (.goto 4, 3) := by decide +kernel
theorem dX7_greatestMark_39 : decode cX7_greatestMark 39 = .ok (.iload_n 1, 1) := by decide +kernel
theorem dX7_greatestMark_40 : decode cX7_greatestMark 40 = .ok (.istore_n 1, 1) := by decide +kernel
theorem dX7_greatestMark_41 : decode cX7_greatestMark 41 = .ok (.iinc 2 1, 3) := by decide +kernel
theorem dX7_greatestMark_44 : decode cX7_greatestMark 44 = .ok (.goto (-40), 3) := by decide +kernel
theorem dX7_greatestMark_47 : decode cX7_greatestMark 47 = .ok (.iload_n 1, 1) := by decide +kernel
theorem dX7_greatestMark_48 : decode cX7_greatestMark 48 = .ok (.ireturn, 1) := by decide +kernel
theorem dX7_truly_0 : decode cX7_truly 0 = .ok (.iload_n 2, 1) := by decide +kernel
theorem dX7_truly_1 : decode cX7_truly 1 = .ok (.iconst 2, 1) := by decide +kernel
theorem dX7_truly_2 : decode cX7_truly 2 = .ok (.if_icmp .ne 15, 3) := by decide +kernel
theorem dX7_truly_5 : decode cX7_truly 5 = .ok (.iload_n 1, 1) := by decide +kernel
theorem dX7_truly_6 : decode cX7_truly 6 = .ok (.aload_n 0, 1) := by decide +kernel
theorem dX7_truly_7 : decode cX7_truly 7 = .ok (.invokevirtual 111, 3) := by decide +kernel
theorem dX7_truly_10 : decode cX7_truly 10 = .ok (.if_icmp .ge 7, 3) := by decide +kernel
theorem dX7_truly_13 : decode cX7_truly 13 = .ok (.iconst 1, 1) := by decide +kernel
theorem dX7_truly_14 : decode cX7_truly 14 = .ok (.goto 4, 3) := by decide +kernel
theorem dX7_truly_17 : decode cX7_truly 17 = .ok (.iload_n 2, 1) := by decide +kernel
theorem dX7_truly_18 : decode cX7_truly 18 = .ok (.ireturn, 1) := by decide +kernel
theorem dX7_hasValue_0 : decode cX7_hasValue 0 = .ok (.aload_n 0, 1) := by decide +kernel
theorem dX7_hasValue_1 : decode cX7_hasValue 1 = .ok (.iload_n 1, 1) := by decide +kernel
theorem dX7_hasValue_2 : decode cX7_hasValue 2 = .ok (.iconst 0, 1) := by decide +kernel
theorem dX7_hasValue_3 : decode cX7_hasValue 3 = .ok (.invokevirtual 33, 3) := by decide +kernel
theorem dX7_hasValue_6 : decode cX7_hasValue 6 = .ok (.iload_n 2, 1) := by decide +kernel
theorem dX7_hasValue_7 : decode cX7_hasValue 7 = .ok (.iconst 1, 1) := by decide +kernel
theorem dX7_hasValue_8 : decode cX7_hasValue 8 = .ok (.iadd, 1) := by decide +kernel
theorem dX7_hasValue_9 : decode cX7_hasValue 9 = .ok (.if_icmp .ne 7, 3) := by decide +kernel
theorem dX7_hasValue_12 : decode cX7_hasValue 12 = .ok (.iconst 1, 1) := by decide +kernel
theorem dX7_hasValue_13 : decode cX7_hasValue 13 = .ok (.goto 4, 3) := by decide +kernel
theorem dX7_hasValue_16 : decode cX7_hasValue 16 = .ok (.iconst 0, 1) := by decide +kernel
theorem dX7_hasValue_17 : decode cX7_hasValue 17 = .ok (.ireturn, 1) := by decide +kernel
theorem dX7_answers_0 : decode cX7_answers 0 = .ok (.aload_n 0, 1) := by decide +kernel
theorem dX7_answers_1 : decode cX7_answers 1 = .ok (.iload_n 1, 1) := by decide +kernel
theorem dX7_answers_2 : decode cX7_answers 2 = .ok (.iload_n 3, 1) := by decide +kernel
theorem dX7_answers_3 : decode cX7_answers 3 = .ok (.invokevirtual 114, 3) := by decide +kernel
theorem dX7_answers_6 : decode cX7_answers 6 = .ok (.iconst 2, 1) := by decide +kernel
theorem dX7_answers_7 : decode cX7_answers 7 = .ok (.if_icmp .ne 7, 3) := by decide +kernel
theorem dX7_answers_10 : decode cX7_answers 10 = .ok (.iconst 1, 1) := by decide +kernel
theorem dX7_answers_11 : decode cX7_answers 11 = .ok (.goto 4, 3) := by decide +kernel
theorem dX7_answers_14 : decode cX7_answers 14 = .ok (.iconst 0, 1) := by decide +kernel
theorem dX7_answers_15 : decode cX7_answers 15 = .ok (.istore 4, 2) := by decide +kernel
theorem dX7_answers_17 : decode cX7_answers 17 = .ok (.iconst 0, 1) := by decide +kernel
theorem dX7_answers_18 : decode cX7_answers 18 = .ok (.istore 5, 2) := by decide +kernel
theorem dX7_answers_20 : decode cX7_answers 20 = .ok (.iconst 0, 1) := by decide +kernel
theorem dX7_answers_21 : decode cX7_answers 21 = .ok (.istore 6, 2) := by decide +kernel
theorem dX7_answers_23 : decode cX7_answers 23 = .ok (.iload 6, 2) := by decide +kernel
theorem dX7_answers_25 : decode cX7_answers 25 = .ok (.bipush 24, 2) := by decide +kernel
theorem dX7_answers_27 : decode cX7_answers 27 = .ok (.if_icmp .ge 69, 3) := by decide +kernel
theorem dX7_answers_30 : decode cX7_answers 30 = .ok (.aload_n 0, 1) := by decide +kernel
theorem dX7_answers_31 : decode cX7_answers 31 = .ok (.iload 6, 2) := by decide +kernel
theorem dX7_answers_33 : decode cX7_answers 33 = .ok (.iload_n 1, 1) := by decide +kernel
theorem dX7_answers_34 : decode cX7_answers 34 = .ok (.invokevirtual 63, 3) := by decide +kernel
theorem dX7_answers_37 : decode cX7_answers 37 = .ok (.ifCond .ne 21, 3) := by decide +kernel
theorem dX7_answers_40 : decode cX7_answers 40 = .ok (.iload 4, 2) := by decide +kernel
theorem dX7_answers_42 : decode cX7_answers 42 = .ok (.ifCond .eq 20, 3) := by decide +kernel
theorem dX7_answers_45 : decode cX7_answers 45 = .ok (.aload_n 0, 1) := by decide +kernel
theorem dX7_answers_46 : decode cX7_answers 46 = .ok (.iload 6, 2) := by decide +kernel
theorem dX7_answers_48 : decode cX7_answers 48 = .ok (.iconst 4, 1) := by decide +kernel
theorem dX7_answers_49 : decode cX7_answers 49 = .ok (.idiv, 1) := by decide +kernel
theorem dX7_answers_50 : decode cX7_answers 50 = .ok (.iconst 0, 1) := by decide +kernel
theorem dX7_answers_51 : decode cX7_answers 51 = .ok (.invokevirtual 105, 3) := by decide +kernel
theorem dX7_answers_54 : decode cX7_answers 54 = .ok (.iconst 1, 1) := by decide +kernel
theorem dX7_answers_55 : decode cX7_answers 55 = .ok (.if_icmp .ne 7, 3) := by decide +kernel
theorem dX7_answers_58 : decode cX7_answers 58 = .ok (.iconst 1, 1) := by decide +kernel
theorem dX7_answers_59 : decode cX7_answers 59 = .ok (.goto 4, 3) := by decide +kernel
theorem dX7_answers_62 : decode cX7_answers 62 = .ok (.iconst 0, 1) := by decide +kernel
theorem dX7_answers_63 : decode cX7_answers 63 = .ok (.istore 7, 2) := by decide +kernel
theorem dX7_answers_65 : decode cX7_answers 65 = .ok (.iload 5, 2) := by decide +kernel
theorem dX7_answers_67 : decode cX7_answers 67 = .ok (.aload_n 0, 1) := by decide +kernel
theorem dX7_answers_68 : decode cX7_answers 68 = .ok (.iload 6, 2) := by decide +kernel
theorem dX7_answers_70 : decode cX7_answers 70 = .ok (.iload_n 2, 1) := by decide +kernel
theorem dX7_answers_71 : decode cX7_answers 71 = .ok (.invokevirtual 117, 3) := by decide +kernel
theorem dX7_answers_74 : decode cX7_answers 74 = .ok (.ifCond .eq 12, 3) := by decide +kernel
theorem dX7_answers_77 : decode cX7_answers 77 = .ok (.iload 7, 2) := by decide +kernel
theorem dX7_answers_79 : decode cX7_answers 79 = .ok (.ifCond .eq 7, 3) := by decide +kernel
theorem dX7_answers_82 : decode cX7_answers 82 = .ok (.iconst 1, 1) := by decide +kernel
theorem dX7_answers_83 : decode cX7_answers 83 = .ok (.goto 4, 3) := by decide +kernel
theorem dX7_answers_86 : decode cX7_answers 86 = .ok (.iconst 0, 1) := by decide +kernel
theorem dX7_answers_87 : decode cX7_answers 87 = .ok (.iadd, 1) := by decide +kernel
theorem dX7_answers_88 : decode cX7_answers 88 = .ok (.istore 5, 2) := by decide +kernel
theorem dX7_answers_90 : decode cX7_answers 90 = .ok (.iinc 6 1, 3) := by decide +kernel
theorem dX7_answers_93 : decode cX7_answers 93 = .ok (.goto (-70), 3) := by decide +kernel
theorem dX7_answers_96 : decode cX7_answers 96 = .ok (.iload 5, 2) := by decide +kernel
theorem dX7_answers_98 : decode cX7_answers 98 = .ok (.ireturn, 1) := by decide +kernel
theorem dX7_hasIn_0 : decode cX7_hasIn 0 = .ok (.iconst 0, 1) := by decide +kernel
theorem dX7_hasIn_1 : decode cX7_hasIn 1 = .ok (.istore_n 3, 1) := by decide +kernel
theorem dX7_hasIn_2 : decode cX7_hasIn 2 = .ok (.iconst 4, 1) := by decide +kernel
theorem dX7_hasIn_3 : decode cX7_hasIn 3 = .ok (.iload_n 1, 1) := by decide +kernel
theorem dX7_hasIn_4 : decode cX7_hasIn 4 = .ok (.imul, 1) := by decide +kernel
theorem dX7_hasIn_5 : decode cX7_hasIn 5 = .ok (.istore 4, 2) := by decide +kernel
theorem dX7_hasIn_7 : decode cX7_hasIn 7 = .ok (.iload 4, 2) := by decide +kernel
theorem dX7_hasIn_9 : decode cX7_hasIn 9 = .ok (.iconst 4, 1) := by decide +kernel
theorem dX7_hasIn_10 : decode cX7_hasIn 10 = .ok (.iload_n 1, 1) := by decide +kernel
theorem dX7_hasIn_11 : decode cX7_hasIn 11 = .ok (.imul, 1) := by decide +kernel
theorem dX7_hasIn_12 : decode cX7_hasIn 12 = .ok (.iconst 4, 1) := by decide +kernel
theorem dX7_hasIn_13 : decode cX7_hasIn 13 = .ok (.iadd, 1) := by decide +kernel
theorem dX7_hasIn_14 : decode cX7_hasIn 14 = .ok (.if_icmp .ge 29, 3) := by decide +kernel
theorem dX7_hasIn_17 : decode cX7_hasIn 17 = .ok (.iload_n 3, 1) := by decide +kernel
theorem dX7_hasIn_18 : decode cX7_hasIn 18 = .ok (.ifCond .ne 13, 3) := by decide +kernel
theorem dX7_hasIn_21 : decode cX7_hasIn 21 = .ok (.aload_n 0, 1) := by decide +kernel
theorem dX7_hasIn_22 : decode cX7_hasIn 22 = .ok (.iload 4, 2) := by decide +kernel
theorem dX7_hasIn_24 : decode cX7_hasIn 24 = .ok (.iload_n 2, 1) := by decide +kernel
theorem dX7_hasIn_25 : decode cX7_hasIn 25 = .ok (.invokevirtual 117, 3) := by decide +kernel
theorem dX7_hasIn_28 : decode cX7_hasIn 28 = .ok (.ifCond .eq 7, 3) := by decide +kernel
theorem dX7_hasIn_31 : decode cX7_hasIn 31 = .ok (.iconst 1, 1) := by decide +kernel
theorem dX7_hasIn_32 : decode cX7_hasIn 32 = .ok (.goto 4, 3) := by decide +kernel
theorem dX7_hasIn_35 : decode cX7_hasIn 35 = .ok (.iconst 0, 1) := by decide +kernel
theorem dX7_hasIn_36 : decode cX7_hasIn 36 = .ok (.istore_n 3, 1) := by decide +kernel
theorem dX7_hasIn_37 : decode cX7_hasIn 37 = .ok (.iinc 4 1, 3) := by decide +kernel
theorem dX7_hasIn_40 : decode cX7_hasIn 40 = .ok (.goto (-33), 3) := by decide +kernel
theorem dX7_hasIn_43 : decode cX7_hasIn 43 = .ok (.iload_n 3, 1) := by decide +kernel
theorem dX7_hasIn_44 : decode cX7_hasIn 44 = .ok (.ireturn, 1) := by decide +kernel
theorem dX7_costs_0 : decode cX7_costs 0 = .ok (.aload_n 0, 1) := by decide +kernel
theorem dX7_costs_1 : decode cX7_costs 1 = .ok (.iload_n 1, 1) := by decide +kernel
theorem dX7_costs_2 : decode cX7_costs 2 = .ok (.iload_n 3, 1) := by decide +kernel
theorem dX7_costs_3 : decode cX7_costs 3 = .ok (.invokevirtual 114, 3) := by decide +kernel
theorem dX7_costs_6 : decode cX7_costs 6 = .ok (.istore 4, 2) := by decide +kernel
theorem dX7_costs_8 : decode cX7_costs 8 = .ok (.iconst 0, 1) := by decide +kernel
theorem dX7_costs_9 : decode cX7_costs 9 = .ok (.istore 5, 2) := by decide +kernel
theorem dX7_costs_11 : decode cX7_costs 11 = .ok (.iconst 0, 1) := by decide +kernel
theorem dX7_costs_12 : decode cX7_costs 12 = .ok (.istore 6, 2) := by decide +kernel
theorem dX7_costs_14 : decode cX7_costs 14 = .ok (.iload 6, 2) := by decide +kernel
theorem dX7_costs_16 : decode cX7_costs 16 = .ok (.bipush 6, 2) := by decide +kernel
theorem dX7_costs_18 : decode cX7_costs 18 = .ok (.if_icmp .ge 62, 3) := by decide +kernel
theorem dX7_costs_21 : decode cX7_costs 21 = .ok (.iload 4, 2) := by decide +kernel
theorem dX7_costs_23 : decode cX7_costs 23 = .ok (.ifCond .eq 29, 3) := by decide +kernel
theorem dX7_costs_26 : decode cX7_costs 26 = .ok (.aload_n 0, 1) := by decide +kernel
theorem dX7_costs_27 : decode cX7_costs 27 = .ok (.iload 6, 2) := by decide +kernel
theorem dX7_costs_29 : decode cX7_costs 29 = .ok (.iload_n 2, 1) := by decide +kernel
theorem dX7_costs_30 : decode cX7_costs 30 = .ok (.invokevirtual 120, 3) := by decide +kernel
theorem dX7_costs_33 : decode cX7_costs 33 = .ok (.ifCond .eq 23, 3) := by decide +kernel
theorem dX7_costs_36 : decode cX7_costs 36 = .ok (.iload 4, 2) := by decide +kernel
theorem dX7_costs_38 : decode cX7_costs 38 = .ok (.iconst 1, 1) := by decide +kernel
theorem dX7_costs_39 : decode cX7_costs 39 = .ok (.if_icmp .eq 13, 3) := by decide +kernel
theorem dX7_costs_42 : decode cX7_costs 42 = .ok (.aload_n 0, 1) := by decide +kernel
theorem dX7_costs_43 : decode cX7_costs 43 = .ok (.iload 6, 2) := by decide +kernel
theorem dX7_costs_45 : decode cX7_costs 45 = .ok (.iconst 0, 1) := by decide +kernel
theorem dX7_costs_46 : decode cX7_costs 46 = .ok (.invokevirtual 105, 3) := by decide +kernel
theorem dX7_costs_49 : decode cX7_costs 49 = .ok (.ifCond .ne 7, 3) := by decide +kernel
theorem dX7_costs_52 : decode cX7_costs 52 = .ok (.iconst 1, 1) := by decide +kernel
theorem dX7_costs_53 : decode cX7_costs 53 = .ok (.goto 4, 3) := by decide +kernel
theorem dX7_costs_56 : decode cX7_costs 56 = .ok (.iconst 0, 1) := by decide +kernel
theorem dX7_costs_57 : decode cX7_costs 57 = .ok (.istore 7, 2) := by decide +kernel
theorem dX7_costs_59 : decode cX7_costs 59 = .ok (.iload 5, 2) := by decide +kernel
theorem dX7_costs_61 : decode cX7_costs 61 = .ok (.iload 7, 2) := by decide +kernel
theorem dX7_costs_63 : decode cX7_costs 63 = .ok (.ifCond .eq 7, 3) := by decide +kernel
theorem dX7_costs_66 : decode cX7_costs 66 = .ok (.iconst 1, 1) := by decide +kernel
theorem dX7_costs_67 : decode cX7_costs 67 = .ok (.goto 4, 3) := by decide +kernel
theorem dX7_costs_70 : decode cX7_costs 70 = .ok (.iconst 0, 1) := by decide +kernel
theorem dX7_costs_71 : decode cX7_costs 71 = .ok (.iadd, 1) := by decide +kernel
theorem dX7_costs_72 : decode cX7_costs 72 = .ok (.istore 5, 2) := by decide +kernel
theorem dX7_costs_74 : decode cX7_costs 74 = .ok (.iinc 6 1, 3) := by decide +kernel
theorem dX7_costs_77 : decode cX7_costs 77 = .ok (.goto (-63), 3) := by decide +kernel
theorem dX7_costs_80 : decode cX7_costs 80 = .ok (.iload 5, 2) := by decide +kernel
theorem dX7_costs_82 : decode cX7_costs 82 = .ok (.ireturn, 1) := by decide +kernel
theorem dX7_ask_0 : decode cX7_ask 0 = .ok (.aload_n 0, 1) := by decide +kernel
theorem dX7_ask_1 : decode cX7_ask 1 = .ok (.iconst 0, 1) := by decide +kernel
theorem dX7_ask_2 : decode cX7_ask 2 = .ok (.putfield 22, 3) := by decide +kernel
theorem dX7_ask_5 : decode cX7_ask 5 = .ok (.iload_n 1, 1) := by decide +kernel
theorem dX7_ask_6 : decode cX7_ask 6 = .ok (.invokestatic 87, 3) := by decide +kernel
theorem dX7_ask_9 : decode cX7_ask 9 = .ok (.ifCond .ne 9, 3) := by decide +kernel
theorem dX7_ask_12 : decode cX7_ask 12 = .ok (.aload_n 0, 1) := by decide +kernel
theorem dX7_ask_13 : decode cX7_ask 13 = .ok (.iconst 1, 1) := by decide +kernel
theorem dX7_ask_14 : decode cX7_ask 14 = .ok (.invokevirtual 67, 3) := by decide +kernel
theorem dX7_ask_17 : decode cX7_ask 17 = .ok (.ireturn, 1) := by decide +kernel
theorem dX7_ask_18 : decode cX7_ask 18 = .ok (.iload_n 2, 1) := by decide +kernel
theorem dX7_ask_19 : decode cX7_ask 19 = .ok (.iconst 0, 1) := by decide +kernel
theorem dX7_ask_20 : decode cX7_ask 20 = .ok (.bipush 9, 2) := by decide +kernel
theorem dX7_ask_22 : decode cX7_ask 22 = .ok (.invokestatic 26, 3) := by decide +kernel
theorem dX7_ask_25 : decode cX7_ask 25 = .ok (.ifCond .eq 12, 3) := by decide +kernel
theorem dX7_ask_28 : decode cX7_ask 28 = .ok (.iload_n 3, 1) := by decide +kernel
theorem dX7_ask_29 : decode cX7_ask 29 = .ok (.iconst 0, 1) := by decide +kernel
theorem dX7_ask_30 : decode cX7_ask 30 = .ok (.iconst 2, 1) := by decide +kernel
theorem dX7_ask_31 : decode cX7_ask 31 = .ok (.invokestatic 26, 3) := by decide +kernel
theorem dX7_ask_34 : decode cX7_ask 34 = .ok (.ifCond .ne 9, 3) := by decide +kernel
theorem dX7_ask_37 : decode cX7_ask 37 = .ok (.aload_n 0, 1) := by decide +kernel
theorem dX7_ask_38 : decode cX7_ask 38 = .ok (.iconst 2, 1) := by decide +kernel
theorem dX7_ask_39 : decode cX7_ask 39 = .ok (.invokevirtual 67, 3) := by decide +kernel
theorem dX7_ask_42 : decode cX7_ask 42 = .ok (.ireturn, 1) := by decide +kernel
theorem dX7_ask_43 : decode cX7_ask 43 = .ok (.aload_n 0, 1) := by decide +kernel
theorem dX7_ask_44 : decode cX7_ask 44 = .ok (.iload_n 1, 1) := by decide +kernel
theorem dX7_ask_45 : decode cX7_ask 45 = .ok (.invokevirtual 81, 3) := by decide +kernel
theorem dX7_ask_48 : decode cX7_ask 48 = .ok (.istore 4, 2) := by decide +kernel
theorem dX7_ask_50 : decode cX7_ask 50 = .ok (.iload 4, 2) := by decide +kernel
theorem dX7_ask_52 : decode cX7_ask 52 = .ok (.iconst (-1), 1) := by decide +kernel
theorem dX7_ask_53 : decode cX7_ask 53 = .ok (.if_icmp .ne 9, 3) := by decide +kernel
theorem dX7_ask_56 : decode cX7_ask 56 = .ok (.aload_n 0, 1) := by decide +kernel
theorem dX7_ask_57 : decode cX7_ask 57 = .ok (.iconst 3, 1) := by decide +kernel
theorem dX7_ask_58 : decode cX7_ask 58 = .ok (.invokevirtual 67, 3) := by decide +kernel
theorem dX7_ask_61 : decode cX7_ask 61 = .ok (.ireturn, 1) := by decide +kernel
theorem dX7_ask_62 : decode cX7_ask 62 = .ok (.aload_n 0, 1) := by decide +kernel
theorem dX7_ask_63 : decode cX7_ask 63 = .ok (.invokevirtual 74, 3) := by decide +kernel
theorem dX7_ask_66 : decode cX7_ask 66 = .ok (.aload_n 0, 1) := by decide +kernel
theorem dX7_ask_67 : decode cX7_ask 67 = .ok (.getfield 7, 3) := by decide +kernel
theorem dX7_ask_70 : decode cX7_ask 70 = .ok (.iconst 1, 1) := by decide +kernel
theorem dX7_ask_71 : decode cX7_ask 71 = .ok (.iload_n 3, 1) := by decide +kernel
theorem dX7_ask_72 : decode cX7_ask 72 = .ok (.iadd, 1) := by decide +kernel
theorem dX7_ask_73 : decode cX7_ask 73 = .ok (.dup2, 1) := by decide +kernel
theorem dX7_ask_74 : decode cX7_ask 74 = .ok (.iaload, 1) := by decide +kernel
theorem dX7_ask_75 : decode cX7_ask 75 = .ok (.iconst 1, 1) := by decide +kernel
theorem dX7_ask_76 : decode cX7_ask 76 = .ok (.iadd, 1) := by decide +kernel
theorem dX7_ask_77 : decode cX7_ask 77 = .ok (.iastore, 1) := by decide +kernel
theorem dX7_ask_78 : decode cX7_ask 78 = .ok (.aload_n 0, 1) := by decide +kernel
theorem dX7_ask_79 : decode cX7_ask 79 = .ok (.getfield 7, 3) := by decide +kernel
theorem dX7_ask_82 : decode cX7_ask 82 = .ok (.iconst 4, 1) := by decide +kernel
theorem dX7_ask_83 : decode cX7_ask 83 = .ok (.dup2, 1) := by decide +kernel
theorem dX7_ask_84 : decode cX7_ask 84 = .ok (.iaload, 1) := by decide +kernel
theorem dX7_ask_85 : decode cX7_ask 85 = .ok (.aload_n 0, 1) := by decide +kernel
theorem dX7_ask_86 : decode cX7_ask 86 = .ok (.iload 4, 2) := by decide +kernel
theorem dX7_ask_88 : decode cX7_ask 88 = .ok (.iload_n 3, 1) := by decide +kernel
theorem dX7_ask_89 : decode cX7_ask 89 = .ok (.invokevirtual 114, 3) := by decide +kernel
theorem dX7_ask_92 : decode cX7_ask 92 = .ok (.iload_n 3, 1) := by decide +kernel
theorem dX7_ask_93 : decode cX7_ask 93 = .ok (.if_icmp .eq 7, 3) := by decide +kernel
theorem dX7_ask_96 : decode cX7_ask 96 = .ok (.iconst 1, 1) := by decide +kernel
theorem dX7_ask_97 : decode cX7_ask 97 = .ok (.goto 4, 3) := by decide +kernel
theorem dX7_ask_100 : decode cX7_ask 100 = .ok (.iconst 0, 1) := by decide +kernel
theorem dX7_ask_101 : decode cX7_ask 101 = .ok (.iadd, 1) := by decide +kernel
theorem dX7_ask_102 : decode cX7_ask 102 = .ok (.iastore, 1) := by decide +kernel
theorem dX7_ask_103 : decode cX7_ask 103 = .ok (.aload_n 0, 1) := by decide +kernel
theorem dX7_ask_104 : decode cX7_ask 104 = .ok (.getfield 7, 3) := by decide +kernel
theorem dX7_ask_107 : decode cX7_ask 107 = .ok (.iconst 5, 1) := by decide +kernel
theorem dX7_ask_108 : decode cX7_ask 108 = .ok (.dup2, 1) := by decide +kernel
theorem dX7_ask_109 : decode cX7_ask 109 = .ok (.iaload, 1) := by decide +kernel
theorem dX7_ask_110 : decode cX7_ask 110 = .ok (.aload_n 0, 1) := by decide +kernel
theorem dX7_ask_111 : decode cX7_ask 111 = .ok (.iload 4, 2) := by decide +kernel
theorem dX7_ask_113 : decode cX7_ask 113 = .ok (.iload_n 2, 1) := by decide +kernel
theorem dX7_ask_114 : decode cX7_ask 114 = .ok (.iload_n 3, 1) := by decide +kernel
theorem dX7_ask_115 : decode cX7_ask 115 = .ok (.invokevirtual 123, 3) := by decide +kernel
theorem dX7_ask_118 : decode cX7_ask 118 = .ok (.iadd, 1) := by decide +kernel
theorem dX7_ask_119 : decode cX7_ask 119 = .ok (.iastore, 1) := by decide +kernel
theorem dX7_ask_120 : decode cX7_ask 120 = .ok (.aload_n 0, 1) := by decide +kernel
theorem dX7_ask_121 : decode cX7_ask 121 = .ok (.getfield 7, 3) := by decide +kernel
theorem dX7_ask_124 : decode cX7_ask 124 = .ok (.bipush 91, 2) := by decide +kernel
theorem dX7_ask_126 : decode cX7_ask 126 = .ok (.iconst 2, 1) := by decide +kernel
theorem dX7_ask_127 : decode cX7_ask 127 = .ok (.iload_n 1, 1) := by decide +kernel
theorem dX7_ask_128 : decode cX7_ask 128 = .ok (.imul, 1) := by decide +kernel
theorem dX7_ask_129 : decode cX7_ask 129 = .ok (.iadd, 1) := by decide +kernel
theorem dX7_ask_130 : decode cX7_ask 130 = .ok (.iconst 1, 1) := by decide +kernel
theorem dX7_ask_131 : decode cX7_ask 131 = .ok (.iadd, 1) := by decide +kernel
theorem dX7_ask_132 : decode cX7_ask 132 = .ok (.dup2, 1) := by decide +kernel
theorem dX7_ask_133 : decode cX7_ask 133 = .ok (.iaload, 1) := by decide +kernel
theorem dX7_ask_134 : decode cX7_ask 134 = .ok (.iconst 1, 1) := by decide +kernel
theorem dX7_ask_135 : decode cX7_ask 135 = .ok (.iadd, 1) := by decide +kernel
theorem dX7_ask_136 : decode cX7_ask 136 = .ok (.iastore, 1) := by decide +kernel
theorem dX7_ask_137 : decode cX7_ask 137 = .ok (.aload_n 0, 1) := by decide +kernel
theorem dX7_ask_138 : decode cX7_ask 138 = .ok (.iload 4, 2) := by decide +kernel
theorem dX7_ask_140 : decode cX7_ask 140 = .ok (.iload_n 2, 1) := by decide +kernel
theorem dX7_ask_141 : decode cX7_ask 141 = .ok (.iload_n 3, 1) := by decide +kernel
theorem dX7_ask_142 : decode cX7_ask 142 = .ok (.invokevirtual 126, 3) := by decide +kernel
theorem dX7_ask_145 : decode cX7_ask 145 = .ok (.ireturn, 1) := by decide +kernel
theorem dX7_append_0 : decode cX7_append 0 = .ok (.aload_n 0, 1) := by decide +kernel
theorem dX7_append_1 : decode cX7_append 1 = .ok (.iconst 0, 1) := by decide +kernel
theorem dX7_append_2 : decode cX7_append 2 = .ok (.putfield 22, 3) := by decide +kernel
theorem dX7_append_5 : decode cX7_append 5 = .ok (.iload_n 1, 1) := by decide +kernel
theorem dX7_append_6 : decode cX7_append 6 = .ok (.bipush 33, 2) := by decide +kernel
theorem dX7_append_8 : decode cX7_append 8 = .ok (.bipush 126, 2) := by decide +kernel
theorem dX7_append_10 : decode cX7_append 10 = .ok (.invokestatic 26, 3) := by decide +kernel
theorem dX7_append_13 : decode cX7_append 13 = .ok (.ifCond .ne 9, 3) := by decide +kernel
theorem dX7_append_16 : decode cX7_append 16 = .ok (.aload_n 0, 1) := by decide +kernel
theorem dX7_append_17 : decode cX7_append 17 = .ok (.iconst 1, 1) := by decide +kernel
theorem dX7_append_18 : decode cX7_append 18 = .ok (.invokevirtual 67, 3) := by decide +kernel
theorem dX7_append_21 : decode cX7_append 21 = .ok (.ireturn, 1) := by decide +kernel
theorem dX7_append_22 : decode cX7_append 22 = .ok (.aload_n 0, 1) := by decide +kernel
theorem dX7_append_23 : decode cX7_append 23 = .ok (.getfield 129, 3) := by decide +kernel
theorem dX7_append_26 : decode cX7_append 26 = .ok (.bipush 60, 2) := by decide +kernel
theorem dX7_append_28 : decode cX7_append 28 = .ok (.if_icmp .ne 9, 3) := by decide +kernel
theorem dX7_append_31 : decode cX7_append 31 = .ok (.aload_n 0, 1) := by decide +kernel
theorem dX7_append_32 : decode cX7_append 32 = .ok (.iconst 2, 1) := by decide +kernel
theorem dX7_append_33 : decode cX7_append 33 = .ok (.invokevirtual 67, 3) := by decide +kernel
theorem dX7_append_36 : decode cX7_append 36 = .ok (.ireturn, 1) := by decide +kernel
theorem dX7_append_37 : decode cX7_append 37 = .ok (.aload_n 0, 1) := by decide +kernel
theorem dX7_append_38 : decode cX7_append 38 = .ok (.getfield 16, 3) := by decide +kernel
theorem dX7_append_41 : decode cX7_append 41 = .ok (.aload_n 0, 1) := by decide +kernel
theorem dX7_append_42 : decode cX7_append 42 = .ok (.getfield 129, 3) := by decide +kernel
theorem dX7_append_45 : decode cX7_append 45 = .ok (.iload_n 1, 1) := by decide +kernel
theorem dX7_append_46 : decode cX7_append 46 = .ok (.iastore, 1) := by decide +kernel
theorem dX7_append_47 : decode cX7_append 47 = .ok (.aload_n 0, 1) := by decide +kernel
theorem dX7_append_48 : decode cX7_append 48 = .ok (.dup, 1) := by decide +kernel
theorem dX7_append_49 : decode cX7_append 49 = .ok (.getfield 129, 3) := by decide +kernel
theorem dX7_append_52 : decode cX7_append 52 = .ok (.iconst 1, 1) := by decide +kernel
theorem dX7_append_53 : decode cX7_append 53 = .ok (.iadd, 1) := by decide +kernel
theorem dX7_append_54 : decode cX7_append 54 = .ok (.putfield 129, 3) := by decide +kernel
theorem dX7_append_57 : decode cX7_append 57 = .ok (.aload_n 0, 1) := by decide +kernel
theorem dX7_append_58 : decode cX7_append 58 = .ok (.getfield 129, 3) := by decide +kernel
theorem dX7_append_61 : decode cX7_append 61 = .ok (.ireturn, 1) := by decide +kernel
theorem dX7_clearBuffer_0 : decode cX7_clearBuffer 0 = .ok (.aload_n 0, 1) := by decide +kernel
theorem dX7_clearBuffer_1 : decode cX7_clearBuffer 1 = .ok (.iconst 0, 1) := by decide +kernel
theorem dX7_clearBuffer_2 : decode cX7_clearBuffer 2 = .ok (.putfield 22, 3) := by decide +kernel
theorem dX7_clearBuffer_5 : decode cX7_clearBuffer 5 = .ok (.aload_n 0, 1) := by decide +kernel
theorem dX7_clearBuffer_6 : decode cX7_clearBuffer 6 = .ok (.getfield 129, 3) := by decide +kernel
theorem dX7_clearBuffer_9 : decode cX7_clearBuffer 9 = .ok (.istore_n 1, 1) := by decide +kernel
theorem dX7_clearBuffer_10 : decode cX7_clearBuffer 10 = .ok (.aload_n 0, 1) := by decide +kernel
theorem dX7_clearBuffer_11 : decode cX7_clearBuffer 11 = .ok (.iconst 0, 1) := by decide +kernel
theorem dX7_clearBuffer_12 : decode cX7_clearBuffer 12 = .ok (.putfield 129, 3) := by decide +kernel
theorem dX7_clearBuffer_15 : decode cX7_clearBuffer 15 = .ok (.iload_n 1, 1) := by decide +kernel
theorem dX7_clearBuffer_16 : decode cX7_clearBuffer 16 = .ok (.ireturn, 1) := by decide +kernel
theorem dX7_sign_0 : decode cX7_sign 0 = .ok (.aload_n 0, 1) := by decide +kernel
theorem dX7_sign_1 : decode cX7_sign 1 = .ok (.getfield 132, 3) := by decide +kernel
theorem dX7_sign_4 : decode cX7_sign 4 = .ok (.aload_n 0, 1) := by decide +kernel
theorem dX7_sign_5 : decode cX7_sign 5 = .ok (.getfield 129, 3) := by decide +kernel
theorem dX7_sign_8 : decode cX7_sign 8 = .ok (.if_icmp .ge 15, 3) := by decide +kernel
theorem dX7_sign_11 : decode cX7_sign 11 = .ok (.aload_n 0, 1) := by decide +kernel
theorem dX7_sign_12 : decode cX7_sign 12 = .ok (.getfield 16, 3) := by decide +kernel
theorem dX7_sign_15 : decode cX7_sign 15 = .ok (.aload_n 0, 1) := by decide +kernel
theorem dX7_sign_16 : decode cX7_sign 16 = .ok (.getfield 132, 3) := by decide +kernel
theorem dX7_sign_19 : decode cX7_sign 19 = .ok (.iaload, 1) := by decide +kernel
theorem dX7_sign_20 : decode cX7_sign 20 = .ok (.goto 4, 3) := by decide +kernel
theorem dX7_sign_23 : decode cX7_sign 23 = .ok (.iconst 0, 1) := by decide +kernel
theorem dX7_sign_24 : decode cX7_sign 24 = .ok (.ireturn, 1) := by decide +kernel
theorem dX7_digit_0 : decode cX7_digit 0 = .ok (.aload_n 0, 1) := by decide +kernel
theorem dX7_digit_1 : decode cX7_digit 1 = .ok (.aload_n 0, 1) := by decide +kernel
theorem dX7_digit_2 : decode cX7_digit 2 = .ok (.getfield 135, 3) := by decide +kernel
theorem dX7_digit_5 : decode cX7_digit 5 = .ok (.ifCond .eq 20, 3) := by decide +kernel
theorem dX7_digit_8 : decode cX7_digit 8 = .ok (.aload_n 0, 1) := by decide +kernel
theorem dX7_digit_9 : decode cX7_digit 9 = .ok (.invokevirtual 139, 3) := by decide +kernel
theorem dX7_digit_12 : decode cX7_digit 12 = .ok (.bipush 48, 2) := by decide +kernel
theorem dX7_digit_14 : decode cX7_digit 14 = .ok (.iload_n 1, 1) := by decide +kernel
theorem dX7_digit_15 : decode cX7_digit 15 = .ok (.invokestatic 26, 3) := by decide +kernel
theorem dX7_digit_18 : decode cX7_digit 18 = .ok (.ifCond .eq 7, 3) := by decide +kernel
theorem dX7_digit_21 : decode cX7_digit 21 = .ok (.iconst 1, 1) := by decide +kernel
theorem dX7_digit_22 : decode cX7_digit 22 = .ok (.goto 4, 3) := by decide +kernel
theorem dX7_digit_25 : decode cX7_digit 25 = .ok (.iconst 0, 1) := by decide +kernel
theorem dX7_digit_26 : decode cX7_digit 26 = .ok (.putfield 135, 3) := by decide +kernel
theorem dX7_digit_29 : decode cX7_digit 29 = .ok (.aload_n 0, 1) := by decide +kernel
theorem dX7_digit_30 : decode cX7_digit 30 = .ok (.invokevirtual 139, 3) := by decide +kernel
theorem dX7_digit_33 : decode cX7_digit 33 = .ok (.bipush 48, 2) := by decide +kernel
theorem dX7_digit_35 : decode cX7_digit 35 = .ok (.isub, 1) := by decide +kernel
theorem dX7_digit_36 : decode cX7_digit 36 = .ok (.istore_n 2, 1) := by decide +kernel
theorem dX7_digit_37 : decode cX7_digit 37 = .ok (.aload_n 0, 1) := by decide +kernel
theorem dX7_digit_38 : decode cX7_digit 38 = .ok (.dup, 1) := by decide +kernel
theorem dX7_digit_39 : decode cX7_digit 39 = .ok (.getfield 132, 3) := by decide +kernel
theorem dX7_digit_42 : decode cX7_digit 42 = .ok (.aload_n 0, 1) := by decide +kernel
theorem dX7_digit_43 : decode cX7_digit 43 = .ok (.getfield 135, 3) := by decide +kernel
theorem dX7_digit_46 : decode cX7_digit 46 = .ok (.ifCond .eq 7, 3) := by decide +kernel
theorem dX7_digit_49 : decode cX7_digit 49 = .ok (.iconst 1, 1) := by decide +kernel
theorem dX7_digit_50 : decode cX7_digit 50 = .ok (.goto 4, 3) := by decide +kernel
theorem dX7_digit_53 : decode cX7_digit 53 = .ok (.iconst 0, 1) := by decide +kernel
theorem dX7_digit_54 : decode cX7_digit 54 = .ok (.iadd, 1) := by decide +kernel
theorem dX7_digit_55 : decode cX7_digit 55 = .ok (.putfield 132, 3) := by decide +kernel
theorem dX7_digit_58 : decode cX7_digit 58 = .ok (.iload_n 2, 1) := by decide +kernel
theorem dX7_digit_59 : decode cX7_digit 59 = .ok (.ireturn, 1) := by decide +kernel
theorem dX7_placeRead_0 : decode cX7_placeRead 0 = .ok (.aload_n 0, 1) := by decide +kernel
theorem dX7_placeRead_1 : decode cX7_placeRead 1 = .ok (.bipush 57, 2) := by decide +kernel
theorem dX7_placeRead_3 : decode cX7_placeRead 3 = .ok (.invokevirtual 142, 3) := by decide +kernel
theorem dX7_placeRead_6 : decode cX7_placeRead 6 = .ok (.istore_n 1, 1) := by decide +kernel
theorem dX7_placeRead_7 : decode cX7_placeRead 7 = .ok (.aload_n 0, 1) := by decide +kernel
theorem dX7_placeRead_8 : decode cX7_placeRead 8 = .ok (.getfield 135, 3) := by decide +kernel
theorem dX7_placeRead_11 : decode cX7_placeRead 11 = .ok (.ifCond .eq 50, 3) := by decide +kernel
theorem dX7_placeRead_14 : decode cX7_placeRead 14 = .ok (.iload_n 1, 1) := by decide +kernel
theorem dX7_placeRead_15 : decode cX7_placeRead 15 = .ok (.ifCond .le 46, 3) := by decide +kernel
theorem dX7_placeRead_18 : decode cX7_placeRead 18 = .ok (.aload_n 0, 1) := by decide +kernel
theorem dX7_placeRead_19 : decode cX7_placeRead 19 = .ok (.invokevirtual 139, 3) := by decide +kernel
theorem dX7_placeRead_22 : decode cX7_placeRead 22 = .ok (.bipush 48, 2) := by decide +kernel
theorem dX7_placeRead_24 : decode cX7_placeRead 24 = .ok (.bipush 57, 2) := by decide +kernel
theorem dX7_placeRead_26 : decode cX7_placeRead 26 = .ok (.invokestatic 26, 3) := by decide +kernel
theorem dX7_placeRead_29 : decode cX7_placeRead 29 = .ok (.ifCond .eq 32, 3) := by decide +kernel
theorem dX7_placeRead_32 : decode cX7_placeRead 32 = .ok (.bipush 10, 2) := by decide +kernel
theorem dX7_placeRead_34 : decode cX7_placeRead 34 = .ok (.iload_n 1, 1) := by decide +kernel
theorem dX7_placeRead_35 : decode cX7_placeRead 35 = .ok (.imul, 1) := by decide +kernel
theorem dX7_placeRead_36 : decode cX7_placeRead 36 = .ok (.aload_n 0, 1) := by decide +kernel
theorem dX7_placeRead_37 : decode cX7_placeRead 37 = .ok (.invokevirtual 139, 3) := by decide +kernel
theorem dX7_placeRead_40 : decode cX7_placeRead 40 = .ok (.iadd, 1) := by decide +kernel
theorem dX7_placeRead_41 : decode cX7_placeRead 41 = .ok (.bipush 48, 2) := by decide +kernel
theorem dX7_placeRead_43 : decode cX7_placeRead 43 = .ok (.isub, 1) := by decide +kernel
theorem dX7_placeRead_44 : decode cX7_placeRead 44 = .ok (.bipush 24, 2) := by decide +kernel
theorem dX7_placeRead_46 : decode cX7_placeRead 46 = .ok (.if_icmp .ge 15, 3) := by decide +kernel
theorem dX7_placeRead_49 : decode cX7_placeRead 49 = .ok (.bipush 10, 2) := by decide +kernel
theorem dX7_placeRead_51 : decode cX7_placeRead 51 = .ok (.iload_n 1, 1) := by decide +kernel
theorem dX7_placeRead_52 : decode cX7_placeRead 52 = .ok (.imul, 1) := by decide +kernel
theorem dX7_placeRead_53 : decode cX7_placeRead 53 = .ok (.aload_n 0, 1) := by decide +kernel
theorem dX7_placeRead_54 : decode cX7_placeRead 54 = .ok (.bipush 57, 2) := by decide +kernel
theorem dX7_placeRead_56 : decode cX7_placeRead 56 = .ok (.invokevirtual 142, 3) := by decide +kernel
theorem dX7_placeRead_59 : decode cX7_placeRead 59 = .ok (.iadd, 1) := by decide +kernel
theorem dX7_placeRead_60 : decode cX7_placeRead 60 = .ok (.istore_n 1, 1) := by decide +kernel
theorem dX7_placeRead_61 : decode cX7_placeRead 61 = .ok (.iload_n 1, 1) := by decide +kernel
theorem dX7_placeRead_62 : decode cX7_placeRead 62 = .ok (.ireturn, 1) := by decide +kernel
theorem dX7_readsChange_0 : decode cX7_readsChange 0 = .ok (.iconst 3, 1) := by decide +kernel
theorem dX7_readsChange_1 : decode cX7_readsChange 1 = .ok (.aload_n 0, 1) := by decide +kernel
theorem dX7_readsChange_2 : decode cX7_readsChange 2 = .ok (.getfield 145, 3) := by decide +kernel
theorem dX7_readsChange_5 : decode cX7_readsChange 5 = .ok (.imul, 1) := by decide +kernel
theorem dX7_readsChange_6 : decode cX7_readsChange 6 = .ok (.istore_n 1, 1) := by decide +kernel
theorem dX7_readsChange_7 : decode cX7_readsChange 7 = .ok (.aload_n 0, 1) := by decide +kernel
theorem dX7_readsChange_8 : decode cX7_readsChange 8 = .ok (.invokevirtual 139, 3) := by decide +kernel
theorem dX7_readsChange_11 : decode cX7_readsChange 11 = .ok (.istore_n 2, 1) := by decide +kernel
theorem dX7_readsChange_12 : decode cX7_readsChange 12 = .ok (.iload_n 2, 1) := by decide +kernel
theorem dX7_readsChange_13 : decode cX7_readsChange 13 = .ok (.bipush 43, 2) := by decide +kernel
theorem dX7_readsChange_15 : decode cX7_readsChange 15 = .ok (.if_icmp .eq 15, 3) := by decide +kernel
theorem dX7_readsChange_18 : decode cX7_readsChange 18 = .ok (.iload_n 2, 1) := by decide +kernel
theorem dX7_readsChange_19 : decode cX7_readsChange 19 = .ok (.bipush 45, 2) := by decide +kernel
theorem dX7_readsChange_21 : decode cX7_readsChange 21 = .ok (.if_icmp .eq 9, 3) := by decide +kernel
theorem dX7_readsChange_24 : decode cX7_readsChange 24 = .ok (.iload_n 2, 1) := by decide +kernel
theorem dX7_readsChange_25 : decode cX7_readsChange 25 = .ok (.bipush 126, 2) := by decide +kernel
theorem dX7_readsChange_27 : decode cX7_readsChange 27 = .ok (.if_icmp .ne 7, 3) := by decide +kernel
theorem dX7_readsChange_30 : decode cX7_readsChange 30 = .ok (.iconst 1, 1) := by decide +kernel
theorem dX7_readsChange_31 : decode cX7_readsChange 31 = .ok (.goto 4, 3) := by decide +kernel
theorem dX7_readsChange_34 : decode cX7_readsChange 34 = .ok (.iconst 0, 1) := by decide +kernel
theorem dX7_readsChange_35 : decode cX7_readsChange 35 = .ok (.istore_n 3, 1) := by decide +kernel
theorem dX7_readsChange_36 : decode cX7_readsChange 36 = .ok (.aload_n 0, 1) := by decide +kernel
theorem dX7_readsChange_37 : decode cX7_readsChange 37 = .ok (.dup, 1) := by decide +kernel
theorem dX7_readsChange_38 : decode cX7_readsChange 38 = .ok (.getfield 132, 3) := by decide +kernel
theorem dX7_readsChange_41 : decode cX7_readsChange 41 = .ok (.iload_n 3, 1) := by decide +kernel
theorem dX7_readsChange_42 : decode cX7_readsChange 42 = .ok (.ifCond .eq 7, 3) := by decide +kernel
theorem dX7_readsChange_45 : decode cX7_readsChange 45 = .ok (.iconst 1, 1) := by decide +kernel
theorem dX7_readsChange_46 : decode cX7_readsChange 46 = .ok (.goto 4, 3) := by decide +kernel
theorem dX7_readsChange_49 : decode cX7_readsChange 49 = .ok (.iconst 0, 1) := by decide +kernel
theorem dX7_readsChange_50 : decode cX7_readsChange 50 = .ok (.iadd, 1) := by decide +kernel
theorem dX7_readsChange_51 : decode cX7_readsChange 51 = .ok (.putfield 132, 3) := by decide +kernel
theorem dX7_readsChange_54 : decode cX7_readsChange 54 = .ok (.aload_n 0, 1) := by decide +kernel
theorem dX7_readsChange_55 : decode cX7_readsChange 55 = .ok (.getfield 19, 3) := by decide +kernel
theorem dX7_readsChange_58 : decode cX7_readsChange 58 = .ok (.iload_n 1, 1) := by decide +kernel
theorem dX7_readsChange_59 : decode cX7_readsChange 59 = .ok (.iload_n 3, 1) := by decide +kernel
theorem dX7_readsChange_60 : decode cX7_readsChange 60 = .ok (.ifCond .eq 7, 3) := by decide +kernel
theorem dX7_readsChange_63 : decode cX7_readsChange 63 = .ok (.iload_n 2, 1) := by decide +kernel
theorem dX7_readsChange_64 : decode cX7_readsChange 64 = .ok (.goto 5, 3) := by decide +kernel
theorem dX7_readsChange_67 : decode cX7_readsChange 67 = .ok (.bipush 61, 2) := by decide +kernel
theorem dX7_readsChange_69 : decode cX7_readsChange 69 = .ok (.iastore, 1) := by decide +kernel
theorem dX7_readsChange_70 : decode cX7_readsChange 70 = .ok (.aload_n 0, 1) := by decide +kernel
theorem dX7_readsChange_71 : decode cX7_readsChange 71 = .ok (.getfield 19, 3) := by decide +kernel
theorem dX7_readsChange_74 : decode cX7_readsChange 74 = .ok (.iload_n 1, 1) := by decide +kernel
theorem dX7_readsChange_75 : decode cX7_readsChange 75 = .ok (.iconst 1, 1) := by decide +kernel
theorem dX7_readsChange_76 : decode cX7_readsChange 76 = .ok (.iadd, 1) := by decide +kernel
theorem dX7_readsChange_77 : decode cX7_readsChange 77 = .ok (.iload_n 2, 1) := by decide +kernel
theorem dX7_readsChange_78 : decode cX7_readsChange 78 = .ok (.bipush 43, 2) := by decide +kernel
theorem dX7_readsChange_80 : decode cX7_readsChange 80 = .ok (.if_icmp .ne 7, 3) := by decide +kernel
theorem dX7_readsChange_83 : decode cX7_readsChange 83 = .ok (.iconst 0, 1) := by decide +kernel
theorem dX7_readsChange_84 : decode cX7_readsChange 84 = .ok (.goto 22, 3) := by decide +kernel
theorem dX7_readsChange_87 : decode cX7_readsChange 87 = .ok (.iload_n 2, 1) := by decide +kernel
theorem dX7_readsChange_88 : decode cX7_readsChange 88 = .ok (.bipush 126, 2) := by decide +kernel
theorem dX7_readsChange_90 : decode cX7_readsChange 90 = .ok (.if_icmp .ne 12, 3) := by decide +kernel
theorem dX7_readsChange_93 : decode cX7_readsChange 93 = .ok (.aload_n 0, 1) := by decide +kernel
theorem dX7_readsChange_94 : decode cX7_readsChange 94 = .ok (.bipush 53, 2) := by decide +kernel
theorem dX7_readsChange_96 : decode cX7_readsChange 96 = .ok (.invokevirtual 142, 3) := by decide +kernel
theorem dX7_readsChange_99 : decode cX7_readsChange 99 = .ok (.goto 7, 3) := by decide +kernel
theorem dX7_readsChange_102 : decode cX7_readsChange 102 = .ok (.aload_n 0, 1) := by decide +kernel
theorem dX7_readsChange_103 : decode cX7_readsChange 103 = .ok (.invokevirtual 148, 3) := by decide +kernel
theorem dX7_readsChange_106 : decode cX7_readsChange 106 = .ok (.iastore, 1) := by decide +kernel
theorem dX7_readsChange_107 : decode cX7_readsChange 107 = .ok (.iload_n 3, 1) := by decide +kernel
theorem dX7_readsChange_108 : decode cX7_readsChange 108 = .ok (.ifCond .ne 49, 3) := by decide +kernel
theorem dX7_readsChange_111 : decode cX7_readsChange 111 = .ok (.aload_n 0, 1) := by decide +kernel
theorem dX7_readsChange_112 : decode cX7_readsChange 112 = .ok (.aload_n 0, 1) := by decide +kernel
theorem dX7_readsChange_113 : decode cX7_readsChange 113 = .ok (.getfield 135, 3) := by decide +kernel
theorem dX7_readsChange_116 : decode cX7_readsChange 116 = .ok (.ifCond .eq 16, 3) := by decide +kernel
theorem dX7_readsChange_119 : decode cX7_readsChange 119 = .ok (.aload_n 0, 1) := by decide +kernel
theorem dX7_readsChange_120 : decode cX7_readsChange 120 = .ok (.invokevirtual 139, 3) := by decide +kernel
theorem dX7_readsChange_123 : decode cX7_readsChange 123 = .ok (.bipush 61, 2) := by decide +kernel
theorem dX7_readsChange_125 : decode cX7_readsChange 125 = .ok (.if_icmp .ne 7, 3) := by decide +kernel
theorem dX7_readsChange_128 : decode cX7_readsChange 128 = .ok (.iconst 1, 1) := by decide +kernel
theorem dX7_readsChange_129 : decode cX7_readsChange 129 = .ok (.goto 4, 3) := by decide +kernel
theorem dX7_readsChange_132 : decode cX7_readsChange 132 = .ok (.iconst 0, 1) := by decide +kernel
theorem dX7_readsChange_133 : decode cX7_readsChange 133 = .ok (.putfield 135, 3) := by decide +kernel
theorem dX7_readsChange_136 : decode cX7_readsChange 136 = .ok (.aload_n 0, 1) := by decide +kernel
theorem dX7_readsChange_137 : decode cX7_readsChange 137 = .ok (.dup, 1) := by decide +kernel
theorem dX7_readsChange_138 : decode cX7_readsChange 138 = .ok (.getfield 132, 3) := by decide +kernel
theorem dX7_readsChange_141 : decode cX7_readsChange 141 = .ok (.aload_n 0, 1) := by decide +kernel
theorem dX7_readsChange_142 : decode cX7_readsChange 142 = .ok (.getfield 135, 3) := by decide +kernel
theorem dX7_readsChange_145 : decode cX7_readsChange 145 = .ok (.ifCond .eq 7, 3) := by decide +kernel
theorem dX7_readsChange_148 : decode cX7_readsChange 148 = .ok (.iconst 1, 1) := by decide +kernel
theorem dX7_readsChange_149 : decode cX7_readsChange 149 = .ok (.goto 4, 3) := by decide +kernel
theorem dX7_readsChange_152 : decode cX7_readsChange 152 = .ok (.iconst 0, 1) := by decide +kernel
theorem dX7_readsChange_153 : decode cX7_readsChange 153 = .ok (.iadd, 1) := by decide +kernel
theorem dX7_readsChange_154 : decode cX7_readsChange 154 = .ok (.putfield 132, 3) := by decide +kernel
theorem dX7_readsChange_157 : decode cX7_readsChange 157 = .ok (.aload_n 0, 1) := by decide +kernel
theorem dX7_readsChange_158 : decode cX7_readsChange 158 = .ok (.getfield 19, 3) := by decide +kernel
theorem dX7_readsChange_161 : decode cX7_readsChange 161 = .ok (.iload_n 1, 1) := by decide +kernel
theorem dX7_readsChange_162 : decode cX7_readsChange 162 = .ok (.iconst 2, 1) := by decide +kernel
theorem dX7_readsChange_163 : decode cX7_readsChange 163 = .ok (.iadd, 1) := by decide +kernel
theorem dX7_readsChange_164 : decode cX7_readsChange 164 = .ok (.iload_n 2, 1) := by decide +kernel
theorem dX7_readsChange_165 : decode cX7_readsChange 165 = .ok (.bipush 45, 2) := by decide +kernel
theorem dX7_readsChange_167 : decode cX7_readsChange 167 = .ok (.if_icmp .eq 9, 3) := by decide +kernel
theorem dX7_readsChange_170 : decode cX7_readsChange 170 = .ok (.iload_n 2, 1) := by decide +kernel
theorem dX7_readsChange_171 : decode cX7_readsChange 171 = .ok (.bipush 126, 2) := by decide +kernel
theorem dX7_readsChange_173 : decode cX7_readsChange 173 = .ok (.if_icmp .ne 7, 3) := by decide +kernel
theorem dX7_readsChange_176 : decode cX7_readsChange 176 = .ok (.iconst 0, 1) := by decide +kernel
theorem dX7_readsChange_177 : decode cX7_readsChange 177 = .ok (.goto 9, 3) := by decide +kernel
theorem dX7_readsChange_180 : decode cX7_readsChange 180 = .ok (.aload_n 0, 1) := by decide +kernel
theorem dX7_readsChange_181 : decode cX7_readsChange 181 = .ok (.bipush 57, 2) := by decide +kernel
theorem dX7_readsChange_183 : decode cX7_readsChange 183 = .ok (.invokevirtual 142, 3) := by decide +kernel
theorem dX7_readsChange_186 : decode cX7_readsChange 186 = .ok (.iastore, 1) := by decide +kernel
theorem dX7_readsChange_187 : decode cX7_readsChange 187 = .ok (.aload_n 0, 1) := by decide +kernel
theorem dX7_readsChange_188 : decode cX7_readsChange 188 = .ok (.dup, 1) := by decide +kernel
theorem dX7_readsChange_189 : decode cX7_readsChange 189 = .ok (.getfield 145, 3) := by decide +kernel
theorem dX7_readsChange_192 : decode cX7_readsChange 192 = .ok (.aload_n 0, 1) := by decide +kernel
theorem dX7_readsChange_193 : decode cX7_readsChange 193 = .ok (.getfield 135, 3) := by decide +kernel
theorem dX7_readsChange_196 : decode cX7_readsChange 196 = .ok (.ifCond .eq 7, 3) := by decide +kernel
theorem dX7_readsChange_199 : decode cX7_readsChange 199 = .ok (.iconst 1, 1) := by decide +kernel
theorem dX7_readsChange_200 : decode cX7_readsChange 200 = .ok (.goto 4, 3) := by decide +kernel
theorem dX7_readsChange_203 : decode cX7_readsChange 203 = .ok (.iconst 0, 1) := by decide +kernel
theorem dX7_readsChange_204 : decode cX7_readsChange 204 = .ok (.iadd, 1) := by decide +kernel
theorem dX7_readsChange_205 : decode cX7_readsChange 205 = .ok (.putfield 145, 3) := by decide +kernel
theorem dX7_readsChange_208 : decode cX7_readsChange 208 = .ok (.return_, 1) := by decide +kernel
theorem dX7_readsAll_0 : decode cX7_readsAll 0 = .ok (.aload_n 0, 1) := by decide +kernel
theorem dX7_readsAll_1 : decode cX7_readsAll 1 = .ok (.iconst 0, 1) := by decide +kernel
theorem dX7_readsAll_2 : decode cX7_readsAll 2 = .ok (.putfield 132, 3) := by decide +kernel
theorem dX7_readsAll_5 : decode cX7_readsAll 5 = .ok (.aload_n 0, 1) := by decide +kernel
theorem dX7_readsAll_6 : decode cX7_readsAll 6 = .ok (.iconst 1, 1) := by decide +kernel
theorem dX7_readsAll_7 : decode cX7_readsAll 7 = .ok (.putfield 135, 3) := by decide +kernel
theorem dX7_readsAll_10 : decode cX7_readsAll 10 = .ok (.aload_n 0, 1) := by decide +kernel
theorem dX7_readsAll_11 : decode cX7_readsAll 11 = .ok (.iconst 0, 1) := by decide +kernel
theorem dX7_readsAll_12 : decode cX7_readsAll 12 = .ok (.putfield 145, 3) := by decide +kernel
theorem dX7_readsAll_15 : decode cX7_readsAll 15 = .ok (.aload_n 0, 1) := by decide +kernel
theorem dX7_readsAll_16 : decode cX7_readsAll 16 = .ok (.invokevirtual 151, 3) := by decide +kernel
theorem dX7_readsAll_19 : decode cX7_readsAll 19 = .ok (.aload_n 0, 1) := by decide +kernel
theorem dX7_readsAll_20 : decode cX7_readsAll 20 = .ok (.getfield 135, 3) := by decide +kernel
theorem dX7_readsAll_23 : decode cX7_readsAll 23 = .ok (.ifCond .eq 67, 3) := by decide +kernel
theorem dX7_readsAll_26 : decode cX7_readsAll 26 = .ok (.aload_n 0, 1) := by decide +kernel
theorem dX7_readsAll_27 : decode cX7_readsAll 27 = .ok (.getfield 132, 3) := by decide +kernel
theorem dX7_readsAll_30 : decode cX7_readsAll 30 = .ok (.aload_n 0, 1) := by decide +kernel
theorem dX7_readsAll_31 : decode cX7_readsAll 31 = .ok (.getfield 129, 3) := by decide +kernel
theorem dX7_readsAll_34 : decode cX7_readsAll 34 = .ok (.if_icmp .ge 56, 3) := by decide +kernel
theorem dX7_readsAll_37 : decode cX7_readsAll 37 = .ok (.aload_n 0, 1) := by decide +kernel
theorem dX7_readsAll_38 : decode cX7_readsAll 38 = .ok (.aload_n 0, 1) := by decide +kernel
theorem dX7_readsAll_39 : decode cX7_readsAll 39 = .ok (.invokevirtual 139, 3) := by decide +kernel
theorem dX7_readsAll_42 : decode cX7_readsAll 42 = .ok (.bipush 44, 2) := by decide +kernel
theorem dX7_readsAll_44 : decode cX7_readsAll 44 = .ok (.if_icmp .ne 7, 3) := by decide +kernel
theorem dX7_readsAll_47 : decode cX7_readsAll 47 = .ok (.iconst 1, 1) := by decide +kernel
theorem dX7_readsAll_48 : decode cX7_readsAll 48 = .ok (.goto 4, 3) := by decide +kernel
theorem dX7_readsAll_51 : decode cX7_readsAll 51 = .ok (.iconst 0, 1) := by decide +kernel
theorem dX7_readsAll_52 : decode cX7_readsAll 52 = .ok (.putfield 135, 3) := by decide +kernel
theorem dX7_readsAll_55 : decode cX7_readsAll 55 = .ok (.aload_n 0, 1) := by decide +kernel
theorem dX7_readsAll_56 : decode cX7_readsAll 56 = .ok (.dup, 1) := by decide +kernel
theorem dX7_readsAll_57 : decode cX7_readsAll 57 = .ok (.getfield 132, 3) := by decide +kernel
theorem dX7_readsAll_60 : decode cX7_readsAll 60 = .ok (.aload_n 0, 1) := by decide +kernel
theorem dX7_readsAll_61 : decode cX7_readsAll 61 = .ok (.getfield 135, 3) := by decide +kernel
theorem dX7_readsAll_64 : decode cX7_readsAll 64 = .ok (.ifCond .eq 7, 3) := by decide +kernel
theorem dX7_readsAll_67 : decode cX7_readsAll 67 = .ok (.iconst 1, 1) := by decide +kernel
theorem dX7_readsAll_68 : decode cX7_readsAll 68 = .ok (.goto 4, 3) := by decide +kernel
theorem dX7_readsAll_71 : decode cX7_readsAll 71 = .ok (.iconst 0, 1) := by decide +kernel
theorem dX7_readsAll_72 : decode cX7_readsAll 72 = .ok (.iadd, 1) := by decide +kernel
theorem dX7_readsAll_73 : decode cX7_readsAll 73 = .ok (.putfield 132, 3) := by decide +kernel
theorem dX7_readsAll_76 : decode cX7_readsAll 76 = .ok (.aload_n 0, 1) := by decide +kernel
theorem dX7_readsAll_77 : decode cX7_readsAll 77 = .ok (.getfield 135, 3) := by decide +kernel
theorem dX7_readsAll_80 : decode cX7_readsAll 80 = .ok (.ifCond .eq (-61), 3) := by decide +kernel
theorem dX7_readsAll_83 : decode cX7_readsAll 83 = .ok (.aload_n 0, 1) := by decide +kernel
theorem dX7_readsAll_84 : decode cX7_readsAll 84 = .ok (.invokevirtual 151, 3) := by decide +kernel
theorem dX7_readsAll_87 : decode cX7_readsAll 87 = .ok (.goto (-68), 3) := by decide +kernel
theorem dX7_readsAll_90 : decode cX7_readsAll 90 = .ok (.return_, 1) := by decide +kernel
theorem dX7_firstError_0 : decode cX7_firstError 0 = .ok (.aload_n 0, 1) := by decide +kernel
theorem dX7_firstError_1 : decode cX7_firstError 1 = .ok (.iconst 0, 1) := by decide +kernel
theorem dX7_firstError_2 : decode cX7_firstError 2 = .ok (.putfield 22, 3) := by decide +kernel
theorem dX7_firstError_5 : decode cX7_firstError 5 = .ok (.aload_n 0, 1) := by decide +kernel
theorem dX7_firstError_6 : decode cX7_firstError 6 = .ok (.invokevirtual 154, 3) := by decide +kernel
theorem dX7_firstError_9 : decode cX7_firstError 9 = .ok (.aload_n 0, 1) := by decide +kernel
theorem dX7_firstError_10 : decode cX7_firstError 10 = .ok (.getfield 132, 3) := by decide +kernel
theorem dX7_firstError_13 : decode cX7_firstError 13 = .ok (.ireturn, 1) := by decide +kernel
theorem dX7_makes_0 : decode cX7_makes 0 = .ok (.aload_n 0, 1) := by decide +kernel
theorem dX7_makes_1 : decode cX7_makes 1 = .ok (.getfield 19, 3) := by decide +kernel
theorem dX7_makes_4 : decode cX7_makes 4 = .ok (.iload_n 1, 1) := by decide +kernel
theorem dX7_makes_5 : decode cX7_makes 5 = .ok (.iaload, 1) := by decide +kernel
theorem dX7_makes_6 : decode cX7_makes 6 = .ok (.bipush 126, 2) := by decide +kernel
theorem dX7_makes_8 : decode cX7_makes 8 = .ok (.if_icmp .ne 18, 3) := by decide +kernel
theorem dX7_makes_11 : decode cX7_makes 11 = .ok (.aload_n 0, 1) := by decide +kernel
theorem dX7_makes_12 : decode cX7_makes 12 = .ok (.aload_n 0, 1) := by decide +kernel
theorem dX7_makes_13 : decode cX7_makes 13 = .ok (.getfield 19, 3) := by decide +kernel
theorem dX7_makes_16 : decode cX7_makes 16 = .ok (.iload_n 1, 1) := by decide +kernel
theorem dX7_makes_17 : decode cX7_makes 17 = .ok (.iconst 1, 1) := by decide +kernel
theorem dX7_makes_18 : decode cX7_makes 18 = .ok (.iadd, 1) := by decide +kernel
theorem dX7_makes_19 : decode cX7_makes 19 = .ok (.iaload, 1) := by decide +kernel
theorem dX7_makes_20 : decode cX7_makes 20 = .ok (.invokevirtual 102, 3) := by decide +kernel
theorem dX7_makes_23 : decode cX7_makes 23 = .ok (.pop, 1) := by decide +kernel
theorem dX7_makes_24 : decode cX7_makes 24 = .ok (.iconst 1, 1) := by decide +kernel
theorem dX7_makes_25 : decode cX7_makes 25 = .ok (.ireturn, 1) := by decide +kernel
theorem dX7_makes_26 : decode cX7_makes 26 = .ok (.aload_n 0, 1) := by decide +kernel
theorem dX7_makes_27 : decode cX7_makes 27 = .ok (.aload_n 0, 1) := by decide +kernel
theorem dX7_makes_28 : decode cX7_makes 28 = .ok (.getfield 19, 3) := by decide +kernel
theorem dX7_makes_31 : decode cX7_makes 31 = .ok (.iload_n 1, 1) := by decide +kernel
theorem dX7_makes_32 : decode cX7_makes 32 = .ok (.iaload, 1) := by decide +kernel
theorem dX7_makes_33 : decode cX7_makes 33 = .ok (.aload_n 0, 1) := by decide +kernel
theorem dX7_makes_34 : decode cX7_makes 34 = .ok (.getfield 19, 3) := by decide +kernel
theorem dX7_makes_37 : decode cX7_makes 37 = .ok (.iload_n 1, 1) := by decide +kernel
theorem dX7_makes_38 : decode cX7_makes 38 = .ok (.iconst 1, 1) := by decide +kernel
theorem dX7_makes_39 : decode cX7_makes 39 = .ok (.iadd, 1) := by decide +kernel
theorem dX7_makes_40 : decode cX7_makes 40 = .ok (.iaload, 1) := by decide +kernel
theorem dX7_makes_41 : decode cX7_makes 41 = .ok (.invokevirtual 71, 3) := by decide +kernel
theorem dX7_makes_44 : decode cX7_makes 44 = .ok (.istore_n 2, 1) := by decide +kernel
theorem dX7_makes_45 : decode cX7_makes 45 = .ok (.iload_n 2, 1) := by decide +kernel
theorem dX7_makes_46 : decode cX7_makes 46 = .ok (.ifCond .eq 30, 3) := by decide +kernel
theorem dX7_makes_49 : decode cX7_makes 49 = .ok (.aload_n 0, 1) := by decide +kernel
theorem dX7_makes_50 : decode cX7_makes 50 = .ok (.aload_n 0, 1) := by decide +kernel
theorem dX7_makes_51 : decode cX7_makes 51 = .ok (.getfield 19, 3) := by decide +kernel
theorem dX7_makes_54 : decode cX7_makes 54 = .ok (.iload_n 1, 1) := by decide +kernel
theorem dX7_makes_55 : decode cX7_makes 55 = .ok (.iaload, 1) := by decide +kernel
theorem dX7_makes_56 : decode cX7_makes 56 = .ok (.aload_n 0, 1) := by decide +kernel
theorem dX7_makes_57 : decode cX7_makes 57 = .ok (.getfield 19, 3) := by decide +kernel
theorem dX7_makes_60 : decode cX7_makes 60 = .ok (.iload_n 1, 1) := by decide +kernel
theorem dX7_makes_61 : decode cX7_makes 61 = .ok (.iconst 1, 1) := by decide +kernel
theorem dX7_makes_62 : decode cX7_makes 62 = .ok (.iadd, 1) := by decide +kernel
theorem dX7_makes_63 : decode cX7_makes 63 = .ok (.iaload, 1) := by decide +kernel
theorem dX7_makes_64 : decode cX7_makes 64 = .ok (.aload_n 0, 1) := by decide +kernel
theorem dX7_makes_65 : decode cX7_makes 65 = .ok (.getfield 19, 3) := by decide +kernel
theorem dX7_makes_68 : decode cX7_makes 68 = .ok (.iload_n 1, 1) := by decide +kernel
theorem dX7_makes_69 : decode cX7_makes 69 = .ok (.iconst 2, 1) := by decide +kernel
theorem dX7_makes_70 : decode cX7_makes 70 = .ok (.iadd, 1) := by decide +kernel
theorem dX7_makes_71 : decode cX7_makes 71 = .ok (.iaload, 1) := by decide +kernel
theorem dX7_makes_72 : decode cX7_makes 72 = .ok (.invokevirtual 77, 3) := by decide +kernel
theorem dX7_makes_75 : decode cX7_makes 75 = .ok (.pop, 1) := by decide +kernel
theorem dX7_makes_76 : decode cX7_makes 76 = .ok (.iload_n 2, 1) := by decide +kernel
theorem dX7_makes_77 : decode cX7_makes 77 = .ok (.ireturn, 1) := by decide +kernel
theorem dX7_play_0 : decode cX7_play 0 = .ok (.aload_n 0, 1) := by decide +kernel
theorem dX7_play_1 : decode cX7_play 1 = .ok (.iconst 0, 1) := by decide +kernel
theorem dX7_play_2 : decode cX7_play 2 = .ok (.putfield 22, 3) := by decide +kernel
theorem dX7_play_5 : decode cX7_play 5 = .ok (.aload_n 0, 1) := by decide +kernel
theorem dX7_play_6 : decode cX7_play 6 = .ok (.invokevirtual 154, 3) := by decide +kernel
theorem dX7_play_9 : decode cX7_play 9 = .ok (.aload_n 0, 1) := by decide +kernel
theorem dX7_play_10 : decode cX7_play 10 = .ok (.getfield 135, 3) := by decide +kernel
theorem dX7_play_13 : decode cX7_play 13 = .ok (.ifCond .ne 9, 3) := by decide +kernel
theorem dX7_play_16 : decode cX7_play 16 = .ok (.aload_n 0, 1) := by decide +kernel
theorem dX7_play_17 : decode cX7_play 17 = .ok (.iconst 1, 1) := by decide +kernel
theorem dX7_play_18 : decode cX7_play 18 = .ok (.invokevirtual 67, 3) := by decide +kernel
theorem dX7_play_21 : decode cX7_play 21 = .ok (.ireturn, 1) := by decide +kernel
theorem dX7_play_22 : decode cX7_play 22 = .ok (.aload_n 0, 1) := by decide +kernel
theorem dX7_play_23 : decode cX7_play 23 = .ok (.invokevirtual 74, 3) := by decide +kernel
theorem dX7_play_26 : decode cX7_play 26 = .ok (.aload_n 0, 1) := by decide +kernel
theorem dX7_play_27 : decode cX7_play 27 = .ok (.iconst 0, 1) := by decide +kernel
theorem dX7_play_28 : decode cX7_play 28 = .ok (.putfield 129, 3) := by decide +kernel
theorem dX7_play_31 : decode cX7_play 31 = .ok (.iconst 0, 1) := by decide +kernel
theorem dX7_play_32 : decode cX7_play 32 = .ok (.istore_n 1, 1) := by decide +kernel
theorem dX7_play_33 : decode cX7_play 33 = .ok (.iload_n 1, 1) := by decide +kernel
theorem dX7_play_34 : decode cX7_play 34 = .ok (.aload_n 0, 1) := by decide +kernel
theorem dX7_play_35 : decode cX7_play 35 = .ok (.getfield 145, 3) := by decide +kernel
theorem dX7_play_38 : decode cX7_play 38 = .ok (.if_icmp .ge 19, 3) := by decide +kernel
theorem dX7_play_41 : decode cX7_play 41 = .ok (.aload_n 0, 1) := by decide +kernel
theorem dX7_play_42 : decode cX7_play 42 = .ok (.iconst 3, 1) := by decide +kernel
theorem dX7_play_43 : decode cX7_play 43 = .ok (.iload_n 1, 1) := by decide +kernel
theorem dX7_play_44 : decode cX7_play 44 = .ok (.imul, 1) := by decide +kernel
theorem dX7_play_45 : decode cX7_play 45 = .ok (.invokevirtual 157, 3) := by decide +kernel
theorem dX7_play_48 : decode cX7_play 48 = .ok (.ifCond .eq 9, 3) := by decide +kernel
theorem dX7_play_51 : decode cX7_play 51 = .ok (.iinc 1 1, 3) := by decide +kernel
theorem dX7_play_54 : decode cX7_play 54 = .ok (.goto (-21), 3) := by decide +kernel
theorem dX7_play_57 : decode cX7_play 57 = .ok (.iload_n 1, 1) := by decide +kernel
theorem dX7_play_58 : decode cX7_play 58 = .ok (.ireturn, 1) := by decide +kernel
theorem dX7_undo_0 : decode cX7_undo 0 = .ok (.aload_n 0, 1) := by decide +kernel
theorem dX7_undo_1 : decode cX7_undo 1 = .ok (.iconst 0, 1) := by decide +kernel
theorem dX7_undo_2 : decode cX7_undo 2 = .ok (.putfield 22, 3) := by decide +kernel
theorem dX7_undo_5 : decode cX7_undo 5 = .ok (.aload_n 0, 1) := by decide +kernel
theorem dX7_undo_6 : decode cX7_undo 6 = .ok (.getfield 30, 3) := by decide +kernel
theorem dX7_undo_9 : decode cX7_undo 9 = .ok (.ifCond .ne 9, 3) := by decide +kernel
theorem dX7_undo_12 : decode cX7_undo 12 = .ok (.aload_n 0, 1) := by decide +kernel
theorem dX7_undo_13 : decode cX7_undo 13 = .ok (.iconst 1, 1) := by decide +kernel
theorem dX7_undo_14 : decode cX7_undo 14 = .ok (.invokevirtual 67, 3) := by decide +kernel
theorem dX7_undo_17 : decode cX7_undo 17 = .ok (.ireturn, 1) := by decide +kernel
theorem dX7_undo_18 : decode cX7_undo 18 = .ok (.aload_n 0, 1) := by decide +kernel
theorem dX7_undo_19 : decode cX7_undo 19 = .ok (.dup, 1) := by decide +kernel
theorem dX7_undo_20 : decode cX7_undo 20 = .ok (.getfield 30, 3) := by decide +kernel
theorem dX7_undo_23 : decode cX7_undo 23 = .ok (.iconst 1, 1) := by decide +kernel
theorem dX7_undo_24 : decode cX7_undo 24 = .ok (.isub, 1) := by decide +kernel
theorem dX7_undo_25 : decode cX7_undo 25 = .ok (.putfield 30, 3) := by decide +kernel
theorem dX7_undo_28 : decode cX7_undo 28 = .ok (.iconst 0, 1) := by decide +kernel
theorem dX7_undo_29 : decode cX7_undo 29 = .ok (.istore_n 1, 1) := by decide +kernel
theorem dX7_undo_30 : decode cX7_undo 30 = .ok (.iload_n 1, 1) := by decide +kernel
theorem dX7_undo_31 : decode cX7_undo 31 = .ok (.bipush 99, 2) := by decide +kernel
theorem dX7_undo_33 : decode cX7_undo 33 = .ok (.if_icmp .ge 29, 3) := by decide +kernel
theorem dX7_undo_36 : decode cX7_undo 36 = .ok (.aload_n 0, 1) := by decide +kernel
theorem dX7_undo_37 : decode cX7_undo 37 = .ok (.getfield 7, 3) := by decide +kernel
theorem dX7_undo_40 : decode cX7_undo 40 = .ok (.iload_n 1, 1) := by decide +kernel
theorem dX7_undo_41 : decode cX7_undo 41 = .ok (.aload_n 0, 1) := by decide +kernel
theorem dX7_undo_42 : decode cX7_undo 42 = .ok (.getfield 13, 3) := by decide +kernel
theorem dX7_undo_45 : decode cX7_undo 45 = .ok (.bipush 99, 2) := by decide +kernel
theorem dX7_undo_47 : decode cX7_undo 47 = .ok (.aload_n 0, 1) := by decide +kernel
theorem dX7_undo_48 : decode cX7_undo 48 = .ok (.getfield 30, 3) := by decide +kernel
theorem dX7_undo_51 : decode cX7_undo 51 = .ok (.imul, 1) := by decide +kernel
theorem dX7_undo_52 : decode cX7_undo 52 = .ok (.iload_n 1, 1) := by decide +kernel
theorem dX7_undo_53 : decode cX7_undo 53 = .ok (.iadd, 1) := by decide +kernel
theorem dX7_undo_54 : decode cX7_undo 54 = .ok (.iaload, 1) := by decide +kernel
theorem dX7_undo_55 : decode cX7_undo 55 = .ok (.iastore, 1) := by decide +kernel
theorem dX7_undo_56 : decode cX7_undo 56 = .ok (.iinc 1 1, 3) := by decide +kernel
theorem dX7_undo_59 : decode cX7_undo 59 = .ok (.goto (-29), 3) := by decide +kernel
theorem dX7_undo_62 : decode cX7_undo 62 = .ok (.aload_n 0, 1) := by decide +kernel
theorem dX7_undo_63 : decode cX7_undo 63 = .ok (.getfield 30, 3) := by decide +kernel
theorem dX7_undo_66 : decode cX7_undo 66 = .ok (.ireturn, 1) := by decide +kernel
theorem dX7_tellsSlot_0 : decode cX7_tellsSlot 0 = .ok (.iload_n 2, 1) := by decide +kernel
theorem dX7_tellsSlot_1 : decode cX7_tellsSlot 1 = .ok (.tableswitch 55 0 2 #[27, 36, 36], 27) := by decide +kernel
theorem dX7_tellsSlot_28 : decode cX7_tellsSlot 28 = .ok (.aload_n 0, 1) := by decide +kernel
theorem dX7_tellsSlot_29 : decode cX7_tellsSlot 29 = .ok (.iload_n 1, 1) := by decide +kernel
theorem dX7_tellsSlot_30 : decode cX7_tellsSlot 30 = .ok (.iconst 0, 1) := by decide +kernel
theorem dX7_tellsSlot_31 : decode cX7_tellsSlot 31 = .ok (.invokevirtual 33, 3) := by decide +kernel
theorem dX7_tellsSlot_34 : decode cX7_tellsSlot 34 = .ok (.iconst 1, 1) := by decide +kernel
theorem dX7_tellsSlot_35 : decode cX7_tellsSlot 35 = .ok (.isub, 1) := by decide +kernel
theorem dX7_tellsSlot_36 : decode cX7_tellsSlot 36 = .ok (.ireturn, 1) := by decide +kernel
theorem dX7_tellsSlot_37 : decode cX7_tellsSlot 37 = .ok (.aload_n 0, 1) := by decide +kernel
theorem dX7_tellsSlot_38 : decode cX7_tellsSlot 38 = .ok (.iload_n 1, 1) := by decide +kernel
theorem dX7_tellsSlot_39 : decode cX7_tellsSlot 39 = .ok (.invokevirtual 37, 3) := by decide +kernel
theorem dX7_tellsSlot_42 : decode cX7_tellsSlot 42 = .ok (.ifCond .eq 12, 3) := by decide +kernel
theorem dX7_tellsSlot_45 : decode cX7_tellsSlot 45 = .ok (.aload_n 0, 1) := by decide +kernel
theorem dX7_tellsSlot_46 : decode cX7_tellsSlot 46 = .ok (.iload_n 1, 1) := by decide +kernel
theorem dX7_tellsSlot_47 : decode cX7_tellsSlot 47 = .ok (.iload_n 2, 1) := by decide +kernel
theorem dX7_tellsSlot_48 : decode cX7_tellsSlot 48 = .ok (.invokevirtual 33, 3) := by decide +kernel
theorem dX7_tellsSlot_51 : decode cX7_tellsSlot 51 = .ok (.goto 4, 3) := by decide +kernel
theorem dX7_tellsSlot_54 : decode cX7_tellsSlot 54 = .ok (.iconst (-1), 1) := by decide +kernel
theorem dX7_tellsSlot_55 : decode cX7_tellsSlot 55 = .ok (.ireturn, 1) := by decide +kernel
theorem dX7_tellsSlot_56 : decode cX7_tellsSlot 56 = .ok (.aload_n 0, 1) := by decide +kernel
theorem dX7_tellsSlot_57 : decode cX7_tellsSlot 57 = .ok (.iload_n 1, 1) := by decide +kernel
theorem dX7_tellsSlot_58 : decode cX7_tellsSlot 58 = .ok (.aload_n 0, 1) := by decide +kernel
theorem dX7_tellsSlot_59 : decode cX7_tellsSlot 59 = .ok (.getfield 7, 3) := by decide +kernel
theorem dX7_tellsSlot_62 : decode cX7_tellsSlot 62 = .ok (.iconst 0, 1) := by decide +kernel
theorem dX7_tellsSlot_63 : decode cX7_tellsSlot 63 = .ok (.iaload, 1) := by decide +kernel
theorem dX7_tellsSlot_64 : decode cX7_tellsSlot 64 = .ok (.invokevirtual 63, 3) := by decide +kernel
theorem dX7_tellsSlot_67 : decode cX7_tellsSlot 67 = .ok (.ifCond .eq 7, 3) := by decide +kernel
theorem dX7_tellsSlot_70 : decode cX7_tellsSlot 70 = .ok (.iconst 1, 1) := by decide +kernel
theorem dX7_tellsSlot_71 : decode cX7_tellsSlot 71 = .ok (.goto 4, 3) := by decide +kernel
theorem dX7_tellsSlot_74 : decode cX7_tellsSlot 74 = .ok (.iconst 0, 1) := by decide +kernel
theorem dX7_tellsSlot_75 : decode cX7_tellsSlot 75 = .ok (.ireturn, 1) := by decide +kernel
theorem dX7_slot_0 : decode cX7_slot 0 = .ok (.aload_n 0, 1) := by decide +kernel
theorem dX7_slot_1 : decode cX7_slot 1 = .ok (.iconst 0, 1) := by decide +kernel
theorem dX7_slot_2 : decode cX7_slot 2 = .ok (.putfield 22, 3) := by decide +kernel
theorem dX7_slot_5 : decode cX7_slot 5 = .ok (.iload_n 1, 1) := by decide +kernel
theorem dX7_slot_6 : decode cX7_slot 6 = .ok (.invokestatic 60, 3) := by decide +kernel
theorem dX7_slot_9 : decode cX7_slot 9 = .ok (.ifCond .ne 9, 3) := by decide +kernel
theorem dX7_slot_12 : decode cX7_slot 12 = .ok (.aload_n 0, 1) := by decide +kernel
theorem dX7_slot_13 : decode cX7_slot 13 = .ok (.iconst 1, 1) := by decide +kernel
theorem dX7_slot_14 : decode cX7_slot 14 = .ok (.invokevirtual 67, 3) := by decide +kernel
theorem dX7_slot_17 : decode cX7_slot 17 = .ok (.ireturn, 1) := by decide +kernel
theorem dX7_slot_18 : decode cX7_slot 18 = .ok (.iload_n 2, 1) := by decide +kernel
theorem dX7_slot_19 : decode cX7_slot 19 = .ok (.iconst 0, 1) := by decide +kernel
theorem dX7_slot_20 : decode cX7_slot 20 = .ok (.iconst 3, 1) := by decide +kernel
theorem dX7_slot_21 : decode cX7_slot 21 = .ok (.invokestatic 26, 3) := by decide +kernel
theorem dX7_slot_24 : decode cX7_slot 24 = .ok (.ifCond .eq 12, 3) := by decide +kernel
theorem dX7_slot_27 : decode cX7_slot 27 = .ok (.aload_n 0, 1) := by decide +kernel
theorem dX7_slot_28 : decode cX7_slot 28 = .ok (.iload_n 1, 1) := by decide +kernel
theorem dX7_slot_29 : decode cX7_slot 29 = .ok (.iload_n 2, 1) := by decide +kernel
theorem dX7_slot_30 : decode cX7_slot 30 = .ok (.invokevirtual 160, 3) := by decide +kernel
theorem dX7_slot_33 : decode cX7_slot 33 = .ok (.goto 8, 3) := by decide +kernel
theorem dX7_slot_36 : decode cX7_slot 36 = .ok (.aload_n 0, 1) := by decide +kernel
theorem dX7_slot_37 : decode cX7_slot 37 = .ok (.iconst 2, 1) := by decide +kernel
theorem dX7_slot_38 : decode cX7_slot 38 = .ok (.invokevirtual 67, 3) := by decide +kernel
theorem dX7_slot_41 : decode cX7_slot 41 = .ok (.ireturn, 1) := by decide +kernel
theorem dX7_versions_0 : decode cX7_versions 0 = .ok (.iconst 0, 1) := by decide +kernel
theorem dX7_versions_1 : decode cX7_versions 1 = .ok (.istore 5, 2) := by decide +kernel
theorem dX7_versions_3 : decode cX7_versions 3 = .ok (.iload_n 1, 1) := by decide +kernel
theorem dX7_versions_4 : decode cX7_versions 4 = .ok (.istore 6, 2) := by decide +kernel
theorem dX7_versions_6 : decode cX7_versions 6 = .ok (.iload 6, 2) := by decide +kernel
theorem dX7_versions_8 : decode cX7_versions 8 = .ok (.iload_n 2, 1) := by decide +kernel
theorem dX7_versions_9 : decode cX7_versions 9 = .ok (.if_icmp .ge 51, 3) := by decide +kernel
theorem dX7_versions_12 : decode cX7_versions 12 = .ok (.iload 5, 2) := by decide +kernel
theorem dX7_versions_14 : decode cX7_versions 14 = .ok (.iload_n 3, 1) := by decide +kernel
theorem dX7_versions_15 : decode cX7_versions 15 = .ok (.ifCond .eq 22, 3) := by decide +kernel
theorem dX7_versions_18 : decode cX7_versions 18 = .ok (.aload_n 0, 1) := by decide +kernel
theorem dX7_versions_19 : decode cX7_versions 19 = .ok (.iload 6, 2) := by decide +kernel
theorem dX7_versions_21 : decode cX7_versions 21 = .ok (.iload 4, 2) := by decide +kernel
theorem dX7_versions_23 : decode cX7_versions 23 = .ok (.invokevirtual 63, 3) := by decide +kernel
theorem dX7_versions_26 : decode cX7_versions 26 = .ok (.ifCond .eq 7, 3) := by decide +kernel
theorem dX7_versions_29 : decode cX7_versions 29 = .ok (.iconst 1, 1) := by decide +kernel
theorem dX7_versions_30 : decode cX7_versions 30 = .ok (.goto 21, 3) := by decide +kernel
theorem dX7_versions_33 : decode cX7_versions 33 = .ok (.iconst 0, 1) := by decide +kernel
theorem dX7_versions_34 : decode cX7_versions 34 = .ok (.goto 17, 3) := by decide +kernel
theorem dX7_versions_37 : decode cX7_versions 37 = .ok (.aload_n 0, 1) := by decide +kernel
theorem dX7_versions_38 : decode cX7_versions 38 = .ok (.iload 6, 2) := by decide +kernel
theorem dX7_versions_40 : decode cX7_versions 40 = .ok (.invokevirtual 37, 3) := by decide +kernel
theorem dX7_versions_43 : decode cX7_versions 43 = .ok (.ifCond .eq 7, 3) := by decide +kernel
theorem dX7_versions_46 : decode cX7_versions 46 = .ok (.iconst 1, 1) := by decide +kernel
theorem dX7_versions_47 : decode cX7_versions 47 = .ok (.goto 4, 3) := by decide +kernel
theorem dX7_versions_50 : decode cX7_versions 50 = .ok (.iconst 0, 1) := by decide +kernel
theorem dX7_versions_51 : decode cX7_versions 51 = .ok (.iadd, 1) := by decide +kernel
theorem dX7_versions_52 : decode cX7_versions 52 = .ok (.istore 5, 2) := by decide +kernel
theorem dX7_versions_54 : decode cX7_versions 54 = .ok (.iinc 6 1, 3) := by decide +kernel
theorem dX7_versions_57 : decode cX7_versions 57 = .ok (.goto (-51), 3) := by decide +kernel
theorem dX7_versions_60 : decode cX7_versions 60 = .ok (.iload 5, 2) := by decide +kernel
theorem dX7_versions_62 : decode cX7_versions 62 = .ok (.ireturn, 1) := by decide +kernel
theorem dX7_tellsPage_0 : decode cX7_tellsPage 0 = .ok (.iload_n 2, 1) := by decide +kernel
theorem dX7_tellsPage_1 : decode cX7_tellsPage 1 = .ok (.tableswitch 77 0 3 #[31, 38, 38, 67], 31) := by decide +kernel
theorem dX7_tellsPage_32 : decode cX7_tellsPage 32 = .ok (.aload_n 0, 1) := by decide +kernel
theorem dX7_tellsPage_33 : decode cX7_tellsPage 33 = .ok (.iload_n 1, 1) := by decide +kernel
theorem dX7_tellsPage_34 : decode cX7_tellsPage 34 = .ok (.iconst 0, 1) := by decide +kernel
theorem dX7_tellsPage_35 : decode cX7_tellsPage 35 = .ok (.invokevirtual 105, 3) := by decide +kernel
theorem dX7_tellsPage_38 : decode cX7_tellsPage 38 = .ok (.ireturn, 1) := by decide +kernel
theorem dX7_tellsPage_39 : decode cX7_tellsPage 39 = .ok (.aload_n 0, 1) := by decide +kernel
theorem dX7_tellsPage_40 : decode cX7_tellsPage 40 = .ok (.iconst 4, 1) := by decide +kernel
theorem dX7_tellsPage_41 : decode cX7_tellsPage 41 = .ok (.iload_n 1, 1) := by decide +kernel
theorem dX7_tellsPage_42 : decode cX7_tellsPage 42 = .ok (.imul, 1) := by decide +kernel
theorem dX7_tellsPage_43 : decode cX7_tellsPage 43 = .ok (.iconst 4, 1) := by decide +kernel
theorem dX7_tellsPage_44 : decode cX7_tellsPage 44 = .ok (.iload_n 1, 1) := by decide +kernel
theorem dX7_tellsPage_45 : decode cX7_tellsPage 45 = .ok (.imul, 1) := by decide +kernel
theorem dX7_tellsPage_46 : decode cX7_tellsPage 46 = .ok (.iconst 4, 1) := by decide +kernel
theorem dX7_tellsPage_47 : decode cX7_tellsPage 47 = .ok (.iadd, 1) := by decide +kernel
theorem dX7_tellsPage_48 : decode cX7_tellsPage 48 = .ok (.iload_n 2, 1) := by decide +kernel
theorem dX7_tellsPage_49 : decode cX7_tellsPage 49 = .ok (.iconst 2, 1) := by decide +kernel
theorem dX7_tellsPage_50 : decode cX7_tellsPage 50 = .ok (.if_icmp .ne 7, 3) := by decide +kernel
theorem dX7_tellsPage_53 : decode cX7_tellsPage 53 = .ok (.iconst 1, 1) := by decide +kernel
theorem dX7_tellsPage_54 : decode cX7_tellsPage 54 = .ok (.goto 4, 3) := by decide +kernel
theorem dX7_tellsPage_57 : decode cX7_tellsPage 57 = .ok (.iconst 0, 1) := by decide +kernel
theorem dX7_tellsPage_58 : decode cX7_tellsPage 58 = .ok (.aload_n 0, 1) := by decide +kernel
theorem dX7_tellsPage_59 : decode cX7_tellsPage 59 = .ok (.getfield 7, 3) := by decide +kernel
theorem dX7_tellsPage_62 : decode cX7_tellsPage 62 = .ok (.iconst 0, 1) := by decide +kernel
theorem dX7_tellsPage_63 : decode cX7_tellsPage 63 = .ok (.iaload, 1) := by decide +kernel
theorem dX7_tellsPage_64 : decode cX7_tellsPage 64 = .ok (.invokevirtual 163, 3) := by decide +kernel
theorem dX7_tellsPage_67 : decode cX7_tellsPage 67 = .ok (.ireturn, 1) := by decide +kernel
theorem dX7_tellsPage_68 : decode cX7_tellsPage 68 = .ok (.aload_n 0, 1) := by decide +kernel
theorem dX7_tellsPage_69 : decode cX7_tellsPage 69 = .ok (.iload_n 1, 1) := by decide +kernel
theorem dX7_tellsPage_70 : decode cX7_tellsPage 70 = .ok (.aload_n 0, 1) := by decide +kernel
theorem dX7_tellsPage_71 : decode cX7_tellsPage 71 = .ok (.invokevirtual 93, 3) := by decide +kernel
theorem dX7_tellsPage_74 : decode cX7_tellsPage 74 = .ok (.invokevirtual 96, 3) := by decide +kernel
theorem dX7_tellsPage_77 : decode cX7_tellsPage 77 = .ok (.ireturn, 1) := by decide +kernel
theorem dX7_tellsPage_78 : decode cX7_tellsPage 78 = .ok (.aload_n 0, 1) := by decide +kernel
theorem dX7_tellsPage_79 : decode cX7_tellsPage 79 = .ok (.iload_n 1, 1) := by decide +kernel
theorem dX7_tellsPage_80 : decode cX7_tellsPage 80 = .ok (.iconst 0, 1) := by decide +kernel
theorem dX7_tellsPage_81 : decode cX7_tellsPage 81 = .ok (.invokevirtual 105, 3) := by decide +kernel
theorem dX7_tellsPage_84 : decode cX7_tellsPage 84 = .ok (.iconst 1, 1) := by decide +kernel
theorem dX7_tellsPage_85 : decode cX7_tellsPage 85 = .ok (.if_icmp .ne 12, 3) := by decide +kernel
theorem dX7_tellsPage_88 : decode cX7_tellsPage 88 = .ok (.aload_n 0, 1) := by decide +kernel
theorem dX7_tellsPage_89 : decode cX7_tellsPage 89 = .ok (.iload_n 1, 1) := by decide +kernel
theorem dX7_tellsPage_90 : decode cX7_tellsPage 90 = .ok (.iconst 1, 1) := by decide +kernel
theorem dX7_tellsPage_91 : decode cX7_tellsPage 91 = .ok (.invokevirtual 105, 3) := by decide +kernel
theorem dX7_tellsPage_94 : decode cX7_tellsPage 94 = .ok (.goto 4, 3) := by decide +kernel
theorem dX7_tellsPage_97 : decode cX7_tellsPage 97 = .ok (.iconst (-1), 1) := by decide +kernel
theorem dX7_tellsPage_98 : decode cX7_tellsPage 98 = .ok (.ireturn, 1) := by decide +kernel
theorem dX7_page_0 : decode cX7_page 0 = .ok (.aload_n 0, 1) := by decide +kernel
theorem dX7_page_1 : decode cX7_page 1 = .ok (.iconst 0, 1) := by decide +kernel
theorem dX7_page_2 : decode cX7_page 2 = .ok (.putfield 22, 3) := by decide +kernel
theorem dX7_page_5 : decode cX7_page 5 = .ok (.iload_n 1, 1) := by decide +kernel
theorem dX7_page_6 : decode cX7_page 6 = .ok (.invokestatic 99, 3) := by decide +kernel
theorem dX7_page_9 : decode cX7_page 9 = .ok (.ifCond .ne 9, 3) := by decide +kernel
theorem dX7_page_12 : decode cX7_page 12 = .ok (.aload_n 0, 1) := by decide +kernel
theorem dX7_page_13 : decode cX7_page 13 = .ok (.iconst 1, 1) := by decide +kernel
theorem dX7_page_14 : decode cX7_page 14 = .ok (.invokevirtual 67, 3) := by decide +kernel
theorem dX7_page_17 : decode cX7_page 17 = .ok (.ireturn, 1) := by decide +kernel
theorem dX7_page_18 : decode cX7_page 18 = .ok (.iload_n 2, 1) := by decide +kernel
theorem dX7_page_19 : decode cX7_page 19 = .ok (.iconst 0, 1) := by decide +kernel
theorem dX7_page_20 : decode cX7_page 20 = .ok (.iconst 4, 1) := by decide +kernel
theorem dX7_page_21 : decode cX7_page 21 = .ok (.invokestatic 26, 3) := by decide +kernel
theorem dX7_page_24 : decode cX7_page 24 = .ok (.ifCond .eq 12, 3) := by decide +kernel
theorem dX7_page_27 : decode cX7_page 27 = .ok (.aload_n 0, 1) := by decide +kernel
theorem dX7_page_28 : decode cX7_page 28 = .ok (.iload_n 1, 1) := by decide +kernel
theorem dX7_page_29 : decode cX7_page 29 = .ok (.iload_n 2, 1) := by decide +kernel
theorem dX7_page_30 : decode cX7_page 30 = .ok (.invokevirtual 167, 3) := by decide +kernel
theorem dX7_page_33 : decode cX7_page 33 = .ok (.goto 8, 3) := by decide +kernel
theorem dX7_page_36 : decode cX7_page 36 = .ok (.aload_n 0, 1) := by decide +kernel
theorem dX7_page_37 : decode cX7_page 37 = .ok (.iconst 2, 1) := by decide +kernel
theorem dX7_page_38 : decode cX7_page 38 = .ok (.invokevirtual 67, 3) := by decide +kernel
theorem dX7_page_41 : decode cX7_page 41 = .ok (.ireturn, 1) := by decide +kernel
theorem dX7_tellsAsker_0 : decode cX7_tellsAsker 0 = .ok (.aload_n 0, 1) := by decide +kernel
theorem dX7_tellsAsker_1 : decode cX7_tellsAsker 1 = .ok (.iload_n 1, 1) := by decide +kernel
theorem dX7_tellsAsker_2 : decode cX7_tellsAsker 2 = .ok (.invokevirtual 81, 3) := by decide +kernel
theorem dX7_tellsAsker_5 : decode cX7_tellsAsker 5 = .ok (.istore_n 3, 1) := by decide +kernel
theorem dX7_tellsAsker_6 : decode cX7_tellsAsker 6 = .ok (.iload_n 2, 1) := by decide +kernel
theorem dX7_tellsAsker_7 : decode cX7_tellsAsker 7 = .ok (.lookupswitch 46 #[(0, 25), (1, 27)], 25) := by decide +kernel
theorem dX7_tellsAsker_32 : decode cX7_tellsAsker 32 = .ok (.iload_n 3, 1) := by decide +kernel
theorem dX7_tellsAsker_33 : decode cX7_tellsAsker 33 = .ok (.ireturn, 1) := by decide +kernel
theorem dX7_tellsAsker_34 : decode cX7_tellsAsker 34 = .ok (.iload_n 3, 1) := by decide +kernel
theorem dX7_tellsAsker_35 : decode cX7_tellsAsker 35 = .ok (.iconst (-1), 1) := by decide +kernel
theorem dX7_tellsAsker_36 : decode cX7_tellsAsker 36 = .ok (.if_icmp .ne 7, 3) := by decide +kernel
theorem dX7_tellsAsker_39 : decode cX7_tellsAsker 39 = .ok (.iconst (-1), 1) := by decide +kernel
theorem dX7_tellsAsker_40 : decode cX7_tellsAsker 40 = .ok (.goto 12, 3) := by decide +kernel
theorem dX7_tellsAsker_43 : decode cX7_tellsAsker 43 = .ok (.aload_n 0, 1) := by decide +kernel
theorem dX7_tellsAsker_44 : decode cX7_tellsAsker 44 = .ok (.iconst 0, 1) := by decide +kernel
theorem dX7_tellsAsker_45 : decode cX7_tellsAsker 45 = .ok (.bipush 24, 2) := by decide +kernel
theorem dX7_tellsAsker_47 : decode cX7_tellsAsker 47 = .ok (.iconst 1, 1) := by decide +kernel
theorem dX7_tellsAsker_48 : decode cX7_tellsAsker 48 = .ok (.iload_n 3, 1) := by decide +kernel
theorem dX7_tellsAsker_49 : decode cX7_tellsAsker 49 = .ok (.invokevirtual 163, 3) := by decide +kernel
theorem dX7_tellsAsker_52 : decode cX7_tellsAsker 52 = .ok (.ireturn, 1) := by decide +kernel
theorem dX7_tellsAsker_53 : decode cX7_tellsAsker 53 = .ok (.aload_n 0, 1) := by decide +kernel
theorem dX7_tellsAsker_54 : decode cX7_tellsAsker 54 = .ok (.getfield 7, 3) := by decide +kernel
theorem dX7_tellsAsker_57 : decode cX7_tellsAsker 57 = .ok (.bipush 91, 2) := by decide +kernel
theorem dX7_tellsAsker_59 : decode cX7_tellsAsker 59 = .ok (.iconst 2, 1) := by decide +kernel
theorem dX7_tellsAsker_60 : decode cX7_tellsAsker 60 = .ok (.iload_n 1, 1) := by decide +kernel
theorem dX7_tellsAsker_61 : decode cX7_tellsAsker 61 = .ok (.imul, 1) := by decide +kernel
theorem dX7_tellsAsker_62 : decode cX7_tellsAsker 62 = .ok (.iadd, 1) := by decide +kernel
theorem dX7_tellsAsker_63 : decode cX7_tellsAsker 63 = .ok (.iconst 1, 1) := by decide +kernel
theorem dX7_tellsAsker_64 : decode cX7_tellsAsker 64 = .ok (.iadd, 1) := by decide +kernel
theorem dX7_tellsAsker_65 : decode cX7_tellsAsker 65 = .ok (.iaload, 1) := by decide +kernel
theorem dX7_tellsAsker_66 : decode cX7_tellsAsker 66 = .ok (.ireturn, 1) := by decide +kernel
theorem dX7_asker_0 : decode cX7_asker 0 = .ok (.aload_n 0, 1) := by decide +kernel
theorem dX7_asker_1 : decode cX7_asker 1 = .ok (.iconst 0, 1) := by decide +kernel
theorem dX7_asker_2 : decode cX7_asker 2 = .ok (.putfield 22, 3) := by decide +kernel
theorem dX7_asker_5 : decode cX7_asker 5 = .ok (.iload_n 1, 1) := by decide +kernel
theorem dX7_asker_6 : decode cX7_asker 6 = .ok (.invokestatic 87, 3) := by decide +kernel
theorem dX7_asker_9 : decode cX7_asker 9 = .ok (.ifCond .ne 9, 3) := by decide +kernel
theorem dX7_asker_12 : decode cX7_asker 12 = .ok (.aload_n 0, 1) := by decide +kernel
theorem dX7_asker_13 : decode cX7_asker 13 = .ok (.iconst 1, 1) := by decide +kernel
theorem dX7_asker_14 : decode cX7_asker 14 = .ok (.invokevirtual 67, 3) := by decide +kernel
theorem dX7_asker_17 : decode cX7_asker 17 = .ok (.ireturn, 1) := by decide +kernel
theorem dX7_asker_18 : decode cX7_asker 18 = .ok (.iload_n 2, 1) := by decide +kernel
theorem dX7_asker_19 : decode cX7_asker 19 = .ok (.iconst 0, 1) := by decide +kernel
theorem dX7_asker_20 : decode cX7_asker 20 = .ok (.iconst 2, 1) := by decide +kernel
theorem dX7_asker_21 : decode cX7_asker 21 = .ok (.invokestatic 26, 3) := by decide +kernel
theorem dX7_asker_24 : decode cX7_asker 24 = .ok (.ifCond .eq 12, 3) := by decide +kernel
theorem dX7_asker_27 : decode cX7_asker 27 = .ok (.aload_n 0, 1) := by decide +kernel
theorem dX7_asker_28 : decode cX7_asker 28 = .ok (.iload_n 1, 1) := by decide +kernel
theorem dX7_asker_29 : decode cX7_asker 29 = .ok (.iload_n 2, 1) := by decide +kernel
theorem dX7_asker_30 : decode cX7_asker 30 = .ok (.invokevirtual 170, 3) := by decide +kernel
theorem dX7_asker_33 : decode cX7_asker 33 = .ok (.goto 8, 3) := by decide +kernel
theorem dX7_asker_36 : decode cX7_asker 36 = .ok (.aload_n 0, 1) := by decide +kernel
theorem dX7_asker_37 : decode cX7_asker 37 = .ok (.iconst 2, 1) := by decide +kernel
theorem dX7_asker_38 : decode cX7_asker 38 = .ok (.invokevirtual 67, 3) := by decide +kernel
theorem dX7_asker_41 : decode cX7_asker 41 = .ok (.ireturn, 1) := by decide +kernel
theorem dX7_tellsCount_0 : decode cX7_tellsCount 0 = .ok (.iload_n 1, 1) := by decide +kernel
theorem dX7_tellsCount_1 : decode cX7_tellsCount 1 = .ok (.tableswitch 126 0 12 #[67, 74, 79, 79, 103, 116, 126, 126, 126, 126, 126, 126, 121], 67) := by decide +kernel
theorem dX7_tellsCount_68 : decode cX7_tellsCount 68 = .ok (.aload_n 0, 1) := by decide +kernel
theorem dX7_tellsCount_69 : decode cX7_tellsCount 69 = .ok (.getfield 7, 3) := by decide +kernel
theorem dX7_tellsCount_72 : decode cX7_tellsCount 72 = .ok (.iconst 0, 1) := by decide +kernel
theorem dX7_tellsCount_73 : decode cX7_tellsCount 73 = .ok (.iaload, 1) := by decide +kernel
theorem dX7_tellsCount_74 : decode cX7_tellsCount 74 = .ok (.ireturn, 1) := by decide +kernel
theorem dX7_tellsCount_75 : decode cX7_tellsCount 75 = .ok (.aload_n 0, 1) := by decide +kernel
theorem dX7_tellsCount_76 : decode cX7_tellsCount 76 = .ok (.invokevirtual 93, 3) := by decide +kernel
theorem dX7_tellsCount_79 : decode cX7_tellsCount 79 = .ok (.ireturn, 1) := by decide +kernel
theorem dX7_tellsCount_80 : decode cX7_tellsCount 80 = .ok (.aload_n 0, 1) := by decide +kernel
theorem dX7_tellsCount_81 : decode cX7_tellsCount 81 = .ok (.iconst 0, 1) := by decide +kernel
theorem dX7_tellsCount_82 : decode cX7_tellsCount 82 = .ok (.bipush 24, 2) := by decide +kernel
theorem dX7_tellsCount_84 : decode cX7_tellsCount 84 = .ok (.iload_n 1, 1) := by decide +kernel
theorem dX7_tellsCount_85 : decode cX7_tellsCount 85 = .ok (.iconst 3, 1) := by decide +kernel
theorem dX7_tellsCount_86 : decode cX7_tellsCount 86 = .ok (.if_icmp .ne 7, 3) := by decide +kernel
theorem dX7_tellsCount_89 : decode cX7_tellsCount 89 = .ok (.iconst 1, 1) := by decide +kernel
theorem dX7_tellsCount_90 : decode cX7_tellsCount 90 = .ok (.goto 4, 3) := by decide +kernel
theorem dX7_tellsCount_93 : decode cX7_tellsCount 93 = .ok (.iconst 0, 1) := by decide +kernel
theorem dX7_tellsCount_94 : decode cX7_tellsCount 94 = .ok (.aload_n 0, 1) := by decide +kernel
theorem dX7_tellsCount_95 : decode cX7_tellsCount 95 = .ok (.getfield 7, 3) := by decide +kernel
theorem dX7_tellsCount_98 : decode cX7_tellsCount 98 = .ok (.iconst 0, 1) := by decide +kernel
theorem dX7_tellsCount_99 : decode cX7_tellsCount 99 = .ok (.iaload, 1) := by decide +kernel
theorem dX7_tellsCount_100 : decode cX7_tellsCount 100 = .ok (.invokevirtual 163, 3) := by decide +kernel
theorem dX7_tellsCount_103 : decode cX7_tellsCount 103 = .ok (.ireturn, 1) := by decide +kernel
theorem dX7_tellsCount_104 : decode cX7_tellsCount 104 = .ok (.bipush 24, 2) := by decide +kernel
theorem dX7_tellsCount_106 : decode cX7_tellsCount 106 = .ok (.aload_n 0, 1) := by decide +kernel
theorem dX7_tellsCount_107 : decode cX7_tellsCount 107 = .ok (.iconst 0, 1) := by decide +kernel
theorem dX7_tellsCount_108 : decode cX7_tellsCount 108 = .ok (.bipush 24, 2) := by decide +kernel
theorem dX7_tellsCount_110 : decode cX7_tellsCount 110 = .ok (.iconst 0, 1) := by decide +kernel
theorem dX7_tellsCount_111 : decode cX7_tellsCount 111 = .ok (.iconst 0, 1) := by decide +kernel
theorem dX7_tellsCount_112 : decode cX7_tellsCount 112 = .ok (.invokevirtual 163, 3) := by decide +kernel
theorem dX7_tellsCount_115 : decode cX7_tellsCount 115 = .ok (.isub, 1) := by decide +kernel
theorem dX7_tellsCount_116 : decode cX7_tellsCount 116 = .ok (.ireturn, 1) := by decide +kernel
theorem dX7_tellsCount_117 : decode cX7_tellsCount 117 = .ok (.aload_n 0, 1) := by decide +kernel
theorem dX7_tellsCount_118 : decode cX7_tellsCount 118 = .ok (.invokevirtual 108, 3) := by decide +kernel
theorem dX7_tellsCount_121 : decode cX7_tellsCount 121 = .ok (.ireturn, 1) := by decide +kernel
theorem dX7_tellsCount_122 : decode cX7_tellsCount 122 = .ok (.aload_n 0, 1) := by decide +kernel
theorem dX7_tellsCount_123 : decode cX7_tellsCount 123 = .ok (.getfield 30, 3) := by decide +kernel
theorem dX7_tellsCount_126 : decode cX7_tellsCount 126 = .ok (.ireturn, 1) := by decide +kernel
theorem dX7_tellsCount_127 : decode cX7_tellsCount 127 = .ok (.aload_n 0, 1) := by decide +kernel
theorem dX7_tellsCount_128 : decode cX7_tellsCount 128 = .ok (.getfield 7, 3) := by decide +kernel
theorem dX7_tellsCount_131 : decode cX7_tellsCount 131 = .ok (.iconst 1, 1) := by decide +kernel
theorem dX7_tellsCount_132 : decode cX7_tellsCount 132 = .ok (.iload_n 1, 1) := by decide +kernel
theorem dX7_tellsCount_133 : decode cX7_tellsCount 133 = .ok (.iadd, 1) := by decide +kernel
theorem dX7_tellsCount_134 : decode cX7_tellsCount 134 = .ok (.bipush 6, 2) := by decide +kernel
theorem dX7_tellsCount_136 : decode cX7_tellsCount 136 = .ok (.isub, 1) := by decide +kernel
theorem dX7_tellsCount_137 : decode cX7_tellsCount 137 = .ok (.iaload, 1) := by decide +kernel
theorem dX7_tellsCount_138 : decode cX7_tellsCount 138 = .ok (.ireturn, 1) := by decide +kernel
theorem dX7_count_0 : decode cX7_count 0 = .ok (.aload_n 0, 1) := by decide +kernel
theorem dX7_count_1 : decode cX7_count 1 = .ok (.iconst 0, 1) := by decide +kernel
theorem dX7_count_2 : decode cX7_count 2 = .ok (.putfield 22, 3) := by decide +kernel
theorem dX7_count_5 : decode cX7_count 5 = .ok (.iload_n 1, 1) := by decide +kernel
theorem dX7_count_6 : decode cX7_count 6 = .ok (.iconst 0, 1) := by decide +kernel
theorem dX7_count_7 : decode cX7_count 7 = .ok (.bipush 12, 2) := by decide +kernel
theorem dX7_count_9 : decode cX7_count 9 = .ok (.invokestatic 26, 3) := by decide +kernel
theorem dX7_count_12 : decode cX7_count 12 = .ok (.ifCond .eq 11, 3) := by decide +kernel
theorem dX7_count_15 : decode cX7_count 15 = .ok (.aload_n 0, 1) := by decide +kernel
theorem dX7_count_16 : decode cX7_count 16 = .ok (.iload_n 1, 1) := by decide +kernel
theorem dX7_count_17 : decode cX7_count 17 = .ok (.invokevirtual 173, 3) := by decide +kernel
theorem dX7_count_20 : decode cX7_count 20 = .ok (.goto 8, 3) := by decide +kernel
theorem dX7_count_23 : decode cX7_count 23 = .ok (.aload_n 0, 1) := by decide +kernel
theorem dX7_count_24 : decode cX7_count 24 = .ok (.iconst 1, 1) := by decide +kernel
theorem dX7_count_25 : decode cX7_count 25 = .ok (.invokevirtual 67, 3) := by decide +kernel
theorem dX7_count_28 : decode cX7_count 28 = .ok (.ireturn, 1) := by decide +kernel
theorem dX7_ifAsked_0 : decode cX7_ifAsked 0 = .ok (.aload_n 0, 1) := by decide +kernel
theorem dX7_ifAsked_1 : decode cX7_ifAsked 1 = .ok (.iconst 0, 1) := by decide +kernel
theorem dX7_ifAsked_2 : decode cX7_ifAsked 2 = .ok (.putfield 22, 3) := by decide +kernel
theorem dX7_ifAsked_5 : decode cX7_ifAsked 5 = .ok (.iload_n 1, 1) := by decide +kernel
theorem dX7_ifAsked_6 : decode cX7_ifAsked 6 = .ok (.iconst 0, 1) := by decide +kernel
theorem dX7_ifAsked_7 : decode cX7_ifAsked 7 = .ok (.aload_n 0, 1) := by decide +kernel
theorem dX7_ifAsked_8 : decode cX7_ifAsked 8 = .ok (.getfield 7, 3) := by decide +kernel
theorem dX7_ifAsked_11 : decode cX7_ifAsked 11 = .ok (.iconst 0, 1) := by decide +kernel
theorem dX7_ifAsked_12 : decode cX7_ifAsked 12 = .ok (.iaload, 1) := by decide +kernel
theorem dX7_ifAsked_13 : decode cX7_ifAsked 13 = .ok (.invokestatic 26, 3) := by decide +kernel
theorem dX7_ifAsked_16 : decode cX7_ifAsked 16 = .ok (.ifCond .eq 36, 3) := by decide +kernel
theorem dX7_ifAsked_19 : decode cX7_ifAsked 19 = .ok (.iload_n 2, 1) := by decide +kernel
theorem dX7_ifAsked_20 : decode cX7_ifAsked 20 = .ok (.iconst 0, 1) := by decide +kernel
theorem dX7_ifAsked_21 : decode cX7_ifAsked 21 = .ok (.bipush 9, 2) := by decide +kernel
theorem dX7_ifAsked_23 : decode cX7_ifAsked 23 = .ok (.invokestatic 26, 3) := by decide +kernel
theorem dX7_ifAsked_26 : decode cX7_ifAsked 26 = .ok (.ifCond .eq 26, 3) := by decide +kernel
theorem dX7_ifAsked_29 : decode cX7_ifAsked 29 = .ok (.iload_n 3, 1) := by decide +kernel
theorem dX7_ifAsked_30 : decode cX7_ifAsked 30 = .ok (.iconst 0, 1) := by decide +kernel
theorem dX7_ifAsked_31 : decode cX7_ifAsked 31 = .ok (.iconst 2, 1) := by decide +kernel
theorem dX7_ifAsked_32 : decode cX7_ifAsked 32 = .ok (.invokestatic 26, 3) := by decide +kernel
theorem dX7_ifAsked_35 : decode cX7_ifAsked 35 = .ok (.ifCond .eq 17, 3) := by decide +kernel
theorem dX7_ifAsked_38 : decode cX7_ifAsked 38 = .ok (.iload 4, 2) := by decide +kernel
theorem dX7_ifAsked_40 : decode cX7_ifAsked 40 = .ok (.iconst 0, 1) := by decide +kernel
theorem dX7_ifAsked_41 : decode cX7_ifAsked 41 = .ok (.iconst 1, 1) := by decide +kernel
theorem dX7_ifAsked_42 : decode cX7_ifAsked 42 = .ok (.invokestatic 26, 3) := by decide +kernel
theorem dX7_ifAsked_45 : decode cX7_ifAsked 45 = .ok (.ifCond .eq 7, 3) := by decide +kernel
theorem dX7_ifAsked_48 : decode cX7_ifAsked 48 = .ok (.iconst 1, 1) := by decide +kernel
theorem dX7_ifAsked_49 : decode cX7_ifAsked 49 = .ok (.goto 4, 3) := by decide +kernel
theorem dX7_ifAsked_52 : decode cX7_ifAsked 52 = .ok (.iconst 0, 1) := by decide +kernel
theorem dX7_ifAsked_53 : decode cX7_ifAsked 53 = .ok (.istore 5, 2) := by decide +kernel
theorem dX7_ifAsked_55 : decode cX7_ifAsked 55 = .ok (.iload 5, 2) := by decide +kernel
theorem dX7_ifAsked_57 : decode cX7_ifAsked 57 = .ok (.ifCond .ne 9, 3) := by decide +kernel
theorem dX7_ifAsked_60 : decode cX7_ifAsked 60 = .ok (.aload_n 0, 1) := by decide +kernel
theorem dX7_ifAsked_61 : decode cX7_ifAsked 61 = .ok (.iconst 1, 1) := by decide +kernel
theorem dX7_ifAsked_62 : decode cX7_ifAsked 62 = .ok (.invokevirtual 67, 3) := by decide +kernel
theorem dX7_ifAsked_65 : decode cX7_ifAsked 65 = .ok (.ireturn, 1) := by decide +kernel
theorem dX7_ifAsked_66 : decode cX7_ifAsked 66 = .ok (.iload 4, 2) := by decide +kernel
theorem dX7_ifAsked_68 : decode cX7_ifAsked 68 = .ok (.ifCond .ne 13, 3) := by decide +kernel
theorem dX7_ifAsked_71 : decode cX7_ifAsked 71 = .ok (.aload_n 0, 1) := by decide +kernel
theorem dX7_ifAsked_72 : decode cX7_ifAsked 72 = .ok (.iload_n 1, 1) := by decide +kernel
theorem dX7_ifAsked_73 : decode cX7_ifAsked 73 = .ok (.iload_n 2, 1) := by decide +kernel
theorem dX7_ifAsked_74 : decode cX7_ifAsked 74 = .ok (.iload_n 3, 1) := by decide +kernel
theorem dX7_ifAsked_75 : decode cX7_ifAsked 75 = .ok (.invokevirtual 126, 3) := by decide +kernel
theorem dX7_ifAsked_78 : decode cX7_ifAsked 78 = .ok (.goto 10, 3) := by decide +kernel
theorem dX7_ifAsked_81 : decode cX7_ifAsked 81 = .ok (.aload_n 0, 1) := by decide +kernel
theorem dX7_ifAsked_82 : decode cX7_ifAsked 82 = .ok (.iload_n 1, 1) := by decide +kernel
theorem dX7_ifAsked_83 : decode cX7_ifAsked 83 = .ok (.iload_n 2, 1) := by decide +kernel
theorem dX7_ifAsked_84 : decode cX7_ifAsked 84 = .ok (.iload_n 3, 1) := by decide +kernel
theorem dX7_ifAsked_85 : decode cX7_ifAsked 85 = .ok (.invokevirtual 123, 3) := by decide +kernel
theorem dX7_ifAsked_88 : decode cX7_ifAsked 88 = .ok (.ireturn, 1) := by decide +kernel
theorem dX7_tellsLies_0 : decode cX7_tellsLies 0 = .ok (.iconst 0, 1) := by decide +kernel
theorem dX7_tellsLies_1 : decode cX7_tellsLies 1 = .ok (.istore_n 2, 1) := by decide +kernel
theorem dX7_tellsLies_2 : decode cX7_tellsLies 2 = .ok (.iconst 0, 1) := by decide +kernel
theorem dX7_tellsLies_3 : decode cX7_tellsLies 3 = .ok (.istore_n 3, 1) := by decide +kernel
theorem dX7_tellsLies_4 : decode cX7_tellsLies 4 = .ok (.iload_n 3, 1) := by decide +kernel
theorem dX7_tellsLies_5 : decode cX7_tellsLies 5 = .ok (.bipush 24, 2) := by decide +kernel
theorem dX7_tellsLies_7 : decode cX7_tellsLies 7 = .ok (.if_icmp .ge 40, 3) := by decide +kernel
theorem dX7_tellsLies_10 : decode cX7_tellsLies 10 = .ok (.iload_n 2, 1) := by decide +kernel
theorem dX7_tellsLies_11 : decode cX7_tellsLies 11 = .ok (.aload_n 0, 1) := by decide +kernel
theorem dX7_tellsLies_12 : decode cX7_tellsLies 12 = .ok (.iload_n 3, 1) := by decide +kernel
theorem dX7_tellsLies_13 : decode cX7_tellsLies 13 = .ok (.iload_n 1, 1) := by decide +kernel
theorem dX7_tellsLies_14 : decode cX7_tellsLies 14 = .ok (.invokevirtual 117, 3) := by decide +kernel
theorem dX7_tellsLies_17 : decode cX7_tellsLies 17 = .ok (.ifCond .eq 21, 3) := by decide +kernel
theorem dX7_tellsLies_20 : decode cX7_tellsLies 20 = .ok (.aload_n 0, 1) := by decide +kernel
theorem dX7_tellsLies_21 : decode cX7_tellsLies 21 = .ok (.iload_n 3, 1) := by decide +kernel
theorem dX7_tellsLies_22 : decode cX7_tellsLies 22 = .ok (.aload_n 0, 1) := by decide +kernel
theorem dX7_tellsLies_23 : decode cX7_tellsLies 23 = .ok (.getfield 7, 3) := by decide +kernel
theorem dX7_tellsLies_26 : decode cX7_tellsLies 26 = .ok (.iconst 0, 1) := by decide +kernel
theorem dX7_tellsLies_27 : decode cX7_tellsLies 27 = .ok (.iaload, 1) := by decide +kernel
theorem dX7_tellsLies_28 : decode cX7_tellsLies 28 = .ok (.invokevirtual 63, 3) := by decide +kernel
theorem dX7_tellsLies_31 : decode cX7_tellsLies 31 = .ok (.ifCond .ne 7, 3) := by decide +kernel
theorem dX7_tellsLies_34 : decode cX7_tellsLies 34 = .ok (.iconst 1, 1) := by decide +kernel
theorem dX7_tellsLies_35 : decode cX7_tellsLies 35 = .ok (.goto 4, 3) := by decide +kernel
theorem dX7_tellsLies_38 : decode cX7_tellsLies 38 = .ok (.iconst 0, 1) := by decide +kernel
theorem dX7_tellsLies_39 : decode cX7_tellsLies 39 = .ok (.iadd, 1) := by decide +kernel
theorem dX7_tellsLies_40 : decode cX7_tellsLies 40 = .ok (.istore_n 2, 1) := by decide +kernel
theorem dX7_tellsLies_41 : decode cX7_tellsLies 41 = .ok (.iinc 3 1, 3) := by decide +kernel
theorem dX7_tellsLies_44 : decode cX7_tellsLies 44 = .ok (.goto (-40), 3) := by decide +kernel
theorem dX7_tellsLies_47 : decode cX7_tellsLies 47 = .ok (.iload_n 2, 1) := by decide +kernel
theorem dX7_tellsLies_48 : decode cX7_tellsLies 48 = .ok (.ireturn, 1) := by decide +kernel
theorem dX7_lies_0 : decode cX7_lies 0 = .ok (.aload_n 0, 1) := by decide +kernel
theorem dX7_lies_1 : decode cX7_lies 1 = .ok (.iconst 0, 1) := by decide +kernel
theorem dX7_lies_2 : decode cX7_lies 2 = .ok (.putfield 22, 3) := by decide +kernel
theorem dX7_lies_5 : decode cX7_lies 5 = .ok (.iload_n 1, 1) := by decide +kernel
theorem dX7_lies_6 : decode cX7_lies 6 = .ok (.iconst 0, 1) := by decide +kernel
theorem dX7_lies_7 : decode cX7_lies 7 = .ok (.bipush 9, 2) := by decide +kernel
theorem dX7_lies_9 : decode cX7_lies 9 = .ok (.invokestatic 26, 3) := by decide +kernel
theorem dX7_lies_12 : decode cX7_lies 12 = .ok (.ifCond .eq 11, 3) := by decide +kernel
theorem dX7_lies_15 : decode cX7_lies 15 = .ok (.aload_n 0, 1) := by decide +kernel
theorem dX7_lies_16 : decode cX7_lies 16 = .ok (.iload_n 1, 1) := by decide +kernel
theorem dX7_lies_17 : decode cX7_lies 17 = .ok (.invokevirtual 176, 3) := by decide +kernel
theorem dX7_lies_20 : decode cX7_lies 20 = .ok (.goto 8, 3) := by decide +kernel
theorem dX7_lies_23 : decode cX7_lies 23 = .ok (.aload_n 0, 1) := by decide +kernel
theorem dX7_lies_24 : decode cX7_lies 24 = .ok (.iconst 1, 1) := by decide +kernel
theorem dX7_lies_25 : decode cX7_lies 25 = .ok (.invokevirtual 67, 3) := by decide +kernel
theorem dX7_lies_28 : decode cX7_lies 28 = .ok (.ireturn, 1) := by decide +kernel
theorem dX7_cheapestWay_0 : decode cX7_cheapestWay 0 = .ok (.iconst 0, 1) := by decide +kernel
theorem dX7_cheapestWay_1 : decode cX7_cheapestWay 1 = .ok (.istore_n 2, 1) := by decide +kernel
theorem dX7_cheapestWay_2 : decode cX7_cheapestWay 2 = .ok (.iconst 1, 1) := by decide +kernel
theorem dX7_cheapestWay_3 : decode cX7_cheapestWay 3 = .ok (.istore_n 3, 1) := by decide +kernel
theorem dX7_cheapestWay_4 : decode cX7_cheapestWay 4 = .ok (.iload_n 3, 1) := by decide +kernel
theorem dX7_cheapestWay_5 : decode cX7_cheapestWay 5 = .ok (.iconst 3, 1) := by decide +kernel
theorem dX7_cheapestWay_6 : decode cX7_cheapestWay 6 = .ok (.if_icmp .ge 42, 3) := by decide +kernel
theorem dX7_cheapestWay_9 : decode cX7_cheapestWay 9 = .ok (.aload_n 0, 1) := by decide +kernel
theorem dX7_cheapestWay_10 : decode cX7_cheapestWay 10 = .ok (.aload_n 0, 1) := by decide +kernel
theorem dX7_cheapestWay_11 : decode cX7_cheapestWay 11 = .ok (.getfield 7, 3) := by decide +kernel
theorem dX7_cheapestWay_14 : decode cX7_cheapestWay 14 = .ok (.iconst 0, 1) := by decide +kernel
theorem dX7_cheapestWay_15 : decode cX7_cheapestWay 15 = .ok (.iaload, 1) := by decide +kernel
theorem dX7_cheapestWay_16 : decode cX7_cheapestWay 16 = .ok (.iload_n 1, 1) := by decide +kernel
theorem dX7_cheapestWay_17 : decode cX7_cheapestWay 17 = .ok (.iload_n 3, 1) := by decide +kernel
theorem dX7_cheapestWay_18 : decode cX7_cheapestWay 18 = .ok (.invokevirtual 123, 3) := by decide +kernel
theorem dX7_cheapestWay_21 : decode cX7_cheapestWay 21 = .ok (.aload_n 0, 1) := by decide +kernel
theorem dX7_cheapestWay_22 : decode cX7_cheapestWay 22 = .ok (.aload_n 0, 1) := by decide +kernel
theorem dX7_cheapestWay_23 : decode cX7_cheapestWay 23 = .ok (.getfield 7, 3) := by decide +kernel
theorem dX7_cheapestWay_26 : decode cX7_cheapestWay 26 = .ok (.iconst 0, 1) := by decide +kernel
theorem dX7_cheapestWay_27 : decode cX7_cheapestWay 27 = .ok (.iaload, 1) := by decide +kernel
theorem dX7_cheapestWay_28 : decode cX7_cheapestWay 28 = .ok (.iload_n 1, 1) := by decide +kernel
theorem dX7_cheapestWay_29 : decode cX7_cheapestWay 29 = .ok (.iload_n 2, 1) := by decide +kernel
theorem dX7_cheapestWay_30 : decode cX7_cheapestWay 30 = .ok (.invokevirtual 123, 3) := by decide +kernel
theorem dX7_cheapestWay_33 : decode cX7_cheapestWay 33 = .ok (.if_icmp .gt 7, 3) := by decide +kernel
theorem dX7_cheapestWay_36 : decode cX7_cheapestWay 36 = .ok (.iload_n 3, 1) := by decide +kernel
theorem dX7_cheapestWay_37 : decode cX7_cheapestWay 37 = .ok (.goto 4, 3) := by decide +kernel
theorem dX7_cheapestWay_40 : decode cX7_cheapestWay 40 = .ok (.iload_n 2, 1) := by decide +kernel
theorem dX7_cheapestWay_41 : decode cX7_cheapestWay 41 = .ok (.istore_n 2, 1) := by decide +kernel
theorem dX7_cheapestWay_42 : decode cX7_cheapestWay 42 = .ok (.iinc 3 1, 3) := by decide +kernel
theorem dX7_cheapestWay_45 : decode cX7_cheapestWay 45 = .ok (.goto (-41), 3) := by decide +kernel
theorem dX7_cheapestWay_48 : decode cX7_cheapestWay 48 = .ok (.iload_n 2, 1) := by decide +kernel
theorem dX7_cheapestWay_49 : decode cX7_cheapestWay 49 = .ok (.ireturn, 1) := by decide +kernel
theorem dX7_cheapest_0 : decode cX7_cheapest 0 = .ok (.aload_n 0, 1) := by decide +kernel
theorem dX7_cheapest_1 : decode cX7_cheapest 1 = .ok (.iconst 0, 1) := by decide +kernel
theorem dX7_cheapest_2 : decode cX7_cheapest 2 = .ok (.putfield 22, 3) := by decide +kernel
theorem dX7_cheapest_5 : decode cX7_cheapest 5 = .ok (.iload_n 1, 1) := by decide +kernel
theorem dX7_cheapest_6 : decode cX7_cheapest 6 = .ok (.iconst 0, 1) := by decide +kernel
theorem dX7_cheapest_7 : decode cX7_cheapest 7 = .ok (.bipush 9, 2) := by decide +kernel
theorem dX7_cheapest_9 : decode cX7_cheapest 9 = .ok (.invokestatic 26, 3) := by decide +kernel
theorem dX7_cheapest_12 : decode cX7_cheapest 12 = .ok (.ifCond .eq 11, 3) := by decide +kernel
theorem dX7_cheapest_15 : decode cX7_cheapest 15 = .ok (.aload_n 0, 1) := by decide +kernel
theorem dX7_cheapest_16 : decode cX7_cheapest 16 = .ok (.iload_n 1, 1) := by decide +kernel
theorem dX7_cheapest_17 : decode cX7_cheapest 17 = .ok (.invokevirtual 179, 3) := by decide +kernel
theorem dX7_cheapest_20 : decode cX7_cheapest 20 = .ok (.goto 8, 3) := by decide +kernel
theorem dX7_cheapest_23 : decode cX7_cheapest 23 = .ok (.aload_n 0, 1) := by decide +kernel
theorem dX7_cheapest_24 : decode cX7_cheapest 24 = .ok (.iconst 1, 1) := by decide +kernel
theorem dX7_cheapest_25 : decode cX7_cheapest 25 = .ok (.invokevirtual 67, 3) := by decide +kernel
theorem dX7_cheapest_28 : decode cX7_cheapest 28 = .ok (.ireturn, 1) := by decide +kernel
theorem dX7_oldOnes_0 : decode cX7_oldOnes 0 = .ok (.iconst 0, 1) := by decide +kernel
theorem dX7_oldOnes_1 : decode cX7_oldOnes 1 = .ok (.istore_n 2, 1) := by decide +kernel
theorem dX7_oldOnes_2 : decode cX7_oldOnes 2 = .ok (.iconst 0, 1) := by decide +kernel
theorem dX7_oldOnes_3 : decode cX7_oldOnes 3 = .ok (.istore_n 3, 1) := by decide +kernel
theorem dX7_oldOnes_4 : decode cX7_oldOnes 4 = .ok (.iload_n 3, 1) := by decide +kernel
theorem dX7_oldOnes_5 : decode cX7_oldOnes 5 = .ok (.bipush 6, 2) := by decide +kernel
theorem dX7_oldOnes_7 : decode cX7_oldOnes 7 = .ok (.if_icmp .ge 18, 3) := by decide +kernel
theorem dX7_oldOnes_10 : decode cX7_oldOnes 10 = .ok (.iload_n 2, 1) := by decide +kernel
theorem dX7_oldOnes_11 : decode cX7_oldOnes 11 = .ok (.aload_n 0, 1) := by decide +kernel
theorem dX7_oldOnes_12 : decode cX7_oldOnes 12 = .ok (.iload_n 3, 1) := by decide +kernel
theorem dX7_oldOnes_13 : decode cX7_oldOnes 13 = .ok (.iload_n 1, 1) := by decide +kernel
theorem dX7_oldOnes_14 : decode cX7_oldOnes 14 = .ok (.invokevirtual 96, 3) := by decide +kernel
theorem dX7_oldOnes_17 : decode cX7_oldOnes 17 = .ok (.iadd, 1) := by decide +kernel
theorem dX7_oldOnes_18 : decode cX7_oldOnes 18 = .ok (.istore_n 2, 1) := by decide +kernel
theorem dX7_oldOnes_19 : decode cX7_oldOnes 19 = .ok (.iinc 3 1, 3) := by decide +kernel
theorem dX7_oldOnes_22 : decode cX7_oldOnes 22 = .ok (.goto (-18), 3) := by decide +kernel
theorem dX7_oldOnes_25 : decode cX7_oldOnes 25 = .ok (.iload_n 2, 1) := by decide +kernel
theorem dX7_oldOnes_26 : decode cX7_oldOnes 26 = .ok (.ireturn, 1) := by decide +kernel
theorem dX7_holderNow_0 : decode cX7_holderNow 0 = .ok (.iconst (-1), 1) := by decide +kernel
theorem dX7_holderNow_1 : decode cX7_holderNow 1 = .ok (.istore_n 1, 1) := by decide +kernel
theorem dX7_holderNow_2 : decode cX7_holderNow 2 = .ok (.aload_n 0, 1) := by decide +kernel
theorem dX7_holderNow_3 : decode cX7_holderNow 3 = .ok (.aload_n 0, 1) := by decide +kernel
theorem dX7_holderNow_4 : decode cX7_holderNow 4 = .ok (.invokevirtual 93, 3) := by decide +kernel
theorem dX7_holderNow_7 : decode cX7_holderNow 7 = .ok (.invokevirtual 182, 3) := by decide +kernel
theorem dX7_holderNow_10 : decode cX7_holderNow 10 = .ok (.istore_n 2, 1) := by decide +kernel
theorem dX7_holderNow_11 : decode cX7_holderNow 11 = .ok (.iconst 0, 1) := by decide +kernel
theorem dX7_holderNow_12 : decode cX7_holderNow 12 = .ok (.istore_n 3, 1) := by decide +kernel
theorem dX7_holderNow_13 : decode cX7_holderNow 13 = .ok (.iload_n 3, 1) := by decide +kernel
theorem dX7_holderNow_14 : decode cX7_holderNow 14 = .ok (.iconst 4, 1) := by decide +kernel
theorem dX7_holderNow_15 : decode cX7_holderNow 15 = .ok (.if_icmp .ge 58, 3) := by decide +kernel
theorem dX7_holderNow_18 : decode cX7_holderNow 18 = .ok (.aload_n 0, 1) := by decide +kernel
theorem dX7_holderNow_19 : decode cX7_holderNow 19 = .ok (.iload_n 3, 1) := by decide +kernel
theorem dX7_holderNow_20 : decode cX7_holderNow 20 = .ok (.invokevirtual 81, 3) := by decide +kernel
theorem dX7_holderNow_23 : decode cX7_holderNow 23 = .ok (.iconst (-1), 1) := by decide +kernel
theorem dX7_holderNow_24 : decode cX7_holderNow 24 = .ok (.if_icmp .ne 7, 3) := by decide +kernel
theorem dX7_holderNow_27 : decode cX7_holderNow 27 = .ok (.iconst 0, 1) := by decide +kernel
theorem dX7_holderNow_28 : decode cX7_holderNow 28 = .ok (.goto 12, 3) := by decide +kernel
theorem dX7_holderNow_31 : decode cX7_holderNow 31 = .ok (.aload_n 0, 1) := by decide +kernel
theorem dX7_holderNow_32 : decode cX7_holderNow 32 = .ok (.aload_n 0, 1) := by decide +kernel
theorem dX7_holderNow_33 : decode cX7_holderNow 33 = .ok (.iload_n 3, 1) := by decide +kernel
theorem dX7_holderNow_34 : decode cX7_holderNow 34 = .ok (.invokevirtual 84, 3) := by decide +kernel
theorem dX7_holderNow_37 : decode cX7_holderNow 37 = .ok (.invokevirtual 182, 3) := by decide +kernel
theorem dX7_holderNow_40 : decode cX7_holderNow 40 = .ok (.istore 4, 2) := by decide +kernel
theorem dX7_holderNow_42 : decode cX7_holderNow 42 = .ok (.iload 4, 2) := by decide +kernel
theorem dX7_holderNow_44 : decode cX7_holderNow 44 = .ok (.iload_n 2, 1) := by decide +kernel
theorem dX7_holderNow_45 : decode cX7_holderNow 45 = .ok (.if_icmp .le 7, 3) := by decide +kernel
theorem dX7_holderNow_48 : decode cX7_holderNow 48 = .ok (.iload_n 3, 1) := by decide +kernel
theorem dX7_holderNow_49 : decode cX7_holderNow 49 = .ok (.goto 4, 3) := by decide +kernel
theorem dX7_holderNow_52 : decode cX7_holderNow 52 = .ok (.iload_n 1, 1) := by decide +kernel
theorem dX7_holderNow_53 : decode cX7_holderNow 53 = .ok (.istore_n 1, 1) := by decide +kernel
theorem dX7_holderNow_54 : decode cX7_holderNow 54 = .ok (.iload 4, 2) := by decide +kernel
theorem dX7_holderNow_56 : decode cX7_holderNow 56 = .ok (.iload_n 2, 1) := by decide +kernel
theorem dX7_holderNow_57 : decode cX7_holderNow 57 = .ok (.if_icmp .le 8, 3) := by decide +kernel
theorem dX7_holderNow_60 : decode cX7_holderNow 60 = .ok (.iload 4, 2) := by decide +kernel
theorem dX7_holderNow_62 : decode cX7_holderNow 62 = .ok (.goto 4, 3) := by decide +kernel
theorem dX7_holderNow_65 : decode cX7_holderNow 65 = .ok (.iload_n 2, 1) := by decide +kernel
theorem dX7_holderNow_66 : decode cX7_holderNow 66 = .ok (.istore_n 2, 1) := by decide +kernel
theorem dX7_holderNow_67 : decode cX7_holderNow 67 = .ok (.iinc 3 1, 3) := by decide +kernel
theorem dX7_holderNow_70 : decode cX7_holderNow 70 = .ok (.goto (-57), 3) := by decide +kernel
theorem dX7_holderNow_73 : decode cX7_holderNow 73 = .ok (.iload_n 1, 1) := by decide +kernel
theorem dX7_holderNow_74 : decode cX7_holderNow 74 = .ok (.ireturn, 1) := by decide +kernel
theorem dX7_holder_0 : decode cX7_holder 0 = .ok (.aload_n 0, 1) := by decide +kernel
theorem dX7_holder_1 : decode cX7_holder 1 = .ok (.iconst 0, 1) := by decide +kernel
theorem dX7_holder_2 : decode cX7_holder 2 = .ok (.putfield 22, 3) := by decide +kernel
theorem dX7_holder_5 : decode cX7_holder 5 = .ok (.aload_n 0, 1) := by decide +kernel
theorem dX7_holder_6 : decode cX7_holder 6 = .ok (.invokevirtual 185, 3) := by decide +kernel
theorem dX7_holder_9 : decode cX7_holder 9 = .ok (.ireturn, 1) := by decide +kernel
theorem dX7_share_0 : decode cX7_share 0 = .ok (.aload_n 0, 1) := by decide +kernel
theorem dX7_share_1 : decode cX7_share 1 = .ok (.invokevirtual 108, 3) := by decide +kernel
theorem dX7_share_4 : decode cX7_share 4 = .ok (.i2d, 1) := by decide +kernel
theorem dX7_share_5 : decode cX7_share 5 = .ok (.ldc2_w 188, 3) := by decide +kernel
theorem dX7_share_8 : decode cX7_share 8 = .ok (.ddiv, 1) := by decide +kernel
theorem dX7_share_9 : decode cX7_share 9 = .ok (.dreturn, 1) := by decide +kernel
theorem dX7_marked_0 : decode cX7_marked 0 = .ok (.aload_n 0, 1) := by decide +kernel
theorem dX7_marked_1 : decode cX7_marked 1 = .ok (.iconst 0, 1) := by decide +kernel
theorem dX7_marked_2 : decode cX7_marked 2 = .ok (.putfield 22, 3) := by decide +kernel
theorem dX7_marked_5 : decode cX7_marked 5 = .ok (.aload_n 0, 1) := by decide +kernel
theorem dX7_marked_6 : decode cX7_marked 6 = .ok (.invokevirtual 190, 3) := by decide +kernel
theorem dX7_marked_9 : decode cX7_marked 9 = .ok (.dreturn, 1) := by decide +kernel
theorem dX7_hashes_0 : decode cX7_hashes 0 = .ok (.aload_n 0, 1) := by decide +kernel
theorem dX7_hashes_1 : decode cX7_hashes 1 = .ok (.ldc2_w 194, 3) := by decide +kernel
theorem dX7_hashes_4 : decode cX7_hashes 4 = .ok (.aload_n 0, 1) := by decide +kernel
theorem dX7_hashes_5 : decode cX7_hashes 5 = .ok (.getfield 196, 3) := by decide +kernel
theorem dX7_hashes_8 : decode cX7_hashes 8 = .ok (.lmul, 1) := by decide +kernel
theorem dX7_hashes_9 : decode cX7_hashes 9 = .ok (.lload_n 1, 1) := by decide +kernel
theorem dX7_hashes_10 : decode cX7_hashes 10 = .ok (.ladd, 1) := by decide +kernel
theorem dX7_hashes_11 : decode cX7_hashes 11 = .ok (.putfield 196, 3) := by decide +kernel
theorem dX7_hashes_14 : decode cX7_hashes 14 = .ok (.return_, 1) := by decide +kernel
theorem dX7_hashesValue_0 : decode cX7_hashesValue 0 = .ok (.iconst 0, 1) := by decide +kernel
theorem dX7_hashesValue_1 : decode cX7_hashesValue 1 = .ok (.istore_n 2, 1) := by decide +kernel
theorem dX7_hashesValue_2 : decode cX7_hashesValue 2 = .ok (.iload_n 2, 1) := by decide +kernel
theorem dX7_hashesValue_3 : decode cX7_hashesValue 3 = .ok (.iconst 3, 1) := by decide +kernel
theorem dX7_hashesValue_4 : decode cX7_hashesValue 4 = .ok (.if_icmp .ge 43, 3) := by decide +kernel
theorem dX7_hashesValue_7 : decode cX7_hashesValue 7 = .ok (.aload_n 0, 1) := by decide +kernel
theorem dX7_hashesValue_8 : decode cX7_hashesValue 8 = .ok (.aload_n 0, 1) := by decide +kernel
theorem dX7_hashesValue_9 : decode cX7_hashesValue 9 = .ok (.aload_n 0, 1) := by decide +kernel
theorem dX7_hashesValue_10 : decode cX7_hashesValue 10 = .ok (.getfield 7, 3) := by decide +kernel
theorem dX7_hashesValue_13 : decode cX7_hashesValue 13 = .ok (.iconst 0, 1) := by decide +kernel
theorem dX7_hashesValue_14 : decode cX7_hashesValue 14 = .ok (.iaload, 1) := by decide +kernel
theorem dX7_hashesValue_15 : decode cX7_hashesValue 15 = .ok (.iload_n 1, 1) := by decide +kernel
theorem dX7_hashesValue_16 : decode cX7_hashesValue 16 = .ok (.iload_n 2, 1) := by decide +kernel
theorem dX7_hashesValue_17 : decode cX7_hashesValue 17 = .ok (.invokevirtual 126, 3) := by decide +kernel
theorem dX7_hashesValue_20 : decode cX7_hashesValue 20 = .ok (.i2l, 1) := by decide +kernel
theorem dX7_hashesValue_21 : decode cX7_hashesValue 21 = .ok (.invokevirtual 200, 3) := by decide +kernel
theorem dX7_hashesValue_24 : decode cX7_hashesValue 24 = .ok (.aload_n 0, 1) := by decide +kernel
theorem dX7_hashesValue_25 : decode cX7_hashesValue 25 = .ok (.aload_n 0, 1) := by decide +kernel
theorem dX7_hashesValue_26 : decode cX7_hashesValue 26 = .ok (.aload_n 0, 1) := by decide +kernel
theorem dX7_hashesValue_27 : decode cX7_hashesValue 27 = .ok (.getfield 7, 3) := by decide +kernel
theorem dX7_hashesValue_30 : decode cX7_hashesValue 30 = .ok (.iconst 0, 1) := by decide +kernel
theorem dX7_hashesValue_31 : decode cX7_hashesValue 31 = .ok (.iaload, 1) := by decide +kernel
theorem dX7_hashesValue_32 : decode cX7_hashesValue 32 = .ok (.iload_n 1, 1) := by decide +kernel
theorem dX7_hashesValue_33 : decode cX7_hashesValue 33 = .ok (.iload_n 2, 1) := by decide +kernel
theorem dX7_hashesValue_34 : decode cX7_hashesValue 34 = .ok (.invokevirtual 123, 3) := by decide +kernel
theorem dX7_hashesValue_37 : decode cX7_hashesValue 37 = .ok (.i2l, 1) := by decide +kernel
theorem dX7_hashesValue_38 : decode cX7_hashesValue 38 = .ok (.invokevirtual 200, 3) := by decide +kernel
theorem dX7_hashesValue_41 : decode cX7_hashesValue 41 = .ok (.iinc 2 1, 3) := by decide +kernel
theorem dX7_hashesValue_44 : decode cX7_hashesValue 44 = .ok (.goto (-42), 3) := by decide +kernel
theorem dX7_hashesValue_47 : decode cX7_hashesValue 47 = .ok (.aload_n 0, 1) := by decide +kernel
theorem dX7_hashesValue_48 : decode cX7_hashesValue 48 = .ok (.aload_n 0, 1) := by decide +kernel
theorem dX7_hashesValue_49 : decode cX7_hashesValue 49 = .ok (.iload_n 1, 1) := by decide +kernel
theorem dX7_hashesValue_50 : decode cX7_hashesValue 50 = .ok (.invokevirtual 176, 3) := by decide +kernel
theorem dX7_hashesValue_53 : decode cX7_hashesValue 53 = .ok (.i2l, 1) := by decide +kernel
theorem dX7_hashesValue_54 : decode cX7_hashesValue 54 = .ok (.invokevirtual 200, 3) := by decide +kernel
theorem dX7_hashesValue_57 : decode cX7_hashesValue 57 = .ok (.aload_n 0, 1) := by decide +kernel
theorem dX7_hashesValue_58 : decode cX7_hashesValue 58 = .ok (.aload_n 0, 1) := by decide +kernel
theorem dX7_hashesValue_59 : decode cX7_hashesValue 59 = .ok (.iload_n 1, 1) := by decide +kernel
theorem dX7_hashesValue_60 : decode cX7_hashesValue 60 = .ok (.invokevirtual 179, 3) := by decide +kernel
theorem dX7_hashesValue_63 : decode cX7_hashesValue 63 = .ok (.i2l, 1) := by decide +kernel
theorem dX7_hashesValue_64 : decode cX7_hashesValue 64 = .ok (.invokevirtual 200, 3) := by decide +kernel
theorem dX7_hashesValue_67 : decode cX7_hashesValue 67 = .ok (.return_, 1) := by decide +kernel
theorem dX7_digest_0 : decode cX7_digest 0 = .ok (.aload_n 0, 1) := by decide +kernel
theorem dX7_digest_1 : decode cX7_digest 1 = .ok (.iconst 0, 1) := by decide +kernel
theorem dX7_digest_2 : decode cX7_digest 2 = .ok (.putfield 22, 3) := by decide +kernel
theorem dX7_digest_5 : decode cX7_digest 5 = .ok (.aload_n 0, 1) := by decide +kernel
theorem dX7_digest_6 : decode cX7_digest 6 = .ok (.ldc2_w 204, 3) := by decide +kernel
theorem dX7_digest_9 : decode cX7_digest 9 = .ok (.putfield 196, 3) := by decide +kernel
theorem dX7_digest_12 : decode cX7_digest 12 = .ok (.iconst 0, 1) := by decide +kernel
theorem dX7_digest_13 : decode cX7_digest 13 = .ok (.istore_n 1, 1) := by decide +kernel
theorem dX7_digest_14 : decode cX7_digest 14 = .ok (.iload_n 1, 1) := by decide +kernel
theorem dX7_digest_15 : decode cX7_digest 15 = .ok (.bipush 13, 2) := by decide +kernel
theorem dX7_digest_17 : decode cX7_digest 17 = .ok (.if_icmp .ge 19, 3) := by decide +kernel
theorem dX7_digest_20 : decode cX7_digest 20 = .ok (.aload_n 0, 1) := by decide +kernel
theorem dX7_digest_21 : decode cX7_digest 21 = .ok (.aload_n 0, 1) := by decide +kernel
theorem dX7_digest_22 : decode cX7_digest 22 = .ok (.iload_n 1, 1) := by decide +kernel
theorem dX7_digest_23 : decode cX7_digest 23 = .ok (.invokevirtual 173, 3) := by decide +kernel
theorem dX7_digest_26 : decode cX7_digest 26 = .ok (.i2l, 1) := by decide +kernel
theorem dX7_digest_27 : decode cX7_digest 27 = .ok (.invokevirtual 200, 3) := by decide +kernel
theorem dX7_digest_30 : decode cX7_digest 30 = .ok (.iinc 1 1, 3) := by decide +kernel
theorem dX7_digest_33 : decode cX7_digest 33 = .ok (.goto (-19), 3) := by decide +kernel
theorem dX7_digest_36 : decode cX7_digest 36 = .ok (.iconst 0, 1) := by decide +kernel
theorem dX7_digest_37 : decode cX7_digest 37 = .ok (.istore_n 1, 1) := by decide +kernel
theorem dX7_digest_38 : decode cX7_digest 38 = .ok (.iload_n 1, 1) := by decide +kernel
theorem dX7_digest_39 : decode cX7_digest 39 = .ok (.bipush 96, 2) := by decide +kernel
theorem dX7_digest_41 : decode cX7_digest 41 = .ok (.if_icmp .ge 24, 3) := by decide +kernel
theorem dX7_digest_44 : decode cX7_digest 44 = .ok (.aload_n 0, 1) := by decide +kernel
theorem dX7_digest_45 : decode cX7_digest 45 = .ok (.aload_n 0, 1) := by decide +kernel
theorem dX7_digest_46 : decode cX7_digest 46 = .ok (.iload_n 1, 1) := by decide +kernel
theorem dX7_digest_47 : decode cX7_digest 47 = .ok (.iconst 4, 1) := by decide +kernel
theorem dX7_digest_48 : decode cX7_digest 48 = .ok (.idiv, 1) := by decide +kernel
theorem dX7_digest_49 : decode cX7_digest 49 = .ok (.iload_n 1, 1) := by decide +kernel
theorem dX7_digest_50 : decode cX7_digest 50 = .ok (.iconst 4, 1) := by decide +kernel
theorem dX7_digest_51 : decode cX7_digest 51 = .ok (.irem, 1) := by decide +kernel
theorem dX7_digest_52 : decode cX7_digest 52 = .ok (.invokevirtual 160, 3) := by decide +kernel
theorem dX7_digest_55 : decode cX7_digest 55 = .ok (.i2l, 1) := by decide +kernel
theorem dX7_digest_56 : decode cX7_digest 56 = .ok (.invokevirtual 200, 3) := by decide +kernel
theorem dX7_digest_59 : decode cX7_digest 59 = .ok (.iinc 1 1, 3) := by decide +kernel
theorem dX7_digest_62 : decode cX7_digest 62 = .ok (.goto (-24), 3) := by decide +kernel
theorem dX7_digest_65 : decode cX7_digest 65 = .ok (.iconst 0, 1) := by decide +kernel
theorem dX7_digest_66 : decode cX7_digest 66 = .ok (.istore_n 1, 1) := by decide +kernel
theorem dX7_digest_67 : decode cX7_digest 67 = .ok (.iload_n 1, 1) := by decide +kernel
theorem dX7_digest_68 : decode cX7_digest 68 = .ok (.bipush 30, 2) := by decide +kernel
theorem dX7_digest_70 : decode cX7_digest 70 = .ok (.if_icmp .ge 24, 3) := by decide +kernel
theorem dX7_digest_73 : decode cX7_digest 73 = .ok (.aload_n 0, 1) := by decide +kernel
theorem dX7_digest_74 : decode cX7_digest 74 = .ok (.aload_n 0, 1) := by decide +kernel
theorem dX7_digest_75 : decode cX7_digest 75 = .ok (.iload_n 1, 1) := by decide +kernel
theorem dX7_digest_76 : decode cX7_digest 76 = .ok (.iconst 5, 1) := by decide +kernel
theorem dX7_digest_77 : decode cX7_digest 77 = .ok (.idiv, 1) := by decide +kernel
theorem dX7_digest_78 : decode cX7_digest 78 = .ok (.iload_n 1, 1) := by decide +kernel
theorem dX7_digest_79 : decode cX7_digest 79 = .ok (.iconst 5, 1) := by decide +kernel
theorem dX7_digest_80 : decode cX7_digest 80 = .ok (.irem, 1) := by decide +kernel
theorem dX7_digest_81 : decode cX7_digest 81 = .ok (.invokevirtual 167, 3) := by decide +kernel
theorem dX7_digest_84 : decode cX7_digest 84 = .ok (.i2l, 1) := by decide +kernel
theorem dX7_digest_85 : decode cX7_digest 85 = .ok (.invokevirtual 200, 3) := by decide +kernel
theorem dX7_digest_88 : decode cX7_digest 88 = .ok (.iinc 1 1, 3) := by decide +kernel
theorem dX7_digest_91 : decode cX7_digest 91 = .ok (.goto (-24), 3) := by decide +kernel
theorem dX7_digest_94 : decode cX7_digest 94 = .ok (.iconst 0, 1) := by decide +kernel
theorem dX7_digest_95 : decode cX7_digest 95 = .ok (.istore_n 1, 1) := by decide +kernel
theorem dX7_digest_96 : decode cX7_digest 96 = .ok (.iload_n 1, 1) := by decide +kernel
theorem dX7_digest_97 : decode cX7_digest 97 = .ok (.bipush 12, 2) := by decide +kernel
theorem dX7_digest_99 : decode cX7_digest 99 = .ok (.if_icmp .ge 24, 3) := by decide +kernel
theorem dX7_digest_102 : decode cX7_digest 102 = .ok (.aload_n 0, 1) := by decide +kernel
theorem dX7_digest_103 : decode cX7_digest 103 = .ok (.aload_n 0, 1) := by decide +kernel
theorem dX7_digest_104 : decode cX7_digest 104 = .ok (.iload_n 1, 1) := by decide +kernel
theorem dX7_digest_105 : decode cX7_digest 105 = .ok (.iconst 3, 1) := by decide +kernel
theorem dX7_digest_106 : decode cX7_digest 106 = .ok (.idiv, 1) := by decide +kernel
theorem dX7_digest_107 : decode cX7_digest 107 = .ok (.iload_n 1, 1) := by decide +kernel
theorem dX7_digest_108 : decode cX7_digest 108 = .ok (.iconst 3, 1) := by decide +kernel
theorem dX7_digest_109 : decode cX7_digest 109 = .ok (.irem, 1) := by decide +kernel
theorem dX7_digest_110 : decode cX7_digest 110 = .ok (.invokevirtual 170, 3) := by decide +kernel
theorem dX7_digest_113 : decode cX7_digest 113 = .ok (.i2l, 1) := by decide +kernel
theorem dX7_digest_114 : decode cX7_digest 114 = .ok (.invokevirtual 200, 3) := by decide +kernel
theorem dX7_digest_117 : decode cX7_digest 117 = .ok (.iinc 1 1, 3) := by decide +kernel
theorem dX7_digest_120 : decode cX7_digest 120 = .ok (.goto (-24), 3) := by decide +kernel
theorem dX7_digest_123 : decode cX7_digest 123 = .ok (.iconst 0, 1) := by decide +kernel
theorem dX7_digest_124 : decode cX7_digest 124 = .ok (.istore_n 1, 1) := by decide +kernel
theorem dX7_digest_125 : decode cX7_digest 125 = .ok (.iload_n 1, 1) := by decide +kernel
theorem dX7_digest_126 : decode cX7_digest 126 = .ok (.bipush 10, 2) := by decide +kernel
theorem dX7_digest_128 : decode cX7_digest 128 = .ok (.if_icmp .ge 14, 3) := by decide +kernel
theorem dX7_digest_131 : decode cX7_digest 131 = .ok (.aload_n 0, 1) := by decide +kernel
theorem dX7_digest_132 : decode cX7_digest 132 = .ok (.iload_n 1, 1) := by decide +kernel
theorem dX7_digest_133 : decode cX7_digest 133 = .ok (.invokevirtual 206, 3) := by decide +kernel
theorem dX7_digest_136 : decode cX7_digest 136 = .ok (.iinc 1 1, 3) := by decide +kernel
theorem dX7_digest_139 : decode cX7_digest 139 = .ok (.goto (-14), 3) := by decide +kernel
theorem dX7_digest_142 : decode cX7_digest 142 = .ok (.aload_n 0, 1) := by decide +kernel
theorem dX7_digest_143 : decode cX7_digest 143 = .ok (.aload_n 0, 1) := by decide +kernel
theorem dX7_digest_144 : decode cX7_digest 144 = .ok (.invokevirtual 185, 3) := by decide +kernel
theorem dX7_digest_147 : decode cX7_digest 147 = .ok (.i2l, 1) := by decide +kernel
theorem dX7_digest_148 : decode cX7_digest 148 = .ok (.invokevirtual 200, 3) := by decide +kernel
theorem dX7_digest_151 : decode cX7_digest 151 = .ok (.aload_n 0, 1) := by decide +kernel
theorem dX7_digest_152 : decode cX7_digest 152 = .ok (.aload_n 0, 1) := by decide +kernel
theorem dX7_digest_153 : decode cX7_digest 153 = .ok (.invokevirtual 190, 3) := by decide +kernel
theorem dX7_digest_156 : decode cX7_digest 156 = .ok (.invokestatic 209, 3) := by decide +kernel
theorem dX7_digest_159 : decode cX7_digest 159 = .ok (.invokevirtual 200, 3) := by decide +kernel
theorem dX7_digest_162 : decode cX7_digest 162 = .ok (.aload_n 0, 1) := by decide +kernel
theorem dX7_digest_163 : decode cX7_digest 163 = .ok (.aload_n 0, 1) := by decide +kernel
theorem dX7_digest_164 : decode cX7_digest 164 = .ok (.getfield 129, 3) := by decide +kernel
theorem dX7_digest_167 : decode cX7_digest 167 = .ok (.i2l, 1) := by decide +kernel
theorem dX7_digest_168 : decode cX7_digest 168 = .ok (.invokevirtual 200, 3) := by decide +kernel
theorem dX7_digest_171 : decode cX7_digest 171 = .ok (.iconst 0, 1) := by decide +kernel
theorem dX7_digest_172 : decode cX7_digest 172 = .ok (.istore_n 1, 1) := by decide +kernel
theorem dX7_digest_173 : decode cX7_digest 173 = .ok (.iload_n 1, 1) := by decide +kernel
theorem dX7_digest_174 : decode cX7_digest 174 = .ok (.aload_n 0, 1) := by decide +kernel
theorem dX7_digest_175 : decode cX7_digest 175 = .ok (.getfield 129, 3) := by decide +kernel
theorem dX7_digest_178 : decode cX7_digest 178 = .ok (.if_icmp .ge 20, 3) := by decide +kernel
theorem dX7_digest_181 : decode cX7_digest 181 = .ok (.aload_n 0, 1) := by decide +kernel
theorem dX7_digest_182 : decode cX7_digest 182 = .ok (.aload_n 0, 1) := by decide +kernel
theorem dX7_digest_183 : decode cX7_digest 183 = .ok (.getfield 16, 3) := by decide +kernel
theorem dX7_digest_186 : decode cX7_digest 186 = .ok (.iload_n 1, 1) := by decide +kernel
theorem dX7_digest_187 : decode cX7_digest 187 = .ok (.iaload, 1) := by decide +kernel
theorem dX7_digest_188 : decode cX7_digest 188 = .ok (.i2l, 1) := by decide +kernel
theorem dX7_digest_189 : decode cX7_digest 189 = .ok (.invokevirtual 200, 3) := by decide +kernel
theorem dX7_digest_192 : decode cX7_digest 192 = .ok (.iinc 1 1, 3) := by decide +kernel
theorem dX7_digest_195 : decode cX7_digest 195 = .ok (.goto (-22), 3) := by decide +kernel
theorem dX7_digest_198 : decode cX7_digest 198 = .ok (.aload_n 0, 1) := by decide +kernel
theorem dX7_digest_199 : decode cX7_digest 199 = .ok (.getfield 196, 3) := by decide +kernel
theorem dX7_digest_202 : decode cX7_digest 202 = .ok (.lreturn, 1) := by decide +kernel
end
section
theorem dL_put_0 : decode cL_put 0 = .ok (.aload_n 2, 1) := by decide +kernel
theorem dL_put_1 : decode cL_put 1 = .ok (.iconst 0, 1) := by decide +kernel
theorem dL_put_2 : decode cL_put 2 = .ok (.aload_n 0, 1) := by decide +kernel
theorem dL_put_3 : decode cL_put 3 = .ok (.iload_n 1, 1) := by decide +kernel
theorem dL_put_4 : decode cL_put 4 = .ok (.invokevirtual 7, 3) := by decide +kernel
theorem dL_put_7 : decode cL_put 7 = .ok (.i2l, 1) := by decide +kernel
theorem dL_put_8 : decode cL_put 8 = .ok (.lastore, 1) := by decide +kernel
theorem dL_put_9 : decode cL_put 9 = .ok (.goto 9, 3) := by decide +kernel
theorem dL_put_12 : decode cL_put 12 = .ok (.astore_n 3, 1) := by decide +kernel
theorem dL_put_13 : decode cL_put 13 = .ok (.iconst 1, 1) := by decide +kernel
theorem dL_put_14 : decode cL_put 14 = .ok (.ireturn, 1) := by decide +kernel
theorem dL_put_15 : decode cL_put 15 = .ok (.astore_n 3, 1) := by decide +kernel
theorem dL_put_16 : decode cL_put 16 = .ok (.iconst 2, 1) := by decide +kernel
theorem dL_put_17 : decode cL_put 17 = .ok (.ireturn, 1) := by decide +kernel
theorem dL_put_18 : decode cL_put 18 = .ok (.iconst 0, 1) := by decide +kernel
theorem dL_put_19 : decode cL_put 19 = .ok (.ireturn, 1) := by decide +kernel
theorem dL_take_0 : decode cL_take 0 = .ok (.aload_n 2, 1) := by decide +kernel
theorem dL_take_1 : decode cL_take 1 = .ok (.iconst 0, 1) := by decide +kernel
theorem dL_take_2 : decode cL_take 2 = .ok (.aload_n 0, 1) := by decide +kernel
theorem dL_take_3 : decode cL_take 3 = .ok (.iload_n 1, 1) := by decide +kernel
theorem dL_take_4 : decode cL_take 4 = .ok (.invokevirtual 17, 3) := by decide +kernel
theorem dL_take_7 : decode cL_take 7 = .ok (.i2l, 1) := by decide +kernel
theorem dL_take_8 : decode cL_take 8 = .ok (.lastore, 1) := by decide +kernel
theorem dL_take_9 : decode cL_take 9 = .ok (.goto 9, 3) := by decide +kernel
theorem dL_take_12 : decode cL_take 12 = .ok (.astore_n 3, 1) := by decide +kernel
theorem dL_take_13 : decode cL_take 13 = .ok (.iconst 1, 1) := by decide +kernel
theorem dL_take_14 : decode cL_take 14 = .ok (.ireturn, 1) := by decide +kernel
theorem dL_take_15 : decode cL_take 15 = .ok (.astore_n 3, 1) := by decide +kernel
theorem dL_take_16 : decode cL_take 16 = .ok (.iconst 2, 1) := by decide +kernel
theorem dL_take_17 : decode cL_take 17 = .ok (.ireturn, 1) := by decide +kernel
theorem dL_take_18 : decode cL_take 18 = .ok (.iconst 0, 1) := by decide +kernel
theorem dL_take_19 : decode cL_take 19 = .ok (.ireturn, 1) := by decide +kernel
theorem dL_change_0 : decode cL_change 0 = .ok (.aload_n 3, 1) := by decide +kernel
theorem dL_change_1 : decode cL_change 1 = .ok (.iconst 0, 1) := by decide +kernel
theorem dL_change_2 : decode cL_change 2 = .ok (.aload_n 0, 1) := by decide +kernel
theorem dL_change_3 : decode cL_change 3 = .ok (.iload_n 1, 1) := by decide +kernel
theorem dL_change_4 : decode cL_change 4 = .ok (.iload_n 2, 1) := by decide +kernel
theorem dL_change_5 : decode cL_change 5 = .ok (.invokevirtual 22, 3) := by decide +kernel
theorem dL_change_8 : decode cL_change 8 = .ok (.i2l, 1) := by decide +kernel
theorem dL_change_9 : decode cL_change 9 = .ok (.lastore, 1) := by decide +kernel
theorem dL_change_10 : decode cL_change 10 = .ok (.goto 15, 3) := by decide +kernel
theorem dL_change_13 : decode cL_change 13 = .ok (.astore 4, 2) := by decide +kernel
theorem dL_change_15 : decode cL_change 15 = .ok (.iconst 1, 1) := by decide +kernel
theorem dL_change_16 : decode cL_change 16 = .ok (.ireturn, 1) := by decide +kernel
theorem dL_change_17 : decode cL_change 17 = .ok (.astore 4, 2) := by decide +kernel
theorem dL_change_19 : decode cL_change 19 = .ok (.iconst 2, 1) := by decide +kernel
theorem dL_change_20 : decode cL_change 20 = .ok (.ireturn, 1) := by decide +kernel
theorem dL_change_21 : decode cL_change 21 = .ok (.astore 4, 2) := by decide +kernel
theorem dL_change_23 : decode cL_change 23 = .ok (.iconst 3, 1) := by decide +kernel
theorem dL_change_24 : decode cL_change 24 = .ok (.ireturn, 1) := by decide +kernel
theorem dL_change_25 : decode cL_change 25 = .ok (.iconst 0, 1) := by decide +kernel
theorem dL_change_26 : decode cL_change 26 = .ok (.ireturn, 1) := by decide +kernel
theorem dL_open_0 : decode cL_open 0 = .ok (.aload_n 2, 1) := by decide +kernel
theorem dL_open_1 : decode cL_open 1 = .ok (.iconst 0, 1) := by decide +kernel
theorem dL_open_2 : decode cL_open 2 = .ok (.aload_n 0, 1) := by decide +kernel
theorem dL_open_3 : decode cL_open 3 = .ok (.iload_n 1, 1) := by decide +kernel
theorem dL_open_4 : decode cL_open 4 = .ok (.invokevirtual 26, 3) := by decide +kernel
theorem dL_open_7 : decode cL_open 7 = .ok (.i2l, 1) := by decide +kernel
theorem dL_open_8 : decode cL_open 8 = .ok (.lastore, 1) := by decide +kernel
theorem dL_open_9 : decode cL_open 9 = .ok (.goto 6, 3) := by decide +kernel
theorem dL_open_12 : decode cL_open 12 = .ok (.astore_n 3, 1) := by decide +kernel
theorem dL_open_13 : decode cL_open 13 = .ok (.iconst 1, 1) := by decide +kernel
theorem dL_open_14 : decode cL_open 14 = .ok (.ireturn, 1) := by decide +kernel
theorem dL_open_15 : decode cL_open 15 = .ok (.iconst 0, 1) := by decide +kernel
theorem dL_open_16 : decode cL_open 16 = .ok (.ireturn, 1) := by decide +kernel
theorem dL_close_0 : decode cL_close 0 = .ok (.aload_n 2, 1) := by decide +kernel
theorem dL_close_1 : decode cL_close 1 = .ok (.iconst 0, 1) := by decide +kernel
theorem dL_close_2 : decode cL_close 2 = .ok (.aload_n 0, 1) := by decide +kernel
theorem dL_close_3 : decode cL_close 3 = .ok (.iload_n 1, 1) := by decide +kernel
theorem dL_close_4 : decode cL_close 4 = .ok (.invokevirtual 29, 3) := by decide +kernel
theorem dL_close_7 : decode cL_close 7 = .ok (.i2l, 1) := by decide +kernel
theorem dL_close_8 : decode cL_close 8 = .ok (.lastore, 1) := by decide +kernel
theorem dL_close_9 : decode cL_close 9 = .ok (.goto 9, 3) := by decide +kernel
theorem dL_close_12 : decode cL_close 12 = .ok (.astore_n 3, 1) := by decide +kernel
theorem dL_close_13 : decode cL_close 13 = .ok (.iconst 1, 1) := by decide +kernel
theorem dL_close_14 : decode cL_close 14 = .ok (.ireturn, 1) := by decide +kernel
theorem dL_close_15 : decode cL_close 15 = .ok (.astore_n 3, 1) := by decide +kernel
theorem dL_close_16 : decode cL_close 16 = .ok (.iconst 2, 1) := by decide +kernel
theorem dL_close_17 : decode cL_close 17 = .ok (.ireturn, 1) := by decide +kernel
theorem dL_close_18 : decode cL_close 18 = .ok (.iconst 0, 1) := by decide +kernel
theorem dL_close_19 : decode cL_close 19 = .ok (.ireturn, 1) := by decide +kernel
theorem dL_sweep_0 : decode cL_sweep 0 = .ok (.aload_n 2, 1) := by decide +kernel
theorem dL_sweep_1 : decode cL_sweep 1 = .ok (.iconst 0, 1) := by decide +kernel
theorem dL_sweep_2 : decode cL_sweep 2 = .ok (.aload_n 0, 1) := by decide +kernel
theorem dL_sweep_3 : decode cL_sweep 3 = .ok (.iload_n 1, 1) := by decide +kernel
theorem dL_sweep_4 : decode cL_sweep 4 = .ok (.invokevirtual 32, 3) := by decide +kernel
theorem dL_sweep_7 : decode cL_sweep 7 = .ok (.i2l, 1) := by decide +kernel
theorem dL_sweep_8 : decode cL_sweep 8 = .ok (.lastore, 1) := by decide +kernel
theorem dL_sweep_9 : decode cL_sweep 9 = .ok (.goto 6, 3) := by decide +kernel
theorem dL_sweep_12 : decode cL_sweep 12 = .ok (.astore_n 3, 1) := by decide +kernel
theorem dL_sweep_13 : decode cL_sweep 13 = .ok (.iconst 1, 1) := by decide +kernel
theorem dL_sweep_14 : decode cL_sweep 14 = .ok (.ireturn, 1) := by decide +kernel
theorem dL_sweep_15 : decode cL_sweep 15 = .ok (.iconst 0, 1) := by decide +kernel
theorem dL_sweep_16 : decode cL_sweep 16 = .ok (.ireturn, 1) := by decide +kernel
theorem dL_ask_0 : decode cL_ask 0 = .ok (.aload 4, 2) := by decide +kernel
theorem dL_ask_2 : decode cL_ask 2 = .ok (.iconst 0, 1) := by decide +kernel
theorem dL_ask_3 : decode cL_ask 3 = .ok (.aload_n 0, 1) := by decide +kernel
theorem dL_ask_4 : decode cL_ask 4 = .ok (.iload_n 1, 1) := by decide +kernel
theorem dL_ask_5 : decode cL_ask 5 = .ok (.iload_n 2, 1) := by decide +kernel
theorem dL_ask_6 : decode cL_ask 6 = .ok (.iload_n 3, 1) := by decide +kernel
theorem dL_ask_7 : decode cL_ask 7 = .ok (.invokevirtual 35, 3) := by decide +kernel
theorem dL_ask_10 : decode cL_ask 10 = .ok (.i2l, 1) := by decide +kernel
theorem dL_ask_11 : decode cL_ask 11 = .ok (.lastore, 1) := by decide +kernel
theorem dL_ask_12 : decode cL_ask 12 = .ok (.goto 15, 3) := by decide +kernel
theorem dL_ask_15 : decode cL_ask 15 = .ok (.astore 5, 2) := by decide +kernel
theorem dL_ask_17 : decode cL_ask 17 = .ok (.iconst 1, 1) := by decide +kernel
theorem dL_ask_18 : decode cL_ask 18 = .ok (.ireturn, 1) := by decide +kernel
theorem dL_ask_19 : decode cL_ask 19 = .ok (.astore 5, 2) := by decide +kernel
theorem dL_ask_21 : decode cL_ask 21 = .ok (.iconst 2, 1) := by decide +kernel
theorem dL_ask_22 : decode cL_ask 22 = .ok (.ireturn, 1) := by decide +kernel
theorem dL_ask_23 : decode cL_ask 23 = .ok (.astore 5, 2) := by decide +kernel
theorem dL_ask_25 : decode cL_ask 25 = .ok (.iconst 3, 1) := by decide +kernel
theorem dL_ask_26 : decode cL_ask 26 = .ok (.ireturn, 1) := by decide +kernel
theorem dL_ask_27 : decode cL_ask 27 = .ok (.iconst 0, 1) := by decide +kernel
theorem dL_ask_28 : decode cL_ask 28 = .ok (.ireturn, 1) := by decide +kernel
theorem dL_append_0 : decode cL_append 0 = .ok (.aload_n 2, 1) := by decide +kernel
theorem dL_append_1 : decode cL_append 1 = .ok (.iconst 0, 1) := by decide +kernel
theorem dL_append_2 : decode cL_append 2 = .ok (.aload_n 0, 1) := by decide +kernel
theorem dL_append_3 : decode cL_append 3 = .ok (.iload_n 1, 1) := by decide +kernel
theorem dL_append_4 : decode cL_append 4 = .ok (.invokevirtual 39, 3) := by decide +kernel
theorem dL_append_7 : decode cL_append 7 = .ok (.i2l, 1) := by decide +kernel
theorem dL_append_8 : decode cL_append 8 = .ok (.lastore, 1) := by decide +kernel
theorem dL_append_9 : decode cL_append 9 = .ok (.goto 9, 3) := by decide +kernel
theorem dL_append_12 : decode cL_append 12 = .ok (.astore_n 3, 1) := by decide +kernel
theorem dL_append_13 : decode cL_append 13 = .ok (.iconst 1, 1) := by decide +kernel
theorem dL_append_14 : decode cL_append 14 = .ok (.ireturn, 1) := by decide +kernel
theorem dL_append_15 : decode cL_append 15 = .ok (.astore_n 3, 1) := by decide +kernel
theorem dL_append_16 : decode cL_append 16 = .ok (.iconst 2, 1) := by decide +kernel
theorem dL_append_17 : decode cL_append 17 = .ok (.ireturn, 1) := by decide +kernel
theorem dL_append_18 : decode cL_append 18 = .ok (.iconst 0, 1) := by decide +kernel
theorem dL_append_19 : decode cL_append 19 = .ok (.ireturn, 1) := by decide +kernel
theorem dL_play_0 : decode cL_play 0 = .ok (.aload_n 1, 1) := by decide +kernel
theorem dL_play_1 : decode cL_play 1 = .ok (.iconst 0, 1) := by decide +kernel
theorem dL_play_2 : decode cL_play 2 = .ok (.aload_n 0, 1) := by decide +kernel
theorem dL_play_3 : decode cL_play 3 = .ok (.invokevirtual 42, 3) := by decide +kernel
theorem dL_play_6 : decode cL_play 6 = .ok (.i2l, 1) := by decide +kernel
theorem dL_play_7 : decode cL_play 7 = .ok (.lastore, 1) := by decide +kernel
theorem dL_play_8 : decode cL_play 8 = .ok (.goto 6, 3) := by decide +kernel
theorem dL_play_11 : decode cL_play 11 = .ok (.astore_n 2, 1) := by decide +kernel
theorem dL_play_12 : decode cL_play 12 = .ok (.iconst 1, 1) := by decide +kernel
theorem dL_play_13 : decode cL_play 13 = .ok (.ireturn, 1) := by decide +kernel
theorem dL_play_14 : decode cL_play 14 = .ok (.iconst 0, 1) := by decide +kernel
theorem dL_play_15 : decode cL_play 15 = .ok (.ireturn, 1) := by decide +kernel
theorem dL_undo_0 : decode cL_undo 0 = .ok (.aload_n 1, 1) := by decide +kernel
theorem dL_undo_1 : decode cL_undo 1 = .ok (.iconst 0, 1) := by decide +kernel
theorem dL_undo_2 : decode cL_undo 2 = .ok (.aload_n 0, 1) := by decide +kernel
theorem dL_undo_3 : decode cL_undo 3 = .ok (.invokevirtual 46, 3) := by decide +kernel
theorem dL_undo_6 : decode cL_undo 6 = .ok (.i2l, 1) := by decide +kernel
theorem dL_undo_7 : decode cL_undo 7 = .ok (.lastore, 1) := by decide +kernel
theorem dL_undo_8 : decode cL_undo 8 = .ok (.goto 6, 3) := by decide +kernel
theorem dL_undo_11 : decode cL_undo 11 = .ok (.astore_n 2, 1) := by decide +kernel
theorem dL_undo_12 : decode cL_undo 12 = .ok (.iconst 1, 1) := by decide +kernel
theorem dL_undo_13 : decode cL_undo 13 = .ok (.ireturn, 1) := by decide +kernel
theorem dL_undo_14 : decode cL_undo 14 = .ok (.iconst 0, 1) := by decide +kernel
theorem dL_undo_15 : decode cL_undo 15 = .ok (.ireturn, 1) := by decide +kernel
theorem dL_slot_0 : decode cL_slot 0 = .ok (.aload_n 3, 1) := by decide +kernel
theorem dL_slot_1 : decode cL_slot 1 = .ok (.iconst 0, 1) := by decide +kernel
theorem dL_slot_2 : decode cL_slot 2 = .ok (.aload_n 0, 1) := by decide +kernel
theorem dL_slot_3 : decode cL_slot 3 = .ok (.iload_n 1, 1) := by decide +kernel
theorem dL_slot_4 : decode cL_slot 4 = .ok (.iload_n 2, 1) := by decide +kernel
theorem dL_slot_5 : decode cL_slot 5 = .ok (.invokevirtual 49, 3) := by decide +kernel
theorem dL_slot_8 : decode cL_slot 8 = .ok (.i2l, 1) := by decide +kernel
theorem dL_slot_9 : decode cL_slot 9 = .ok (.lastore, 1) := by decide +kernel
theorem dL_slot_10 : decode cL_slot 10 = .ok (.goto 11, 3) := by decide +kernel
theorem dL_slot_13 : decode cL_slot 13 = .ok (.astore 4, 2) := by decide +kernel
theorem dL_slot_15 : decode cL_slot 15 = .ok (.iconst 1, 1) := by decide +kernel
theorem dL_slot_16 : decode cL_slot 16 = .ok (.ireturn, 1) := by decide +kernel
theorem dL_slot_17 : decode cL_slot 17 = .ok (.astore 4, 2) := by decide +kernel
theorem dL_slot_19 : decode cL_slot 19 = .ok (.iconst 2, 1) := by decide +kernel
theorem dL_slot_20 : decode cL_slot 20 = .ok (.ireturn, 1) := by decide +kernel
theorem dL_slot_21 : decode cL_slot 21 = .ok (.iconst 0, 1) := by decide +kernel
theorem dL_slot_22 : decode cL_slot 22 = .ok (.ireturn, 1) := by decide +kernel
theorem dL_page_0 : decode cL_page 0 = .ok (.aload_n 3, 1) := by decide +kernel
theorem dL_page_1 : decode cL_page 1 = .ok (.iconst 0, 1) := by decide +kernel
theorem dL_page_2 : decode cL_page 2 = .ok (.aload_n 0, 1) := by decide +kernel
theorem dL_page_3 : decode cL_page 3 = .ok (.iload_n 1, 1) := by decide +kernel
theorem dL_page_4 : decode cL_page 4 = .ok (.iload_n 2, 1) := by decide +kernel
theorem dL_page_5 : decode cL_page 5 = .ok (.invokevirtual 52, 3) := by decide +kernel
theorem dL_page_8 : decode cL_page 8 = .ok (.i2l, 1) := by decide +kernel
theorem dL_page_9 : decode cL_page 9 = .ok (.lastore, 1) := by decide +kernel
theorem dL_page_10 : decode cL_page 10 = .ok (.goto 11, 3) := by decide +kernel
theorem dL_page_13 : decode cL_page 13 = .ok (.astore 4, 2) := by decide +kernel
theorem dL_page_15 : decode cL_page 15 = .ok (.iconst 1, 1) := by decide +kernel
theorem dL_page_16 : decode cL_page 16 = .ok (.ireturn, 1) := by decide +kernel
theorem dL_page_17 : decode cL_page 17 = .ok (.astore 4, 2) := by decide +kernel
theorem dL_page_19 : decode cL_page 19 = .ok (.iconst 2, 1) := by decide +kernel
theorem dL_page_20 : decode cL_page 20 = .ok (.ireturn, 1) := by decide +kernel
theorem dL_page_21 : decode cL_page 21 = .ok (.iconst 0, 1) := by decide +kernel
theorem dL_page_22 : decode cL_page 22 = .ok (.ireturn, 1) := by decide +kernel
theorem dL_asker_0 : decode cL_asker 0 = .ok (.aload_n 3, 1) := by decide +kernel
theorem dL_asker_1 : decode cL_asker 1 = .ok (.iconst 0, 1) := by decide +kernel
theorem dL_asker_2 : decode cL_asker 2 = .ok (.aload_n 0, 1) := by decide +kernel
theorem dL_asker_3 : decode cL_asker 3 = .ok (.iload_n 1, 1) := by decide +kernel
theorem dL_asker_4 : decode cL_asker 4 = .ok (.iload_n 2, 1) := by decide +kernel
theorem dL_asker_5 : decode cL_asker 5 = .ok (.invokevirtual 55, 3) := by decide +kernel
theorem dL_asker_8 : decode cL_asker 8 = .ok (.i2l, 1) := by decide +kernel
theorem dL_asker_9 : decode cL_asker 9 = .ok (.lastore, 1) := by decide +kernel
theorem dL_asker_10 : decode cL_asker 10 = .ok (.goto 11, 3) := by decide +kernel
theorem dL_asker_13 : decode cL_asker 13 = .ok (.astore 4, 2) := by decide +kernel
theorem dL_asker_15 : decode cL_asker 15 = .ok (.iconst 1, 1) := by decide +kernel
theorem dL_asker_16 : decode cL_asker 16 = .ok (.ireturn, 1) := by decide +kernel
theorem dL_asker_17 : decode cL_asker 17 = .ok (.astore 4, 2) := by decide +kernel
theorem dL_asker_19 : decode cL_asker 19 = .ok (.iconst 2, 1) := by decide +kernel
theorem dL_asker_20 : decode cL_asker 20 = .ok (.ireturn, 1) := by decide +kernel
theorem dL_asker_21 : decode cL_asker 21 = .ok (.iconst 0, 1) := by decide +kernel
theorem dL_asker_22 : decode cL_asker 22 = .ok (.ireturn, 1) := by decide +kernel
theorem dL_count_0 : decode cL_count 0 = .ok (.aload_n 2, 1) := by decide +kernel
theorem dL_count_1 : decode cL_count 1 = .ok (.iconst 0, 1) := by decide +kernel
theorem dL_count_2 : decode cL_count 2 = .ok (.aload_n 0, 1) := by decide +kernel
theorem dL_count_3 : decode cL_count 3 = .ok (.iload_n 1, 1) := by decide +kernel
theorem dL_count_4 : decode cL_count 4 = .ok (.invokevirtual 58, 3) := by decide +kernel
theorem dL_count_7 : decode cL_count 7 = .ok (.i2l, 1) := by decide +kernel
theorem dL_count_8 : decode cL_count 8 = .ok (.lastore, 1) := by decide +kernel
theorem dL_count_9 : decode cL_count 9 = .ok (.goto 6, 3) := by decide +kernel
theorem dL_count_12 : decode cL_count 12 = .ok (.astore_n 3, 1) := by decide +kernel
theorem dL_count_13 : decode cL_count 13 = .ok (.iconst 1, 1) := by decide +kernel
theorem dL_count_14 : decode cL_count 14 = .ok (.ireturn, 1) := by decide +kernel
theorem dL_count_15 : decode cL_count 15 = .ok (.iconst 0, 1) := by decide +kernel
theorem dL_count_16 : decode cL_count 16 = .ok (.ireturn, 1) := by decide +kernel
theorem dL_ifAsked_0 : decode cL_ifAsked 0 = .ok (.aload 5, 2) := by decide +kernel
theorem dL_ifAsked_2 : decode cL_ifAsked 2 = .ok (.iconst 0, 1) := by decide +kernel
theorem dL_ifAsked_3 : decode cL_ifAsked 3 = .ok (.aload_n 0, 1) := by decide +kernel
theorem dL_ifAsked_4 : decode cL_ifAsked 4 = .ok (.iload_n 1, 1) := by decide +kernel
theorem dL_ifAsked_5 : decode cL_ifAsked 5 = .ok (.iload_n 2, 1) := by decide +kernel
theorem dL_ifAsked_6 : decode cL_ifAsked 6 = .ok (.iload_n 3, 1) := by decide +kernel
theorem dL_ifAsked_7 : decode cL_ifAsked 7 = .ok (.iload 4, 2) := by decide +kernel
theorem dL_ifAsked_9 : decode cL_ifAsked 9 = .ok (.invokevirtual 61, 3) := by decide +kernel
theorem dL_ifAsked_12 : decode cL_ifAsked 12 = .ok (.i2l, 1) := by decide +kernel
theorem dL_ifAsked_13 : decode cL_ifAsked 13 = .ok (.lastore, 1) := by decide +kernel
theorem dL_ifAsked_14 : decode cL_ifAsked 14 = .ok (.goto 7, 3) := by decide +kernel
theorem dL_ifAsked_17 : decode cL_ifAsked 17 = .ok (.astore 6, 2) := by decide +kernel
theorem dL_ifAsked_19 : decode cL_ifAsked 19 = .ok (.iconst 1, 1) := by decide +kernel
theorem dL_ifAsked_20 : decode cL_ifAsked 20 = .ok (.ireturn, 1) := by decide +kernel
theorem dL_ifAsked_21 : decode cL_ifAsked 21 = .ok (.iconst 0, 1) := by decide +kernel
theorem dL_ifAsked_22 : decode cL_ifAsked 22 = .ok (.ireturn, 1) := by decide +kernel
theorem dL_lies_0 : decode cL_lies 0 = .ok (.aload_n 2, 1) := by decide +kernel
theorem dL_lies_1 : decode cL_lies 1 = .ok (.iconst 0, 1) := by decide +kernel
theorem dL_lies_2 : decode cL_lies 2 = .ok (.aload_n 0, 1) := by decide +kernel
theorem dL_lies_3 : decode cL_lies 3 = .ok (.iload_n 1, 1) := by decide +kernel
theorem dL_lies_4 : decode cL_lies 4 = .ok (.invokevirtual 65, 3) := by decide +kernel
theorem dL_lies_7 : decode cL_lies 7 = .ok (.i2l, 1) := by decide +kernel
theorem dL_lies_8 : decode cL_lies 8 = .ok (.lastore, 1) := by decide +kernel
theorem dL_lies_9 : decode cL_lies 9 = .ok (.goto 6, 3) := by decide +kernel
theorem dL_lies_12 : decode cL_lies 12 = .ok (.astore_n 3, 1) := by decide +kernel
theorem dL_lies_13 : decode cL_lies 13 = .ok (.iconst 1, 1) := by decide +kernel
theorem dL_lies_14 : decode cL_lies 14 = .ok (.ireturn, 1) := by decide +kernel
theorem dL_lies_15 : decode cL_lies 15 = .ok (.iconst 0, 1) := by decide +kernel
theorem dL_lies_16 : decode cL_lies 16 = .ok (.ireturn, 1) := by decide +kernel
theorem dL_cheapest_0 : decode cL_cheapest 0 = .ok (.aload_n 2, 1) := by decide +kernel
theorem dL_cheapest_1 : decode cL_cheapest 1 = .ok (.iconst 0, 1) := by decide +kernel
theorem dL_cheapest_2 : decode cL_cheapest 2 = .ok (.aload_n 0, 1) := by decide +kernel
theorem dL_cheapest_3 : decode cL_cheapest 3 = .ok (.iload_n 1, 1) := by decide +kernel
theorem dL_cheapest_4 : decode cL_cheapest 4 = .ok (.invokevirtual 68, 3) := by decide +kernel
theorem dL_cheapest_7 : decode cL_cheapest 7 = .ok (.i2l, 1) := by decide +kernel
theorem dL_cheapest_8 : decode cL_cheapest 8 = .ok (.lastore, 1) := by decide +kernel
theorem dL_cheapest_9 : decode cL_cheapest 9 = .ok (.goto 6, 3) := by decide +kernel
theorem dL_cheapest_12 : decode cL_cheapest 12 = .ok (.astore_n 3, 1) := by decide +kernel
theorem dL_cheapest_13 : decode cL_cheapest 13 = .ok (.iconst 1, 1) := by decide +kernel
theorem dL_cheapest_14 : decode cL_cheapest 14 = .ok (.ireturn, 1) := by decide +kernel
theorem dL_cheapest_15 : decode cL_cheapest 15 = .ok (.iconst 0, 1) := by decide +kernel
theorem dL_cheapest_16 : decode cL_cheapest 16 = .ok (.ireturn, 1) := by decide +kernel
end
section
theorem dL_law_0 : decode cL_law 0 = .ok (.new 8, 3) := by decide +kernel
theorem dL_law_3 : decode cL_law 3 = .ok (.dup, 1) := by decide +kernel
theorem dL_law_4 : decode cL_law 4 = .ok (.invokespecial 71, 3) := by decide +kernel
theorem dL_law_7 : decode cL_law 7 = .ok (.astore_n 1, 1) := by decide +kernel
theorem dL_law_8 : decode cL_law 8 = .ok (.new 72, 3) := by decide +kernel
theorem dL_law_11 : decode cL_law 11 = .ok (.dup, 1) := by decide +kernel
theorem dL_law_12 : decode cL_law 12 = .ok (.invokespecial 74, 3) := by decide +kernel
theorem dL_law_15 : decode cL_law 15 = .ok (.astore_n 2, 1) := by decide +kernel
theorem dL_law_16 : decode cL_law 16 = .ok (.iconst 1, 1) := by decide +kernel
theorem dL_law_17 : decode cL_law 17 = .ok (.newarray .long, 2) := by decide +kernel
theorem dL_law_19 : decode cL_law 19 = .ok (.astore_n 3, 1) := by decide +kernel
theorem dL_law_20 : decode cL_law 20 = .ok (.iconst 0, 1) := by decide +kernel
theorem dL_law_21 : decode cL_law 21 = .ok (.istore 4, 2) := by decide +kernel
theorem dL_law_23 : decode cL_law 23 = .ok (.iload 4, 2) := by decide +kernel
theorem dL_law_25 : decode cL_law 25 = .ok (.aload_n 0, 1) := by decide +kernel
theorem dL_law_26 : decode cL_law 26 = .ok (.arraylength, 1) := by decide +kernel
theorem dL_law_27 : decode cL_law 27 = .ok (.iconst 5, 1) := by decide +kernel
theorem dL_law_28 : decode cL_law 28 = .ok (.isub, 1) := by decide +kernel
theorem dL_law_29 : decode cL_law 29 = .ok (.if_icmp .gt 1264, 3) := by decide +kernel
theorem dL_law_32 : decode cL_law 32 = .ok (.aload_n 0, 1) := by decide +kernel
theorem dL_law_33 : decode cL_law 33 = .ok (.iload 4, 2) := by decide +kernel
theorem dL_law_35 : decode cL_law 35 = .ok (.iaload, 1) := by decide +kernel
theorem dL_law_36 : decode cL_law 36 = .ok (.bipush 31, 2) := by decide +kernel
theorem dL_law_38 : decode cL_law 38 = .ok (.iand, 1) := by decide +kernel
theorem dL_law_39 : decode cL_law 39 = .ok (.tableswitch 1248 0 22 #[105, 161, 217, 285, 341, 397, 453, 466, 546, 602, 615, 628, 672, 716, 784, 852, 920, 976, 1068, 1124, 1180, 1193, 1234], 105) := by decide +kernel
theorem dL_law_144 : decode cL_law 144 = .ok (.aload_n 1, 1) := by decide +kernel
theorem dL_law_145 : decode cL_law 145 = .ok (.aload_n 0, 1) := by decide +kernel
theorem dL_law_146 : decode cL_law 146 = .ok (.iload 4, 2) := by decide +kernel
theorem dL_law_148 : decode cL_law 148 = .ok (.iconst 1, 1) := by decide +kernel
theorem dL_law_149 : decode cL_law 149 = .ok (.iadd, 1) := by decide +kernel
theorem dL_law_150 : decode cL_law 150 = .ok (.iaload, 1) := by decide +kernel
theorem dL_law_151 : decode cL_law 151 = .ok (.aload_n 3, 1) := by decide +kernel
theorem dL_law_152 : decode cL_law 152 = .ok (.invokestatic 75, 3) := by decide +kernel
theorem dL_law_155 : decode cL_law 155 = .ok (.istore 5, 2) := by decide +kernel
theorem dL_law_157 : decode cL_law 157 = .ok (.aload_n 2, 1) := by decide +kernel
theorem dL_law_158 : decode cL_law 158 = .ok (.aload_n 0, 1) := by decide +kernel
theorem dL_law_159 : decode cL_law 159 = .ok (.iload 4, 2) := by decide +kernel
theorem dL_law_161 : decode cL_law 161 = .ok (.iconst 1, 1) := by decide +kernel
theorem dL_law_162 : decode cL_law 162 = .ok (.iadd, 1) := by decide +kernel
theorem dL_law_163 : decode cL_law 163 = .ok (.iaload, 1) := by decide +kernel
theorem dL_law_164 : decode cL_law 164 = .ok (.invokevirtual 80, 3) := by decide +kernel
theorem dL_law_167 : decode cL_law 167 = .ok (.istore 6, 2) := by decide +kernel
theorem dL_law_169 : decode cL_law 169 = .ok (.aload_n 2, 1) := by decide +kernel
theorem dL_law_170 : decode cL_law 170 = .ok (.invokevirtual 81, 3) := by decide +kernel
theorem dL_law_173 : decode cL_law 173 = .ok (.iload 5, 2) := by decide +kernel
theorem dL_law_175 : decode cL_law 175 = .ok (.if_icmp .eq 5, 3) := by decide +kernel
theorem dL_law_178 : decode cL_law 178 = .ok (.iconst 0, 1) := by decide +kernel
theorem dL_law_179 : decode cL_law 179 = .ok (.ireturn, 1) := by decide +kernel
theorem dL_law_180 : decode cL_law 180 = .ok (.iload 5, 2) := by decide +kernel
theorem dL_law_182 : decode cL_law 182 = .ok (.ifCond .ne 15, 3) := by decide +kernel
theorem dL_law_185 : decode cL_law 185 = .ok (.aload_n 3, 1) := by decide +kernel
theorem dL_law_186 : decode cL_law 186 = .ok (.iconst 0, 1) := by decide +kernel
theorem dL_law_187 : decode cL_law 187 = .ok (.laload, 1) := by decide +kernel
theorem dL_law_188 : decode cL_law 188 = .ok (.iload 6, 2) := by decide +kernel
theorem dL_law_190 : decode cL_law 190 = .ok (.i2l, 1) := by decide +kernel
theorem dL_law_191 : decode cL_law 191 = .ok (.lcmp, 1) := by decide +kernel
theorem dL_law_192 : decode cL_law 192 = .ok (.ifCond .eq 5, 3) := by decide +kernel
theorem dL_law_195 : decode cL_law 195 = .ok (.iconst 0, 1) := by decide +kernel
theorem dL_law_196 : decode cL_law 196 = .ok (.ireturn, 1) := by decide +kernel
theorem dL_law_197 : decode cL_law 197 = .ok (.goto 1090, 3) := by decide +kernel
theorem dL_law_200 : decode cL_law 200 = .ok (.aload_n 1, 1) := by decide +kernel
theorem dL_law_201 : decode cL_law 201 = .ok (.aload_n 0, 1) := by decide +kernel
theorem dL_law_202 : decode cL_law 202 = .ok (.iload 4, 2) := by decide +kernel
theorem dL_law_204 : decode cL_law 204 = .ok (.iconst 1, 1) := by decide +kernel
theorem dL_law_205 : decode cL_law 205 = .ok (.iadd, 1) := by decide +kernel
theorem dL_law_206 : decode cL_law 206 = .ok (.iaload, 1) := by decide +kernel
theorem dL_law_207 : decode cL_law 207 = .ok (.aload_n 3, 1) := by decide +kernel
theorem dL_law_208 : decode cL_law 208 = .ok (.invokestatic 84, 3) := by decide +kernel
theorem dL_law_211 : decode cL_law 211 = .ok (.istore 5, 2) := by decide +kernel
theorem dL_law_213 : decode cL_law 213 = .ok (.aload_n 2, 1) := by decide +kernel
theorem dL_law_214 : decode cL_law 214 = .ok (.aload_n 0, 1) := by decide +kernel
theorem dL_law_215 : decode cL_law 215 = .ok (.iload 4, 2) := by decide +kernel
theorem dL_law_217 : decode cL_law 217 = .ok (.iconst 1, 1) := by decide +kernel
theorem dL_law_218 : decode cL_law 218 = .ok (.iadd, 1) := by decide +kernel
theorem dL_law_219 : decode cL_law 219 = .ok (.iaload, 1) := by decide +kernel
theorem dL_law_220 : decode cL_law 220 = .ok (.invokevirtual 86, 3) := by decide +kernel
theorem dL_law_223 : decode cL_law 223 = .ok (.istore 6, 2) := by decide +kernel
theorem dL_law_225 : decode cL_law 225 = .ok (.aload_n 2, 1) := by decide +kernel
theorem dL_law_226 : decode cL_law 226 = .ok (.invokevirtual 81, 3) := by decide +kernel
theorem dL_law_229 : decode cL_law 229 = .ok (.iload 5, 2) := by decide +kernel
theorem dL_law_231 : decode cL_law 231 = .ok (.if_icmp .eq 5, 3) := by decide +kernel
theorem dL_law_234 : decode cL_law 234 = .ok (.iconst 0, 1) := by decide +kernel
theorem dL_law_235 : decode cL_law 235 = .ok (.ireturn, 1) := by decide +kernel
theorem dL_law_236 : decode cL_law 236 = .ok (.iload 5, 2) := by decide +kernel
theorem dL_law_238 : decode cL_law 238 = .ok (.ifCond .ne 15, 3) := by decide +kernel
theorem dL_law_241 : decode cL_law 241 = .ok (.aload_n 3, 1) := by decide +kernel
theorem dL_law_242 : decode cL_law 242 = .ok (.iconst 0, 1) := by decide +kernel
theorem dL_law_243 : decode cL_law 243 = .ok (.laload, 1) := by decide +kernel
theorem dL_law_244 : decode cL_law 244 = .ok (.iload 6, 2) := by decide +kernel
theorem dL_law_246 : decode cL_law 246 = .ok (.i2l, 1) := by decide +kernel
theorem dL_law_247 : decode cL_law 247 = .ok (.lcmp, 1) := by decide +kernel
theorem dL_law_248 : decode cL_law 248 = .ok (.ifCond .eq 5, 3) := by decide +kernel
theorem dL_law_251 : decode cL_law 251 = .ok (.iconst 0, 1) := by decide +kernel
theorem dL_law_252 : decode cL_law 252 = .ok (.ireturn, 1) := by decide +kernel
theorem dL_law_253 : decode cL_law 253 = .ok (.goto 1034, 3) := by decide +kernel
theorem dL_law_256 : decode cL_law 256 = .ok (.aload_n 1, 1) := by decide +kernel
theorem dL_law_257 : decode cL_law 257 = .ok (.aload_n 0, 1) := by decide +kernel
theorem dL_law_258 : decode cL_law 258 = .ok (.iload 4, 2) := by decide +kernel
theorem dL_law_260 : decode cL_law 260 = .ok (.iconst 1, 1) := by decide +kernel
theorem dL_law_261 : decode cL_law 261 = .ok (.iadd, 1) := by decide +kernel
theorem dL_law_262 : decode cL_law 262 = .ok (.iaload, 1) := by decide +kernel
theorem dL_law_263 : decode cL_law 263 = .ok (.aload_n 0, 1) := by decide +kernel
theorem dL_law_264 : decode cL_law 264 = .ok (.iload 4, 2) := by decide +kernel
theorem dL_law_266 : decode cL_law 266 = .ok (.iconst 2, 1) := by decide +kernel
theorem dL_law_267 : decode cL_law 267 = .ok (.iadd, 1) := by decide +kernel
theorem dL_law_268 : decode cL_law 268 = .ok (.iaload, 1) := by decide +kernel
theorem dL_law_269 : decode cL_law 269 = .ok (.aload_n 3, 1) := by decide +kernel
theorem dL_law_270 : decode cL_law 270 = .ok (.invokestatic 87, 3) := by decide +kernel
theorem dL_law_273 : decode cL_law 273 = .ok (.istore 5, 2) := by decide +kernel
theorem dL_law_275 : decode cL_law 275 = .ok (.aload_n 2, 1) := by decide +kernel
theorem dL_law_276 : decode cL_law 276 = .ok (.aload_n 0, 1) := by decide +kernel
theorem dL_law_277 : decode cL_law 277 = .ok (.iload 4, 2) := by decide +kernel
theorem dL_law_279 : decode cL_law 279 = .ok (.iconst 1, 1) := by decide +kernel
theorem dL_law_280 : decode cL_law 280 = .ok (.iadd, 1) := by decide +kernel
theorem dL_law_281 : decode cL_law 281 = .ok (.iaload, 1) := by decide +kernel
theorem dL_law_282 : decode cL_law 282 = .ok (.aload_n 0, 1) := by decide +kernel
theorem dL_law_283 : decode cL_law 283 = .ok (.iload 4, 2) := by decide +kernel
theorem dL_law_285 : decode cL_law 285 = .ok (.iconst 2, 1) := by decide +kernel
theorem dL_law_286 : decode cL_law 286 = .ok (.iadd, 1) := by decide +kernel
theorem dL_law_287 : decode cL_law 287 = .ok (.iaload, 1) := by decide +kernel
theorem dL_law_288 : decode cL_law 288 = .ok (.invokevirtual 90, 3) := by decide +kernel
theorem dL_law_291 : decode cL_law 291 = .ok (.istore 6, 2) := by decide +kernel
theorem dL_law_293 : decode cL_law 293 = .ok (.aload_n 2, 1) := by decide +kernel
theorem dL_law_294 : decode cL_law 294 = .ok (.invokevirtual 81, 3) := by decide +kernel
theorem dL_law_297 : decode cL_law 297 = .ok (.iload 5, 2) := by decide +kernel
theorem dL_law_299 : decode cL_law 299 = .ok (.if_icmp .eq 5, 3) := by decide +kernel
theorem dL_law_302 : decode cL_law 302 = .ok (.iconst 0, 1) := by decide +kernel
theorem dL_law_303 : decode cL_law 303 = .ok (.ireturn, 1) := by decide +kernel
theorem dL_law_304 : decode cL_law 304 = .ok (.iload 5, 2) := by decide +kernel
theorem dL_law_306 : decode cL_law 306 = .ok (.ifCond .ne 15, 3) := by decide +kernel
theorem dL_law_309 : decode cL_law 309 = .ok (.aload_n 3, 1) := by decide +kernel
theorem dL_law_310 : decode cL_law 310 = .ok (.iconst 0, 1) := by decide +kernel
theorem dL_law_311 : decode cL_law 311 = .ok (.laload, 1) := by decide +kernel
theorem dL_law_312 : decode cL_law 312 = .ok (.iload 6, 2) := by decide +kernel
theorem dL_law_314 : decode cL_law 314 = .ok (.i2l, 1) := by decide +kernel
theorem dL_law_315 : decode cL_law 315 = .ok (.lcmp, 1) := by decide +kernel
theorem dL_law_316 : decode cL_law 316 = .ok (.ifCond .eq 5, 3) := by decide +kernel
theorem dL_law_319 : decode cL_law 319 = .ok (.iconst 0, 1) := by decide +kernel
theorem dL_law_320 : decode cL_law 320 = .ok (.ireturn, 1) := by decide +kernel
theorem dL_law_321 : decode cL_law 321 = .ok (.goto 966, 3) := by decide +kernel
theorem dL_law_324 : decode cL_law 324 = .ok (.aload_n 1, 1) := by decide +kernel
theorem dL_law_325 : decode cL_law 325 = .ok (.aload_n 0, 1) := by decide +kernel
theorem dL_law_326 : decode cL_law 326 = .ok (.iload 4, 2) := by decide +kernel
theorem dL_law_328 : decode cL_law 328 = .ok (.iconst 1, 1) := by decide +kernel
theorem dL_law_329 : decode cL_law 329 = .ok (.iadd, 1) := by decide +kernel
theorem dL_law_330 : decode cL_law 330 = .ok (.iaload, 1) := by decide +kernel
theorem dL_law_331 : decode cL_law 331 = .ok (.aload_n 3, 1) := by decide +kernel
theorem dL_law_332 : decode cL_law 332 = .ok (.invokestatic 91, 3) := by decide +kernel
theorem dL_law_335 : decode cL_law 335 = .ok (.istore 5, 2) := by decide +kernel
theorem dL_law_337 : decode cL_law 337 = .ok (.aload_n 2, 1) := by decide +kernel
theorem dL_law_338 : decode cL_law 338 = .ok (.aload_n 0, 1) := by decide +kernel
theorem dL_law_339 : decode cL_law 339 = .ok (.iload 4, 2) := by decide +kernel
theorem dL_law_341 : decode cL_law 341 = .ok (.iconst 1, 1) := by decide +kernel
theorem dL_law_342 : decode cL_law 342 = .ok (.iadd, 1) := by decide +kernel
theorem dL_law_343 : decode cL_law 343 = .ok (.iaload, 1) := by decide +kernel
theorem dL_law_344 : decode cL_law 344 = .ok (.invokevirtual 93, 3) := by decide +kernel
theorem dL_law_347 : decode cL_law 347 = .ok (.istore 6, 2) := by decide +kernel
theorem dL_law_349 : decode cL_law 349 = .ok (.aload_n 2, 1) := by decide +kernel
theorem dL_law_350 : decode cL_law 350 = .ok (.invokevirtual 81, 3) := by decide +kernel
theorem dL_law_353 : decode cL_law 353 = .ok (.iload 5, 2) := by decide +kernel
theorem dL_law_355 : decode cL_law 355 = .ok (.if_icmp .eq 5, 3) := by decide +kernel
theorem dL_law_358 : decode cL_law 358 = .ok (.iconst 0, 1) := by decide +kernel
theorem dL_law_359 : decode cL_law 359 = .ok (.ireturn, 1) := by decide +kernel
theorem dL_law_360 : decode cL_law 360 = .ok (.iload 5, 2) := by decide +kernel
theorem dL_law_362 : decode cL_law 362 = .ok (.ifCond .ne 15, 3) := by decide +kernel
theorem dL_law_365 : decode cL_law 365 = .ok (.aload_n 3, 1) := by decide +kernel
theorem dL_law_366 : decode cL_law 366 = .ok (.iconst 0, 1) := by decide +kernel
theorem dL_law_367 : decode cL_law 367 = .ok (.laload, 1) := by decide +kernel
theorem dL_law_368 : decode cL_law 368 = .ok (.iload 6, 2) := by decide +kernel
theorem dL_law_370 : decode cL_law 370 = .ok (.i2l, 1) := by decide +kernel
theorem dL_law_371 : decode cL_law 371 = .ok (.lcmp, 1) := by decide +kernel
theorem dL_law_372 : decode cL_law 372 = .ok (.ifCond .eq 5, 3) := by decide +kernel
theorem dL_law_375 : decode cL_law 375 = .ok (.iconst 0, 1) := by decide +kernel
theorem dL_law_376 : decode cL_law 376 = .ok (.ireturn, 1) := by decide +kernel
theorem dL_law_377 : decode cL_law 377 = .ok (.goto 910, 3) := by decide +kernel
theorem dL_law_380 : decode cL_law 380 = .ok (.aload_n 1, 1) := by decide +kernel
theorem dL_law_381 : decode cL_law 381 = .ok (.aload_n 0, 1) := by decide +kernel
theorem dL_law_382 : decode cL_law 382 = .ok (.iload 4, 2) := by decide +kernel
theorem dL_law_384 : decode cL_law 384 = .ok (.iconst 1, 1) := by decide +kernel
theorem dL_law_385 : decode cL_law 385 = .ok (.iadd, 1) := by decide +kernel
theorem dL_law_386 : decode cL_law 386 = .ok (.iaload, 1) := by decide +kernel
theorem dL_law_387 : decode cL_law 387 = .ok (.aload_n 3, 1) := by decide +kernel
theorem dL_law_388 : decode cL_law 388 = .ok (.invokestatic 94, 3) := by decide +kernel
theorem dL_law_391 : decode cL_law 391 = .ok (.istore 5, 2) := by decide +kernel
theorem dL_law_393 : decode cL_law 393 = .ok (.aload_n 2, 1) := by decide +kernel
theorem dL_law_394 : decode cL_law 394 = .ok (.aload_n 0, 1) := by decide +kernel
theorem dL_law_395 : decode cL_law 395 = .ok (.iload 4, 2) := by decide +kernel
theorem dL_law_397 : decode cL_law 397 = .ok (.iconst 1, 1) := by decide +kernel
theorem dL_law_398 : decode cL_law 398 = .ok (.iadd, 1) := by decide +kernel
theorem dL_law_399 : decode cL_law 399 = .ok (.iaload, 1) := by decide +kernel
theorem dL_law_400 : decode cL_law 400 = .ok (.invokevirtual 96, 3) := by decide +kernel
theorem dL_law_403 : decode cL_law 403 = .ok (.istore 6, 2) := by decide +kernel
theorem dL_law_405 : decode cL_law 405 = .ok (.aload_n 2, 1) := by decide +kernel
theorem dL_law_406 : decode cL_law 406 = .ok (.invokevirtual 81, 3) := by decide +kernel
theorem dL_law_409 : decode cL_law 409 = .ok (.iload 5, 2) := by decide +kernel
theorem dL_law_411 : decode cL_law 411 = .ok (.if_icmp .eq 5, 3) := by decide +kernel
theorem dL_law_414 : decode cL_law 414 = .ok (.iconst 0, 1) := by decide +kernel
theorem dL_law_415 : decode cL_law 415 = .ok (.ireturn, 1) := by decide +kernel
theorem dL_law_416 : decode cL_law 416 = .ok (.iload 5, 2) := by decide +kernel
theorem dL_law_418 : decode cL_law 418 = .ok (.ifCond .ne 15, 3) := by decide +kernel
theorem dL_law_421 : decode cL_law 421 = .ok (.aload_n 3, 1) := by decide +kernel
theorem dL_law_422 : decode cL_law 422 = .ok (.iconst 0, 1) := by decide +kernel
theorem dL_law_423 : decode cL_law 423 = .ok (.laload, 1) := by decide +kernel
theorem dL_law_424 : decode cL_law 424 = .ok (.iload 6, 2) := by decide +kernel
theorem dL_law_426 : decode cL_law 426 = .ok (.i2l, 1) := by decide +kernel
theorem dL_law_427 : decode cL_law 427 = .ok (.lcmp, 1) := by decide +kernel
theorem dL_law_428 : decode cL_law 428 = .ok (.ifCond .eq 5, 3) := by decide +kernel
theorem dL_law_431 : decode cL_law 431 = .ok (.iconst 0, 1) := by decide +kernel
theorem dL_law_432 : decode cL_law 432 = .ok (.ireturn, 1) := by decide +kernel
theorem dL_law_433 : decode cL_law 433 = .ok (.goto 854, 3) := by decide +kernel
theorem dL_law_436 : decode cL_law 436 = .ok (.aload_n 1, 1) := by decide +kernel
theorem dL_law_437 : decode cL_law 437 = .ok (.aload_n 0, 1) := by decide +kernel
theorem dL_law_438 : decode cL_law 438 = .ok (.iload 4, 2) := by decide +kernel
theorem dL_law_440 : decode cL_law 440 = .ok (.iconst 1, 1) := by decide +kernel
theorem dL_law_441 : decode cL_law 441 = .ok (.iadd, 1) := by decide +kernel
theorem dL_law_442 : decode cL_law 442 = .ok (.iaload, 1) := by decide +kernel
theorem dL_law_443 : decode cL_law 443 = .ok (.aload_n 3, 1) := by decide +kernel
theorem dL_law_444 : decode cL_law 444 = .ok (.invokestatic 97, 3) := by decide +kernel
theorem dL_law_447 : decode cL_law 447 = .ok (.istore 5, 2) := by decide +kernel
theorem dL_law_449 : decode cL_law 449 = .ok (.aload_n 2, 1) := by decide +kernel
theorem dL_law_450 : decode cL_law 450 = .ok (.aload_n 0, 1) := by decide +kernel
theorem dL_law_451 : decode cL_law 451 = .ok (.iload 4, 2) := by decide +kernel
theorem dL_law_453 : decode cL_law 453 = .ok (.iconst 1, 1) := by decide +kernel
theorem dL_law_454 : decode cL_law 454 = .ok (.iadd, 1) := by decide +kernel
theorem dL_law_455 : decode cL_law 455 = .ok (.iaload, 1) := by decide +kernel
theorem dL_law_456 : decode cL_law 456 = .ok (.invokevirtual 99, 3) := by decide +kernel
theorem dL_law_459 : decode cL_law 459 = .ok (.istore 6, 2) := by decide +kernel
theorem dL_law_461 : decode cL_law 461 = .ok (.aload_n 2, 1) := by decide +kernel
theorem dL_law_462 : decode cL_law 462 = .ok (.invokevirtual 81, 3) := by decide +kernel
theorem dL_law_465 : decode cL_law 465 = .ok (.iload 5, 2) := by decide +kernel
theorem dL_law_467 : decode cL_law 467 = .ok (.if_icmp .eq 5, 3) := by decide +kernel
theorem dL_law_470 : decode cL_law 470 = .ok (.iconst 0, 1) := by decide +kernel
theorem dL_law_471 : decode cL_law 471 = .ok (.ireturn, 1) := by decide +kernel
theorem dL_law_472 : decode cL_law 472 = .ok (.iload 5, 2) := by decide +kernel
theorem dL_law_474 : decode cL_law 474 = .ok (.ifCond .ne 15, 3) := by decide +kernel
theorem dL_law_477 : decode cL_law 477 = .ok (.aload_n 3, 1) := by decide +kernel
theorem dL_law_478 : decode cL_law 478 = .ok (.iconst 0, 1) := by decide +kernel
theorem dL_law_479 : decode cL_law 479 = .ok (.laload, 1) := by decide +kernel
theorem dL_law_480 : decode cL_law 480 = .ok (.iload 6, 2) := by decide +kernel
theorem dL_law_482 : decode cL_law 482 = .ok (.i2l, 1) := by decide +kernel
theorem dL_law_483 : decode cL_law 483 = .ok (.lcmp, 1) := by decide +kernel
theorem dL_law_484 : decode cL_law 484 = .ok (.ifCond .eq 5, 3) := by decide +kernel
theorem dL_law_487 : decode cL_law 487 = .ok (.iconst 0, 1) := by decide +kernel
theorem dL_law_488 : decode cL_law 488 = .ok (.ireturn, 1) := by decide +kernel
theorem dL_law_489 : decode cL_law 489 = .ok (.goto 798, 3) := by decide +kernel
theorem dL_law_492 : decode cL_law 492 = .ok (.aload_n 1, 1) := by decide +kernel
theorem dL_law_493 : decode cL_law 493 = .ok (.invokevirtual 100, 3) := by decide +kernel
theorem dL_law_496 : decode cL_law 496 = .ok (.aload_n 2, 1) := by decide +kernel
theorem dL_law_497 : decode cL_law 497 = .ok (.invokevirtual 103, 3) := by decide +kernel
theorem dL_law_500 : decode cL_law 500 = .ok (.if_icmp .eq 787, 3) := by decide +kernel
theorem dL_law_503 : decode cL_law 503 = .ok (.iconst 0, 1) := by decide +kernel
theorem dL_law_504 : decode cL_law 504 = .ok (.ireturn, 1) := by decide +kernel
theorem dL_law_505 : decode cL_law 505 = .ok (.aload_n 1, 1) := by decide +kernel
theorem dL_law_506 : decode cL_law 506 = .ok (.aload_n 0, 1) := by decide +kernel
theorem dL_law_507 : decode cL_law 507 = .ok (.iload 4, 2) := by decide +kernel
theorem dL_law_509 : decode cL_law 509 = .ok (.iconst 1, 1) := by decide +kernel
theorem dL_law_510 : decode cL_law 510 = .ok (.iadd, 1) := by decide +kernel
theorem dL_law_511 : decode cL_law 511 = .ok (.iaload, 1) := by decide +kernel
theorem dL_law_512 : decode cL_law 512 = .ok (.aload_n 0, 1) := by decide +kernel
theorem dL_law_513 : decode cL_law 513 = .ok (.iload 4, 2) := by decide +kernel
theorem dL_law_515 : decode cL_law 515 = .ok (.iconst 2, 1) := by decide +kernel
theorem dL_law_516 : decode cL_law 516 = .ok (.iadd, 1) := by decide +kernel
theorem dL_law_517 : decode cL_law 517 = .ok (.iaload, 1) := by decide +kernel
theorem dL_law_518 : decode cL_law 518 = .ok (.aload_n 0, 1) := by decide +kernel
theorem dL_law_519 : decode cL_law 519 = .ok (.iload 4, 2) := by decide +kernel
theorem dL_law_521 : decode cL_law 521 = .ok (.iconst 3, 1) := by decide +kernel
theorem dL_law_522 : decode cL_law 522 = .ok (.iadd, 1) := by decide +kernel
theorem dL_law_523 : decode cL_law 523 = .ok (.iaload, 1) := by decide +kernel
theorem dL_law_524 : decode cL_law 524 = .ok (.aload_n 3, 1) := by decide +kernel
theorem dL_law_525 : decode cL_law 525 = .ok (.invokestatic 104, 3) := by decide +kernel
theorem dL_law_528 : decode cL_law 528 = .ok (.istore 5, 2) := by decide +kernel
theorem dL_law_530 : decode cL_law 530 = .ok (.aload_n 2, 1) := by decide +kernel
theorem dL_law_531 : decode cL_law 531 = .ok (.aload_n 0, 1) := by decide +kernel
theorem dL_law_532 : decode cL_law 532 = .ok (.iload 4, 2) := by decide +kernel
theorem dL_law_534 : decode cL_law 534 = .ok (.iconst 1, 1) := by decide +kernel
theorem dL_law_535 : decode cL_law 535 = .ok (.iadd, 1) := by decide +kernel
theorem dL_law_536 : decode cL_law 536 = .ok (.iaload, 1) := by decide +kernel
theorem dL_law_537 : decode cL_law 537 = .ok (.aload_n 0, 1) := by decide +kernel
theorem dL_law_538 : decode cL_law 538 = .ok (.iload 4, 2) := by decide +kernel
theorem dL_law_540 : decode cL_law 540 = .ok (.iconst 2, 1) := by decide +kernel
theorem dL_law_541 : decode cL_law 541 = .ok (.iadd, 1) := by decide +kernel
theorem dL_law_542 : decode cL_law 542 = .ok (.iaload, 1) := by decide +kernel
theorem dL_law_543 : decode cL_law 543 = .ok (.aload_n 0, 1) := by decide +kernel
theorem dL_law_544 : decode cL_law 544 = .ok (.iload 4, 2) := by decide +kernel
theorem dL_law_546 : decode cL_law 546 = .ok (.iconst 3, 1) := by decide +kernel
theorem dL_law_547 : decode cL_law 547 = .ok (.iadd, 1) := by decide +kernel
theorem dL_law_548 : decode cL_law 548 = .ok (.iaload, 1) := by decide +kernel
theorem dL_law_549 : decode cL_law 549 = .ok (.invokevirtual 107, 3) := by decide +kernel
theorem dL_law_552 : decode cL_law 552 = .ok (.istore 6, 2) := by decide +kernel
theorem dL_law_554 : decode cL_law 554 = .ok (.aload_n 2, 1) := by decide +kernel
theorem dL_law_555 : decode cL_law 555 = .ok (.invokevirtual 81, 3) := by decide +kernel
theorem dL_law_558 : decode cL_law 558 = .ok (.iload 5, 2) := by decide +kernel
theorem dL_law_560 : decode cL_law 560 = .ok (.if_icmp .eq 5, 3) := by decide +kernel
theorem dL_law_563 : decode cL_law 563 = .ok (.iconst 0, 1) := by decide +kernel
theorem dL_law_564 : decode cL_law 564 = .ok (.ireturn, 1) := by decide +kernel
theorem dL_law_565 : decode cL_law 565 = .ok (.iload 5, 2) := by decide +kernel
theorem dL_law_567 : decode cL_law 567 = .ok (.ifCond .ne 15, 3) := by decide +kernel
theorem dL_law_570 : decode cL_law 570 = .ok (.aload_n 3, 1) := by decide +kernel
theorem dL_law_571 : decode cL_law 571 = .ok (.iconst 0, 1) := by decide +kernel
theorem dL_law_572 : decode cL_law 572 = .ok (.laload, 1) := by decide +kernel
theorem dL_law_573 : decode cL_law 573 = .ok (.iload 6, 2) := by decide +kernel
theorem dL_law_575 : decode cL_law 575 = .ok (.i2l, 1) := by decide +kernel
theorem dL_law_576 : decode cL_law 576 = .ok (.lcmp, 1) := by decide +kernel
theorem dL_law_577 : decode cL_law 577 = .ok (.ifCond .eq 5, 3) := by decide +kernel
theorem dL_law_580 : decode cL_law 580 = .ok (.iconst 0, 1) := by decide +kernel
theorem dL_law_581 : decode cL_law 581 = .ok (.ireturn, 1) := by decide +kernel
theorem dL_law_582 : decode cL_law 582 = .ok (.goto 705, 3) := by decide +kernel
theorem dL_law_585 : decode cL_law 585 = .ok (.aload_n 1, 1) := by decide +kernel
theorem dL_law_586 : decode cL_law 586 = .ok (.aload_n 0, 1) := by decide +kernel
theorem dL_law_587 : decode cL_law 587 = .ok (.iload 4, 2) := by decide +kernel
theorem dL_law_589 : decode cL_law 589 = .ok (.iconst 1, 1) := by decide +kernel
theorem dL_law_590 : decode cL_law 590 = .ok (.iadd, 1) := by decide +kernel
theorem dL_law_591 : decode cL_law 591 = .ok (.iaload, 1) := by decide +kernel
theorem dL_law_592 : decode cL_law 592 = .ok (.aload_n 3, 1) := by decide +kernel
theorem dL_law_593 : decode cL_law 593 = .ok (.invokestatic 108, 3) := by decide +kernel
theorem dL_law_596 : decode cL_law 596 = .ok (.istore 5, 2) := by decide +kernel
theorem dL_law_598 : decode cL_law 598 = .ok (.aload_n 2, 1) := by decide +kernel
theorem dL_law_599 : decode cL_law 599 = .ok (.aload_n 0, 1) := by decide +kernel
theorem dL_law_600 : decode cL_law 600 = .ok (.iload 4, 2) := by decide +kernel
theorem dL_law_602 : decode cL_law 602 = .ok (.iconst 1, 1) := by decide +kernel
theorem dL_law_603 : decode cL_law 603 = .ok (.iadd, 1) := by decide +kernel
theorem dL_law_604 : decode cL_law 604 = .ok (.iaload, 1) := by decide +kernel
theorem dL_law_605 : decode cL_law 605 = .ok (.invokevirtual 110, 3) := by decide +kernel
theorem dL_law_608 : decode cL_law 608 = .ok (.istore 6, 2) := by decide +kernel
theorem dL_law_610 : decode cL_law 610 = .ok (.aload_n 2, 1) := by decide +kernel
theorem dL_law_611 : decode cL_law 611 = .ok (.invokevirtual 81, 3) := by decide +kernel
theorem dL_law_614 : decode cL_law 614 = .ok (.iload 5, 2) := by decide +kernel
theorem dL_law_616 : decode cL_law 616 = .ok (.if_icmp .eq 5, 3) := by decide +kernel
theorem dL_law_619 : decode cL_law 619 = .ok (.iconst 0, 1) := by decide +kernel
theorem dL_law_620 : decode cL_law 620 = .ok (.ireturn, 1) := by decide +kernel
theorem dL_law_621 : decode cL_law 621 = .ok (.iload 5, 2) := by decide +kernel
theorem dL_law_623 : decode cL_law 623 = .ok (.ifCond .ne 15, 3) := by decide +kernel
theorem dL_law_626 : decode cL_law 626 = .ok (.aload_n 3, 1) := by decide +kernel
theorem dL_law_627 : decode cL_law 627 = .ok (.iconst 0, 1) := by decide +kernel
theorem dL_law_628 : decode cL_law 628 = .ok (.laload, 1) := by decide +kernel
theorem dL_law_629 : decode cL_law 629 = .ok (.iload 6, 2) := by decide +kernel
theorem dL_law_631 : decode cL_law 631 = .ok (.i2l, 1) := by decide +kernel
theorem dL_law_632 : decode cL_law 632 = .ok (.lcmp, 1) := by decide +kernel
theorem dL_law_633 : decode cL_law 633 = .ok (.ifCond .eq 5, 3) := by decide +kernel
theorem dL_law_636 : decode cL_law 636 = .ok (.iconst 0, 1) := by decide +kernel
theorem dL_law_637 : decode cL_law 637 = .ok (.ireturn, 1) := by decide +kernel
theorem dL_law_638 : decode cL_law 638 = .ok (.goto 649, 3) := by decide +kernel
theorem dL_law_641 : decode cL_law 641 = .ok (.aload_n 1, 1) := by decide +kernel
theorem dL_law_642 : decode cL_law 642 = .ok (.invokevirtual 111, 3) := by decide +kernel
theorem dL_law_645 : decode cL_law 645 = .ok (.aload_n 2, 1) := by decide +kernel
theorem dL_law_646 : decode cL_law 646 = .ok (.invokevirtual 114, 3) := by decide +kernel
theorem dL_law_649 : decode cL_law 649 = .ok (.if_icmp .eq 638, 3) := by decide +kernel
theorem dL_law_652 : decode cL_law 652 = .ok (.iconst 0, 1) := by decide +kernel
theorem dL_law_653 : decode cL_law 653 = .ok (.ireturn, 1) := by decide +kernel
theorem dL_law_654 : decode cL_law 654 = .ok (.aload_n 1, 1) := by decide +kernel
theorem dL_law_655 : decode cL_law 655 = .ok (.invokevirtual 115, 3) := by decide +kernel
theorem dL_law_658 : decode cL_law 658 = .ok (.aload_n 2, 1) := by decide +kernel
theorem dL_law_659 : decode cL_law 659 = .ok (.invokevirtual 118, 3) := by decide +kernel
theorem dL_law_662 : decode cL_law 662 = .ok (.if_icmp .eq 625, 3) := by decide +kernel
theorem dL_law_665 : decode cL_law 665 = .ok (.iconst 0, 1) := by decide +kernel
theorem dL_law_666 : decode cL_law 666 = .ok (.ireturn, 1) := by decide +kernel
theorem dL_law_667 : decode cL_law 667 = .ok (.aload_n 1, 1) := by decide +kernel
theorem dL_law_668 : decode cL_law 668 = .ok (.aload_n 3, 1) := by decide +kernel
theorem dL_law_669 : decode cL_law 669 = .ok (.invokestatic 119, 3) := by decide +kernel
theorem dL_law_672 : decode cL_law 672 = .ok (.istore 5, 2) := by decide +kernel
theorem dL_law_674 : decode cL_law 674 = .ok (.aload_n 2, 1) := by decide +kernel
theorem dL_law_675 : decode cL_law 675 = .ok (.invokevirtual 122, 3) := by decide +kernel
theorem dL_law_678 : decode cL_law 678 = .ok (.istore 6, 2) := by decide +kernel
theorem dL_law_680 : decode cL_law 680 = .ok (.aload_n 2, 1) := by decide +kernel
theorem dL_law_681 : decode cL_law 681 = .ok (.invokevirtual 81, 3) := by decide +kernel
theorem dL_law_684 : decode cL_law 684 = .ok (.iload 5, 2) := by decide +kernel
theorem dL_law_686 : decode cL_law 686 = .ok (.if_icmp .eq 5, 3) := by decide +kernel
theorem dL_law_689 : decode cL_law 689 = .ok (.iconst 0, 1) := by decide +kernel
theorem dL_law_690 : decode cL_law 690 = .ok (.ireturn, 1) := by decide +kernel
theorem dL_law_691 : decode cL_law 691 = .ok (.iload 5, 2) := by decide +kernel
theorem dL_law_693 : decode cL_law 693 = .ok (.ifCond .ne 15, 3) := by decide +kernel
theorem dL_law_696 : decode cL_law 696 = .ok (.aload_n 3, 1) := by decide +kernel
theorem dL_law_697 : decode cL_law 697 = .ok (.iconst 0, 1) := by decide +kernel
theorem dL_law_698 : decode cL_law 698 = .ok (.laload, 1) := by decide +kernel
theorem dL_law_699 : decode cL_law 699 = .ok (.iload 6, 2) := by decide +kernel
theorem dL_law_701 : decode cL_law 701 = .ok (.i2l, 1) := by decide +kernel
theorem dL_law_702 : decode cL_law 702 = .ok (.lcmp, 1) := by decide +kernel
theorem dL_law_703 : decode cL_law 703 = .ok (.ifCond .eq 5, 3) := by decide +kernel
theorem dL_law_706 : decode cL_law 706 = .ok (.iconst 0, 1) := by decide +kernel
theorem dL_law_707 : decode cL_law 707 = .ok (.ireturn, 1) := by decide +kernel
theorem dL_law_708 : decode cL_law 708 = .ok (.goto 579, 3) := by decide +kernel
theorem dL_law_711 : decode cL_law 711 = .ok (.aload_n 1, 1) := by decide +kernel
theorem dL_law_712 : decode cL_law 712 = .ok (.aload_n 3, 1) := by decide +kernel
theorem dL_law_713 : decode cL_law 713 = .ok (.invokestatic 123, 3) := by decide +kernel
theorem dL_law_716 : decode cL_law 716 = .ok (.istore 5, 2) := by decide +kernel
theorem dL_law_718 : decode cL_law 718 = .ok (.aload_n 2, 1) := by decide +kernel
theorem dL_law_719 : decode cL_law 719 = .ok (.invokevirtual 125, 3) := by decide +kernel
theorem dL_law_722 : decode cL_law 722 = .ok (.istore 6, 2) := by decide +kernel
theorem dL_law_724 : decode cL_law 724 = .ok (.aload_n 2, 1) := by decide +kernel
theorem dL_law_725 : decode cL_law 725 = .ok (.invokevirtual 81, 3) := by decide +kernel
theorem dL_law_728 : decode cL_law 728 = .ok (.iload 5, 2) := by decide +kernel
theorem dL_law_730 : decode cL_law 730 = .ok (.if_icmp .eq 5, 3) := by decide +kernel
theorem dL_law_733 : decode cL_law 733 = .ok (.iconst 0, 1) := by decide +kernel
theorem dL_law_734 : decode cL_law 734 = .ok (.ireturn, 1) := by decide +kernel
theorem dL_law_735 : decode cL_law 735 = .ok (.iload 5, 2) := by decide +kernel
theorem dL_law_737 : decode cL_law 737 = .ok (.ifCond .ne 15, 3) := by decide +kernel
theorem dL_law_740 : decode cL_law 740 = .ok (.aload_n 3, 1) := by decide +kernel
theorem dL_law_741 : decode cL_law 741 = .ok (.iconst 0, 1) := by decide +kernel
theorem dL_law_742 : decode cL_law 742 = .ok (.laload, 1) := by decide +kernel
theorem dL_law_743 : decode cL_law 743 = .ok (.iload 6, 2) := by decide +kernel
theorem dL_law_745 : decode cL_law 745 = .ok (.i2l, 1) := by decide +kernel
theorem dL_law_746 : decode cL_law 746 = .ok (.lcmp, 1) := by decide +kernel
theorem dL_law_747 : decode cL_law 747 = .ok (.ifCond .eq 5, 3) := by decide +kernel
theorem dL_law_750 : decode cL_law 750 = .ok (.iconst 0, 1) := by decide +kernel
theorem dL_law_751 : decode cL_law 751 = .ok (.ireturn, 1) := by decide +kernel
theorem dL_law_752 : decode cL_law 752 = .ok (.goto 535, 3) := by decide +kernel
theorem dL_law_755 : decode cL_law 755 = .ok (.aload_n 1, 1) := by decide +kernel
theorem dL_law_756 : decode cL_law 756 = .ok (.aload_n 0, 1) := by decide +kernel
theorem dL_law_757 : decode cL_law 757 = .ok (.iload 4, 2) := by decide +kernel
theorem dL_law_759 : decode cL_law 759 = .ok (.iconst 1, 1) := by decide +kernel
theorem dL_law_760 : decode cL_law 760 = .ok (.iadd, 1) := by decide +kernel
theorem dL_law_761 : decode cL_law 761 = .ok (.iaload, 1) := by decide +kernel
theorem dL_law_762 : decode cL_law 762 = .ok (.aload_n 0, 1) := by decide +kernel
theorem dL_law_763 : decode cL_law 763 = .ok (.iload 4, 2) := by decide +kernel
theorem dL_law_765 : decode cL_law 765 = .ok (.iconst 2, 1) := by decide +kernel
theorem dL_law_766 : decode cL_law 766 = .ok (.iadd, 1) := by decide +kernel
theorem dL_law_767 : decode cL_law 767 = .ok (.iaload, 1) := by decide +kernel
theorem dL_law_768 : decode cL_law 768 = .ok (.aload_n 3, 1) := by decide +kernel
theorem dL_law_769 : decode cL_law 769 = .ok (.invokestatic 126, 3) := by decide +kernel
theorem dL_law_772 : decode cL_law 772 = .ok (.istore 5, 2) := by decide +kernel
theorem dL_law_774 : decode cL_law 774 = .ok (.aload_n 2, 1) := by decide +kernel
theorem dL_law_775 : decode cL_law 775 = .ok (.aload_n 0, 1) := by decide +kernel
theorem dL_law_776 : decode cL_law 776 = .ok (.iload 4, 2) := by decide +kernel
theorem dL_law_778 : decode cL_law 778 = .ok (.iconst 1, 1) := by decide +kernel
theorem dL_law_779 : decode cL_law 779 = .ok (.iadd, 1) := by decide +kernel
theorem dL_law_780 : decode cL_law 780 = .ok (.iaload, 1) := by decide +kernel
theorem dL_law_781 : decode cL_law 781 = .ok (.aload_n 0, 1) := by decide +kernel
theorem dL_law_782 : decode cL_law 782 = .ok (.iload 4, 2) := by decide +kernel
theorem dL_law_784 : decode cL_law 784 = .ok (.iconst 2, 1) := by decide +kernel
theorem dL_law_785 : decode cL_law 785 = .ok (.iadd, 1) := by decide +kernel
theorem dL_law_786 : decode cL_law 786 = .ok (.iaload, 1) := by decide +kernel
theorem dL_law_787 : decode cL_law 787 = .ok (.invokevirtual 128, 3) := by decide +kernel
theorem dL_law_790 : decode cL_law 790 = .ok (.istore 6, 2) := by decide +kernel
theorem dL_law_792 : decode cL_law 792 = .ok (.aload_n 2, 1) := by decide +kernel
theorem dL_law_793 : decode cL_law 793 = .ok (.invokevirtual 81, 3) := by decide +kernel
theorem dL_law_796 : decode cL_law 796 = .ok (.iload 5, 2) := by decide +kernel
theorem dL_law_798 : decode cL_law 798 = .ok (.if_icmp .eq 5, 3) := by decide +kernel
theorem dL_law_801 : decode cL_law 801 = .ok (.iconst 0, 1) := by decide +kernel
theorem dL_law_802 : decode cL_law 802 = .ok (.ireturn, 1) := by decide +kernel
theorem dL_law_803 : decode cL_law 803 = .ok (.iload 5, 2) := by decide +kernel
theorem dL_law_805 : decode cL_law 805 = .ok (.ifCond .ne 15, 3) := by decide +kernel
theorem dL_law_808 : decode cL_law 808 = .ok (.aload_n 3, 1) := by decide +kernel
theorem dL_law_809 : decode cL_law 809 = .ok (.iconst 0, 1) := by decide +kernel
theorem dL_law_810 : decode cL_law 810 = .ok (.laload, 1) := by decide +kernel
theorem dL_law_811 : decode cL_law 811 = .ok (.iload 6, 2) := by decide +kernel
theorem dL_law_813 : decode cL_law 813 = .ok (.i2l, 1) := by decide +kernel
theorem dL_law_814 : decode cL_law 814 = .ok (.lcmp, 1) := by decide +kernel
theorem dL_law_815 : decode cL_law 815 = .ok (.ifCond .eq 5, 3) := by decide +kernel
theorem dL_law_818 : decode cL_law 818 = .ok (.iconst 0, 1) := by decide +kernel
theorem dL_law_819 : decode cL_law 819 = .ok (.ireturn, 1) := by decide +kernel
theorem dL_law_820 : decode cL_law 820 = .ok (.goto 467, 3) := by decide +kernel
theorem dL_law_823 : decode cL_law 823 = .ok (.aload_n 1, 1) := by decide +kernel
theorem dL_law_824 : decode cL_law 824 = .ok (.aload_n 0, 1) := by decide +kernel
theorem dL_law_825 : decode cL_law 825 = .ok (.iload 4, 2) := by decide +kernel
theorem dL_law_827 : decode cL_law 827 = .ok (.iconst 1, 1) := by decide +kernel
theorem dL_law_828 : decode cL_law 828 = .ok (.iadd, 1) := by decide +kernel
theorem dL_law_829 : decode cL_law 829 = .ok (.iaload, 1) := by decide +kernel
theorem dL_law_830 : decode cL_law 830 = .ok (.aload_n 0, 1) := by decide +kernel
theorem dL_law_831 : decode cL_law 831 = .ok (.iload 4, 2) := by decide +kernel
theorem dL_law_833 : decode cL_law 833 = .ok (.iconst 2, 1) := by decide +kernel
theorem dL_law_834 : decode cL_law 834 = .ok (.iadd, 1) := by decide +kernel
theorem dL_law_835 : decode cL_law 835 = .ok (.iaload, 1) := by decide +kernel
theorem dL_law_836 : decode cL_law 836 = .ok (.aload_n 3, 1) := by decide +kernel
theorem dL_law_837 : decode cL_law 837 = .ok (.invokestatic 129, 3) := by decide +kernel
theorem dL_law_840 : decode cL_law 840 = .ok (.istore 5, 2) := by decide +kernel
theorem dL_law_842 : decode cL_law 842 = .ok (.aload_n 2, 1) := by decide +kernel
theorem dL_law_843 : decode cL_law 843 = .ok (.aload_n 0, 1) := by decide +kernel
theorem dL_law_844 : decode cL_law 844 = .ok (.iload 4, 2) := by decide +kernel
theorem dL_law_846 : decode cL_law 846 = .ok (.iconst 1, 1) := by decide +kernel
theorem dL_law_847 : decode cL_law 847 = .ok (.iadd, 1) := by decide +kernel
theorem dL_law_848 : decode cL_law 848 = .ok (.iaload, 1) := by decide +kernel
theorem dL_law_849 : decode cL_law 849 = .ok (.aload_n 0, 1) := by decide +kernel
theorem dL_law_850 : decode cL_law 850 = .ok (.iload 4, 2) := by decide +kernel
theorem dL_law_852 : decode cL_law 852 = .ok (.iconst 2, 1) := by decide +kernel
theorem dL_law_853 : decode cL_law 853 = .ok (.iadd, 1) := by decide +kernel
theorem dL_law_854 : decode cL_law 854 = .ok (.iaload, 1) := by decide +kernel
theorem dL_law_855 : decode cL_law 855 = .ok (.invokevirtual 131, 3) := by decide +kernel
theorem dL_law_858 : decode cL_law 858 = .ok (.istore 6, 2) := by decide +kernel
theorem dL_law_860 : decode cL_law 860 = .ok (.aload_n 2, 1) := by decide +kernel
theorem dL_law_861 : decode cL_law 861 = .ok (.invokevirtual 81, 3) := by decide +kernel
theorem dL_law_864 : decode cL_law 864 = .ok (.iload 5, 2) := by decide +kernel
theorem dL_law_866 : decode cL_law 866 = .ok (.if_icmp .eq 5, 3) := by decide +kernel
theorem dL_law_869 : decode cL_law 869 = .ok (.iconst 0, 1) := by decide +kernel
theorem dL_law_870 : decode cL_law 870 = .ok (.ireturn, 1) := by decide +kernel
theorem dL_law_871 : decode cL_law 871 = .ok (.iload 5, 2) := by decide +kernel
theorem dL_law_873 : decode cL_law 873 = .ok (.ifCond .ne 15, 3) := by decide +kernel
theorem dL_law_876 : decode cL_law 876 = .ok (.aload_n 3, 1) := by decide +kernel
theorem dL_law_877 : decode cL_law 877 = .ok (.iconst 0, 1) := by decide +kernel
theorem dL_law_878 : decode cL_law 878 = .ok (.laload, 1) := by decide +kernel
theorem dL_law_879 : decode cL_law 879 = .ok (.iload 6, 2) := by decide +kernel
theorem dL_law_881 : decode cL_law 881 = .ok (.i2l, 1) := by decide +kernel
theorem dL_law_882 : decode cL_law 882 = .ok (.lcmp, 1) := by decide +kernel
theorem dL_law_883 : decode cL_law 883 = .ok (.ifCond .eq 5, 3) := by decide +kernel
theorem dL_law_886 : decode cL_law 886 = .ok (.iconst 0, 1) := by decide +kernel
theorem dL_law_887 : decode cL_law 887 = .ok (.ireturn, 1) := by decide +kernel
theorem dL_law_888 : decode cL_law 888 = .ok (.goto 399, 3) := by decide +kernel
theorem dL_law_891 : decode cL_law 891 = .ok (.aload_n 1, 1) := by decide +kernel
theorem dL_law_892 : decode cL_law 892 = .ok (.aload_n 0, 1) := by decide +kernel
theorem dL_law_893 : decode cL_law 893 = .ok (.iload 4, 2) := by decide +kernel
theorem dL_law_895 : decode cL_law 895 = .ok (.iconst 1, 1) := by decide +kernel
theorem dL_law_896 : decode cL_law 896 = .ok (.iadd, 1) := by decide +kernel
theorem dL_law_897 : decode cL_law 897 = .ok (.iaload, 1) := by decide +kernel
theorem dL_law_898 : decode cL_law 898 = .ok (.aload_n 0, 1) := by decide +kernel
theorem dL_law_899 : decode cL_law 899 = .ok (.iload 4, 2) := by decide +kernel
theorem dL_law_901 : decode cL_law 901 = .ok (.iconst 2, 1) := by decide +kernel
theorem dL_law_902 : decode cL_law 902 = .ok (.iadd, 1) := by decide +kernel
theorem dL_law_903 : decode cL_law 903 = .ok (.iaload, 1) := by decide +kernel
theorem dL_law_904 : decode cL_law 904 = .ok (.aload_n 3, 1) := by decide +kernel
theorem dL_law_905 : decode cL_law 905 = .ok (.invokestatic 132, 3) := by decide +kernel
theorem dL_law_908 : decode cL_law 908 = .ok (.istore 5, 2) := by decide +kernel
theorem dL_law_910 : decode cL_law 910 = .ok (.aload_n 2, 1) := by decide +kernel
theorem dL_law_911 : decode cL_law 911 = .ok (.aload_n 0, 1) := by decide +kernel
theorem dL_law_912 : decode cL_law 912 = .ok (.iload 4, 2) := by decide +kernel
theorem dL_law_914 : decode cL_law 914 = .ok (.iconst 1, 1) := by decide +kernel
theorem dL_law_915 : decode cL_law 915 = .ok (.iadd, 1) := by decide +kernel
theorem dL_law_916 : decode cL_law 916 = .ok (.iaload, 1) := by decide +kernel
theorem dL_law_917 : decode cL_law 917 = .ok (.aload_n 0, 1) := by decide +kernel
theorem dL_law_918 : decode cL_law 918 = .ok (.iload 4, 2) := by decide +kernel
theorem dL_law_920 : decode cL_law 920 = .ok (.iconst 2, 1) := by decide +kernel
theorem dL_law_921 : decode cL_law 921 = .ok (.iadd, 1) := by decide +kernel
theorem dL_law_922 : decode cL_law 922 = .ok (.iaload, 1) := by decide +kernel
theorem dL_law_923 : decode cL_law 923 = .ok (.invokevirtual 134, 3) := by decide +kernel
theorem dL_law_926 : decode cL_law 926 = .ok (.istore 6, 2) := by decide +kernel
theorem dL_law_928 : decode cL_law 928 = .ok (.aload_n 2, 1) := by decide +kernel
theorem dL_law_929 : decode cL_law 929 = .ok (.invokevirtual 81, 3) := by decide +kernel
theorem dL_law_932 : decode cL_law 932 = .ok (.iload 5, 2) := by decide +kernel
theorem dL_law_934 : decode cL_law 934 = .ok (.if_icmp .eq 5, 3) := by decide +kernel
theorem dL_law_937 : decode cL_law 937 = .ok (.iconst 0, 1) := by decide +kernel
theorem dL_law_938 : decode cL_law 938 = .ok (.ireturn, 1) := by decide +kernel
theorem dL_law_939 : decode cL_law 939 = .ok (.iload 5, 2) := by decide +kernel
theorem dL_law_941 : decode cL_law 941 = .ok (.ifCond .ne 15, 3) := by decide +kernel
theorem dL_law_944 : decode cL_law 944 = .ok (.aload_n 3, 1) := by decide +kernel
theorem dL_law_945 : decode cL_law 945 = .ok (.iconst 0, 1) := by decide +kernel
theorem dL_law_946 : decode cL_law 946 = .ok (.laload, 1) := by decide +kernel
theorem dL_law_947 : decode cL_law 947 = .ok (.iload 6, 2) := by decide +kernel
theorem dL_law_949 : decode cL_law 949 = .ok (.i2l, 1) := by decide +kernel
theorem dL_law_950 : decode cL_law 950 = .ok (.lcmp, 1) := by decide +kernel
theorem dL_law_951 : decode cL_law 951 = .ok (.ifCond .eq 5, 3) := by decide +kernel
theorem dL_law_954 : decode cL_law 954 = .ok (.iconst 0, 1) := by decide +kernel
theorem dL_law_955 : decode cL_law 955 = .ok (.ireturn, 1) := by decide +kernel
theorem dL_law_956 : decode cL_law 956 = .ok (.goto 331, 3) := by decide +kernel
theorem dL_law_959 : decode cL_law 959 = .ok (.aload_n 1, 1) := by decide +kernel
theorem dL_law_960 : decode cL_law 960 = .ok (.aload_n 0, 1) := by decide +kernel
theorem dL_law_961 : decode cL_law 961 = .ok (.iload 4, 2) := by decide +kernel
theorem dL_law_963 : decode cL_law 963 = .ok (.iconst 1, 1) := by decide +kernel
theorem dL_law_964 : decode cL_law 964 = .ok (.iadd, 1) := by decide +kernel
theorem dL_law_965 : decode cL_law 965 = .ok (.iaload, 1) := by decide +kernel
theorem dL_law_966 : decode cL_law 966 = .ok (.aload_n 3, 1) := by decide +kernel
theorem dL_law_967 : decode cL_law 967 = .ok (.invokestatic 135, 3) := by decide +kernel
theorem dL_law_970 : decode cL_law 970 = .ok (.istore 5, 2) := by decide +kernel
theorem dL_law_972 : decode cL_law 972 = .ok (.aload_n 2, 1) := by decide +kernel
theorem dL_law_973 : decode cL_law 973 = .ok (.aload_n 0, 1) := by decide +kernel
theorem dL_law_974 : decode cL_law 974 = .ok (.iload 4, 2) := by decide +kernel
theorem dL_law_976 : decode cL_law 976 = .ok (.iconst 1, 1) := by decide +kernel
theorem dL_law_977 : decode cL_law 977 = .ok (.iadd, 1) := by decide +kernel
theorem dL_law_978 : decode cL_law 978 = .ok (.iaload, 1) := by decide +kernel
theorem dL_law_979 : decode cL_law 979 = .ok (.invokevirtual 137, 3) := by decide +kernel
theorem dL_law_982 : decode cL_law 982 = .ok (.istore 6, 2) := by decide +kernel
theorem dL_law_984 : decode cL_law 984 = .ok (.aload_n 2, 1) := by decide +kernel
theorem dL_law_985 : decode cL_law 985 = .ok (.invokevirtual 81, 3) := by decide +kernel
theorem dL_law_988 : decode cL_law 988 = .ok (.iload 5, 2) := by decide +kernel
theorem dL_law_990 : decode cL_law 990 = .ok (.if_icmp .eq 5, 3) := by decide +kernel
theorem dL_law_993 : decode cL_law 993 = .ok (.iconst 0, 1) := by decide +kernel
theorem dL_law_994 : decode cL_law 994 = .ok (.ireturn, 1) := by decide +kernel
theorem dL_law_995 : decode cL_law 995 = .ok (.iload 5, 2) := by decide +kernel
theorem dL_law_997 : decode cL_law 997 = .ok (.ifCond .ne 15, 3) := by decide +kernel
theorem dL_law_1000 : decode cL_law 1000 = .ok (.aload_n 3, 1) := by decide +kernel
theorem dL_law_1001 : decode cL_law 1001 = .ok (.iconst 0, 1) := by decide +kernel
theorem dL_law_1002 : decode cL_law 1002 = .ok (.laload, 1) := by decide +kernel
theorem dL_law_1003 : decode cL_law 1003 = .ok (.iload 6, 2) := by decide +kernel
theorem dL_law_1005 : decode cL_law 1005 = .ok (.i2l, 1) := by decide +kernel
theorem dL_law_1006 : decode cL_law 1006 = .ok (.lcmp, 1) := by decide +kernel
theorem dL_law_1007 : decode cL_law 1007 = .ok (.ifCond .eq 5, 3) := by decide +kernel
theorem dL_law_1010 : decode cL_law 1010 = .ok (.iconst 0, 1) := by decide +kernel
theorem dL_law_1011 : decode cL_law 1011 = .ok (.ireturn, 1) := by decide +kernel
theorem dL_law_1012 : decode cL_law 1012 = .ok (.goto 275, 3) := by decide +kernel
theorem dL_law_1015 : decode cL_law 1015 = .ok (.aload_n 1, 1) := by decide +kernel
theorem dL_law_1016 : decode cL_law 1016 = .ok (.aload_n 0, 1) := by decide +kernel
theorem dL_law_1017 : decode cL_law 1017 = .ok (.iload 4, 2) := by decide +kernel
theorem dL_law_1019 : decode cL_law 1019 = .ok (.iconst 1, 1) := by decide +kernel
theorem dL_law_1020 : decode cL_law 1020 = .ok (.iadd, 1) := by decide +kernel
theorem dL_law_1021 : decode cL_law 1021 = .ok (.iaload, 1) := by decide +kernel
theorem dL_law_1022 : decode cL_law 1022 = .ok (.aload_n 0, 1) := by decide +kernel
theorem dL_law_1023 : decode cL_law 1023 = .ok (.iload 4, 2) := by decide +kernel
theorem dL_law_1025 : decode cL_law 1025 = .ok (.iconst 2, 1) := by decide +kernel
theorem dL_law_1026 : decode cL_law 1026 = .ok (.iadd, 1) := by decide +kernel
theorem dL_law_1027 : decode cL_law 1027 = .ok (.iaload, 1) := by decide +kernel
theorem dL_law_1028 : decode cL_law 1028 = .ok (.aload_n 0, 1) := by decide +kernel
theorem dL_law_1029 : decode cL_law 1029 = .ok (.iload 4, 2) := by decide +kernel
theorem dL_law_1031 : decode cL_law 1031 = .ok (.iconst 3, 1) := by decide +kernel
theorem dL_law_1032 : decode cL_law 1032 = .ok (.iadd, 1) := by decide +kernel
theorem dL_law_1033 : decode cL_law 1033 = .ok (.iaload, 1) := by decide +kernel
theorem dL_law_1034 : decode cL_law 1034 = .ok (.aload_n 0, 1) := by decide +kernel
theorem dL_law_1035 : decode cL_law 1035 = .ok (.iload 4, 2) := by decide +kernel
theorem dL_law_1037 : decode cL_law 1037 = .ok (.iconst 4, 1) := by decide +kernel
theorem dL_law_1038 : decode cL_law 1038 = .ok (.iadd, 1) := by decide +kernel
theorem dL_law_1039 : decode cL_law 1039 = .ok (.iaload, 1) := by decide +kernel
theorem dL_law_1040 : decode cL_law 1040 = .ok (.aload_n 3, 1) := by decide +kernel
theorem dL_law_1041 : decode cL_law 1041 = .ok (.invokestatic 138, 3) := by decide +kernel
theorem dL_law_1044 : decode cL_law 1044 = .ok (.istore 5, 2) := by decide +kernel
theorem dL_law_1046 : decode cL_law 1046 = .ok (.aload_n 2, 1) := by decide +kernel
theorem dL_law_1047 : decode cL_law 1047 = .ok (.aload_n 0, 1) := by decide +kernel
theorem dL_law_1048 : decode cL_law 1048 = .ok (.iload 4, 2) := by decide +kernel
theorem dL_law_1050 : decode cL_law 1050 = .ok (.iconst 1, 1) := by decide +kernel
theorem dL_law_1051 : decode cL_law 1051 = .ok (.iadd, 1) := by decide +kernel
theorem dL_law_1052 : decode cL_law 1052 = .ok (.iaload, 1) := by decide +kernel
theorem dL_law_1053 : decode cL_law 1053 = .ok (.aload_n 0, 1) := by decide +kernel
theorem dL_law_1054 : decode cL_law 1054 = .ok (.iload 4, 2) := by decide +kernel
theorem dL_law_1056 : decode cL_law 1056 = .ok (.iconst 2, 1) := by decide +kernel
theorem dL_law_1057 : decode cL_law 1057 = .ok (.iadd, 1) := by decide +kernel
theorem dL_law_1058 : decode cL_law 1058 = .ok (.iaload, 1) := by decide +kernel
theorem dL_law_1059 : decode cL_law 1059 = .ok (.aload_n 0, 1) := by decide +kernel
theorem dL_law_1060 : decode cL_law 1060 = .ok (.iload 4, 2) := by decide +kernel
theorem dL_law_1062 : decode cL_law 1062 = .ok (.iconst 3, 1) := by decide +kernel
theorem dL_law_1063 : decode cL_law 1063 = .ok (.iadd, 1) := by decide +kernel
theorem dL_law_1064 : decode cL_law 1064 = .ok (.iaload, 1) := by decide +kernel
theorem dL_law_1065 : decode cL_law 1065 = .ok (.aload_n 0, 1) := by decide +kernel
theorem dL_law_1066 : decode cL_law 1066 = .ok (.iload 4, 2) := by decide +kernel
theorem dL_law_1068 : decode cL_law 1068 = .ok (.iconst 4, 1) := by decide +kernel
theorem dL_law_1069 : decode cL_law 1069 = .ok (.iadd, 1) := by decide +kernel
theorem dL_law_1070 : decode cL_law 1070 = .ok (.iaload, 1) := by decide +kernel
theorem dL_law_1071 : decode cL_law 1071 = .ok (.invokevirtual 141, 3) := by decide +kernel
theorem dL_law_1074 : decode cL_law 1074 = .ok (.istore 6, 2) := by decide +kernel
theorem dL_law_1076 : decode cL_law 1076 = .ok (.aload_n 2, 1) := by decide +kernel
theorem dL_law_1077 : decode cL_law 1077 = .ok (.invokevirtual 81, 3) := by decide +kernel
theorem dL_law_1080 : decode cL_law 1080 = .ok (.iload 5, 2) := by decide +kernel
theorem dL_law_1082 : decode cL_law 1082 = .ok (.if_icmp .eq 5, 3) := by decide +kernel
theorem dL_law_1085 : decode cL_law 1085 = .ok (.iconst 0, 1) := by decide +kernel
theorem dL_law_1086 : decode cL_law 1086 = .ok (.ireturn, 1) := by decide +kernel
theorem dL_law_1087 : decode cL_law 1087 = .ok (.iload 5, 2) := by decide +kernel
theorem dL_law_1089 : decode cL_law 1089 = .ok (.ifCond .ne 15, 3) := by decide +kernel
theorem dL_law_1092 : decode cL_law 1092 = .ok (.aload_n 3, 1) := by decide +kernel
theorem dL_law_1093 : decode cL_law 1093 = .ok (.iconst 0, 1) := by decide +kernel
theorem dL_law_1094 : decode cL_law 1094 = .ok (.laload, 1) := by decide +kernel
theorem dL_law_1095 : decode cL_law 1095 = .ok (.iload 6, 2) := by decide +kernel
theorem dL_law_1097 : decode cL_law 1097 = .ok (.i2l, 1) := by decide +kernel
theorem dL_law_1098 : decode cL_law 1098 = .ok (.lcmp, 1) := by decide +kernel
theorem dL_law_1099 : decode cL_law 1099 = .ok (.ifCond .eq 5, 3) := by decide +kernel
theorem dL_law_1102 : decode cL_law 1102 = .ok (.iconst 0, 1) := by decide +kernel
theorem dL_law_1103 : decode cL_law 1103 = .ok (.ireturn, 1) := by decide +kernel
theorem dL_law_1104 : decode cL_law 1104 = .ok (.goto 183, 3) := by decide +kernel
theorem dL_law_1107 : decode cL_law 1107 = .ok (.aload_n 1, 1) := by decide +kernel
theorem dL_law_1108 : decode cL_law 1108 = .ok (.aload_n 0, 1) := by decide +kernel
theorem dL_law_1109 : decode cL_law 1109 = .ok (.iload 4, 2) := by decide +kernel
theorem dL_law_1111 : decode cL_law 1111 = .ok (.iconst 1, 1) := by decide +kernel
theorem dL_law_1112 : decode cL_law 1112 = .ok (.iadd, 1) := by decide +kernel
theorem dL_law_1113 : decode cL_law 1113 = .ok (.iaload, 1) := by decide +kernel
theorem dL_law_1114 : decode cL_law 1114 = .ok (.aload_n 3, 1) := by decide +kernel
theorem dL_law_1115 : decode cL_law 1115 = .ok (.invokestatic 142, 3) := by decide +kernel
theorem dL_law_1118 : decode cL_law 1118 = .ok (.istore 5, 2) := by decide +kernel
theorem dL_law_1120 : decode cL_law 1120 = .ok (.aload_n 2, 1) := by decide +kernel
theorem dL_law_1121 : decode cL_law 1121 = .ok (.aload_n 0, 1) := by decide +kernel
theorem dL_law_1122 : decode cL_law 1122 = .ok (.iload 4, 2) := by decide +kernel
theorem dL_law_1124 : decode cL_law 1124 = .ok (.iconst 1, 1) := by decide +kernel
theorem dL_law_1125 : decode cL_law 1125 = .ok (.iadd, 1) := by decide +kernel
theorem dL_law_1126 : decode cL_law 1126 = .ok (.iaload, 1) := by decide +kernel
theorem dL_law_1127 : decode cL_law 1127 = .ok (.invokevirtual 144, 3) := by decide +kernel
theorem dL_law_1130 : decode cL_law 1130 = .ok (.istore 6, 2) := by decide +kernel
theorem dL_law_1132 : decode cL_law 1132 = .ok (.aload_n 2, 1) := by decide +kernel
theorem dL_law_1133 : decode cL_law 1133 = .ok (.invokevirtual 81, 3) := by decide +kernel
theorem dL_law_1136 : decode cL_law 1136 = .ok (.iload 5, 2) := by decide +kernel
theorem dL_law_1138 : decode cL_law 1138 = .ok (.if_icmp .eq 5, 3) := by decide +kernel
theorem dL_law_1141 : decode cL_law 1141 = .ok (.iconst 0, 1) := by decide +kernel
theorem dL_law_1142 : decode cL_law 1142 = .ok (.ireturn, 1) := by decide +kernel
theorem dL_law_1143 : decode cL_law 1143 = .ok (.iload 5, 2) := by decide +kernel
theorem dL_law_1145 : decode cL_law 1145 = .ok (.ifCond .ne 15, 3) := by decide +kernel
theorem dL_law_1148 : decode cL_law 1148 = .ok (.aload_n 3, 1) := by decide +kernel
theorem dL_law_1149 : decode cL_law 1149 = .ok (.iconst 0, 1) := by decide +kernel
theorem dL_law_1150 : decode cL_law 1150 = .ok (.laload, 1) := by decide +kernel
theorem dL_law_1151 : decode cL_law 1151 = .ok (.iload 6, 2) := by decide +kernel
theorem dL_law_1153 : decode cL_law 1153 = .ok (.i2l, 1) := by decide +kernel
theorem dL_law_1154 : decode cL_law 1154 = .ok (.lcmp, 1) := by decide +kernel
theorem dL_law_1155 : decode cL_law 1155 = .ok (.ifCond .eq 5, 3) := by decide +kernel
theorem dL_law_1158 : decode cL_law 1158 = .ok (.iconst 0, 1) := by decide +kernel
theorem dL_law_1159 : decode cL_law 1159 = .ok (.ireturn, 1) := by decide +kernel
theorem dL_law_1160 : decode cL_law 1160 = .ok (.goto 127, 3) := by decide +kernel
theorem dL_law_1163 : decode cL_law 1163 = .ok (.aload_n 1, 1) := by decide +kernel
theorem dL_law_1164 : decode cL_law 1164 = .ok (.aload_n 0, 1) := by decide +kernel
theorem dL_law_1165 : decode cL_law 1165 = .ok (.iload 4, 2) := by decide +kernel
theorem dL_law_1167 : decode cL_law 1167 = .ok (.iconst 1, 1) := by decide +kernel
theorem dL_law_1168 : decode cL_law 1168 = .ok (.iadd, 1) := by decide +kernel
theorem dL_law_1169 : decode cL_law 1169 = .ok (.iaload, 1) := by decide +kernel
theorem dL_law_1170 : decode cL_law 1170 = .ok (.aload_n 3, 1) := by decide +kernel
theorem dL_law_1171 : decode cL_law 1171 = .ok (.invokestatic 145, 3) := by decide +kernel
theorem dL_law_1174 : decode cL_law 1174 = .ok (.istore 5, 2) := by decide +kernel
theorem dL_law_1176 : decode cL_law 1176 = .ok (.aload_n 2, 1) := by decide +kernel
theorem dL_law_1177 : decode cL_law 1177 = .ok (.aload_n 0, 1) := by decide +kernel
theorem dL_law_1178 : decode cL_law 1178 = .ok (.iload 4, 2) := by decide +kernel
theorem dL_law_1180 : decode cL_law 1180 = .ok (.iconst 1, 1) := by decide +kernel
theorem dL_law_1181 : decode cL_law 1181 = .ok (.iadd, 1) := by decide +kernel
theorem dL_law_1182 : decode cL_law 1182 = .ok (.iaload, 1) := by decide +kernel
theorem dL_law_1183 : decode cL_law 1183 = .ok (.invokevirtual 147, 3) := by decide +kernel
theorem dL_law_1186 : decode cL_law 1186 = .ok (.istore 6, 2) := by decide +kernel
theorem dL_law_1188 : decode cL_law 1188 = .ok (.aload_n 2, 1) := by decide +kernel
theorem dL_law_1189 : decode cL_law 1189 = .ok (.invokevirtual 81, 3) := by decide +kernel
theorem dL_law_1192 : decode cL_law 1192 = .ok (.iload 5, 2) := by decide +kernel
theorem dL_law_1194 : decode cL_law 1194 = .ok (.if_icmp .eq 5, 3) := by decide +kernel
theorem dL_law_1197 : decode cL_law 1197 = .ok (.iconst 0, 1) := by decide +kernel
theorem dL_law_1198 : decode cL_law 1198 = .ok (.ireturn, 1) := by decide +kernel
theorem dL_law_1199 : decode cL_law 1199 = .ok (.iload 5, 2) := by decide +kernel
theorem dL_law_1201 : decode cL_law 1201 = .ok (.ifCond .ne 15, 3) := by decide +kernel
theorem dL_law_1204 : decode cL_law 1204 = .ok (.aload_n 3, 1) := by decide +kernel
theorem dL_law_1205 : decode cL_law 1205 = .ok (.iconst 0, 1) := by decide +kernel
theorem dL_law_1206 : decode cL_law 1206 = .ok (.laload, 1) := by decide +kernel
theorem dL_law_1207 : decode cL_law 1207 = .ok (.iload 6, 2) := by decide +kernel
theorem dL_law_1209 : decode cL_law 1209 = .ok (.i2l, 1) := by decide +kernel
theorem dL_law_1210 : decode cL_law 1210 = .ok (.lcmp, 1) := by decide +kernel
theorem dL_law_1211 : decode cL_law 1211 = .ok (.ifCond .eq 5, 3) := by decide +kernel
theorem dL_law_1214 : decode cL_law 1214 = .ok (.iconst 0, 1) := by decide +kernel
theorem dL_law_1215 : decode cL_law 1215 = .ok (.ireturn, 1) := by decide +kernel
theorem dL_law_1216 : decode cL_law 1216 = .ok (.goto 71, 3) := by decide +kernel
theorem dL_law_1219 : decode cL_law 1219 = .ok (.aload_n 1, 1) := by decide +kernel
theorem dL_law_1220 : decode cL_law 1220 = .ok (.invokevirtual 148, 3) := by decide +kernel
theorem dL_law_1223 : decode cL_law 1223 = .ok (.aload_n 2, 1) := by decide +kernel
theorem dL_law_1224 : decode cL_law 1224 = .ok (.invokevirtual 151, 3) := by decide +kernel
theorem dL_law_1227 : decode cL_law 1227 = .ok (.if_icmp .eq 60, 3) := by decide +kernel
theorem dL_law_1230 : decode cL_law 1230 = .ok (.iconst 0, 1) := by decide +kernel
theorem dL_law_1231 : decode cL_law 1231 = .ok (.ireturn, 1) := by decide +kernel
theorem dL_law_1232 : decode cL_law 1232 = .ok (.aload_n 1, 1) := by decide +kernel
theorem dL_law_1233 : decode cL_law 1233 = .ok (.invokevirtual 152, 3) := by decide +kernel
theorem dL_law_1236 : decode cL_law 1236 = .ok (.dstore 5, 2) := by decide +kernel
theorem dL_law_1238 : decode cL_law 1238 = .ok (.aload_n 2, 1) := by decide +kernel
theorem dL_law_1239 : decode cL_law 1239 = .ok (.invokevirtual 156, 3) := by decide +kernel
theorem dL_law_1242 : decode cL_law 1242 = .ok (.dstore 7, 2) := by decide +kernel
theorem dL_law_1244 : decode cL_law 1244 = .ok (.dload 5, 2) := by decide +kernel
theorem dL_law_1246 : decode cL_law 1246 = .ok (.dload 7, 2) := by decide +kernel
theorem dL_law_1248 : decode cL_law 1248 = .ok (.dcmp .l, 1) := by decide +kernel
theorem dL_law_1249 : decode cL_law 1249 = .ok (.ifCond .eq 21, 3) := by decide +kernel
theorem dL_law_1252 : decode cL_law 1252 = .ok (.dload 5, 2) := by decide +kernel
theorem dL_law_1254 : decode cL_law 1254 = .ok (.dload 5, 2) := by decide +kernel
theorem dL_law_1256 : decode cL_law 1256 = .ok (.dcmp .l, 1) := by decide +kernel
theorem dL_law_1257 : decode cL_law 1257 = .ok (.ifCond .eq 11, 3) := by decide +kernel
theorem dL_law_1260 : decode cL_law 1260 = .ok (.dload 7, 2) := by decide +kernel
theorem dL_law_1262 : decode cL_law 1262 = .ok (.dload 7, 2) := by decide +kernel
theorem dL_law_1264 : decode cL_law 1264 = .ok (.dcmp .l, 1) := by decide +kernel
theorem dL_law_1265 : decode cL_law 1265 = .ok (.ifCond .ne 5, 3) := by decide +kernel
theorem dL_law_1268 : decode cL_law 1268 = .ok (.iconst 0, 1) := by decide +kernel
theorem dL_law_1269 : decode cL_law 1269 = .ok (.ireturn, 1) := by decide +kernel
theorem dL_law_1270 : decode cL_law 1270 = .ok (.goto 17, 3) := by decide +kernel
theorem dL_law_1273 : decode cL_law 1273 = .ok (.aload_n 1, 1) := by decide +kernel
theorem dL_law_1274 : decode cL_law 1274 = .ok (.invokevirtual 157, 3) := by decide +kernel
theorem dL_law_1277 : decode cL_law 1277 = .ok (.aload_n 2, 1) := by decide +kernel
theorem dL_law_1278 : decode cL_law 1278 = .ok (.invokevirtual 161, 3) := by decide +kernel
theorem dL_law_1281 : decode cL_law 1281 = .ok (.lcmp, 1) := by decide +kernel
theorem dL_law_1282 : decode cL_law 1282 = .ok (.ifCond .eq 5, 3) := by decide +kernel
theorem dL_law_1285 : decode cL_law 1285 = .ok (.iconst 0, 1) := by decide +kernel
theorem dL_law_1286 : decode cL_law 1286 = .ok (.ireturn, 1) := by decide +kernel
theorem dL_law_1287 : decode cL_law 1287 = .ok (.iinc 4 5, 3) := by decide +kernel
theorem dL_law_1290 : decode cL_law 1290 = .ok (.goto (-1267), 3) := by decide +kernel
theorem dL_law_1293 : decode cL_law 1293 = .ok (.iconst 1, 1) := by decide +kernel
theorem dL_law_1294 : decode cL_law 1294 = .ok (.ireturn, 1) := by decide +kernel
end
section
/-! MY OWN ROWS OVER THE KIT'S: the world is one list of cells; what stands of the tables is one fact (zK); a method that only reads (zMr), a method that writes in its world (zMw), both with their answer and the world behind them told exactly. -/
abbrev zTY (ca : Nat → ClassId) : List (ClassId × FieldType) := [(ca 0, .int), (ca 1, .char), (ca 2, .long), (ca 3, .object "SeenPages$State")]
abbrev zK (D : va_G) (ca : Nat → ClassId) (U : State) : Prop := va_K D vwCl (zTY ca) U
/-- a boolean as Java has it -/
def zb (b : Bool) : Int32 := if b then 1 else 0
theorem zb_t {b : Bool} (h : b = true) : zb b = 1 := by rw [h]; rfl
theorem zb_f {b : Bool} (h : b = false) : zb b = 0 := by rw [h]; rfl
theorem zb_eq0 {b : Bool} : zb b = 0 ↔ b = false := by cases b <;> decide
theorem zb_nar (b : Bool) : narrow .boolean (.int (zb b)) = .int (zb b) := by cases b <;> rfl
theorem nI_lit (n : Nat) : (OfNat.ofNat n : Int32) = nI n := rfl
theorem zgood {L : List Cond} (h : ∀ w ∈ L, w ∈ wAll) : GoodIn wAll L := fun w hw => ⟨h w hw, good_of_word (List.mem_filter.mp (h w hw)).2⟩
theorem zgoodC {y : MethodName} {b : ByteArray} {n : Nat} {rt : Option FieldType} (h : Cond.code y b n rt ∈ wAll) : GoodIn wAll (Cond.code y b n rt :: wAll) := zgood (fun w hw => (List.mem_cons.mp hw).elim (fun e => e ▸ h) id)
/-- what a world's addresses are -/
theorem zDto {A : Nat → Prop} {ws : va_W} {l : List Nat} (hN : l.Nodup) (hA : ∀ q ∈ l, A q) (hl : ws.map Prod.fst = l) : va_D A ws := by
  have key : ∀ (k : Nat) (q : Nat × va_E), ws[k]? = some q → l[k]? = some q.1 := by
    intro k q hk
    rw [← hl, List.getElem?_map, hk]
    rfl
  refine ⟨fun i j x y hi hj hxy => ?_, fun k q hk => hA _ (List.mem_of_getElem? (key k q hk))⟩
  have h1 := key i x hi
  have h2 := key j y hj
  rw [hxy] at h1
  have l1 := (List.getElem?_eq_some_iff.mp h1).1
  exact (List.getElem?_inj l1 hN).mp (h1.trans h2.symm)
theorem znd_pick {l l' : List Nat} (h : l.Nodup) (is : List Nat) (hn : va_nd is = true) (hs : is.map (fun i => l[i]?) = l'.map some) : l'.Nodup := by
  have key : ∀ (k : Nat) (q : Nat), l'[k]? = some q → ∃ i, is[k]? = some i ∧ l[i]? = some q := by
    intro k q hk
    have h1 : (is.map (fun i => l[i]?))[k]? = some (some q) := by rw [hs, List.getElem?_map, hk]; rfl
    rw [List.getElem?_map] at h1
    cases hi : is[k]? with
    | none => rw [hi] at h1; cases h1
    | some i => rw [hi] at h1; exact ⟨i, rfl, Option.some.inj h1⟩
  refine List.pairwise_iff_getElem.mpr (fun i j hi hj hij e => ?_)
  obtain ⟨a, a1, a2⟩ := key i _ (List.getElem?_eq_getElem hi)
  obtain ⟨b, b1, b2⟩ := key j _ (List.getElem?_eq_getElem hj)
  rw [e] at a2
  have hab : a = b := (List.getElem?_inj (List.getElem?_eq_some_iff.mp a2).1 h).mp (a2.trans b2.symm)
  subst hab
  exact absurd (va_nd_inj is hn i j a a1 b1) (Nat.ne_of_lt hij)
def zset (ws : va_W) (is : List Nat) (wc : va_W) : va_W := (is.zip wc).foldl (fun w p => w.set p.1 p.2) ws
theorem zset_mem : ∀ (is : List Nat) (wc ws : va_W) (k : Nat) (q : Nat × va_E), (zset ws is wc)[k]? = some q → (∃ j : Nat, is[j]? = some k ∧ wc[j]? = some q) ∨ (ws[k]? = some q ∧ ∀ j : Nat, is[j]? = some k → wc.length ≤ j) := by
  intro is
  induction is with
  | nil => intro wc ws k q h; exact Or.inr ⟨h, fun j hj => by simp at hj⟩
  | cons i is ih =>
    intro wc ws k q h
    cases wc with
    | nil => exact Or.inr ⟨h, fun j _ => Nat.zero_le _⟩
    | cons c wc =>
      have h' : (zset (ws.set i c) is wc)[k]? = some q := h
      rcases ih wc (ws.set i c) k q h' with ⟨j, h1, h2⟩ | ⟨h1, h2⟩
      · exact Or.inl ⟨j + 1, h1, h2⟩
      · by_cases hik : i = k
        · subst hik
          have hl : i < ws.length := by
            have := (List.getElem?_eq_some_iff.mp h1).1
            simpa using this
          rw [List.getElem?_set_self hl] at h1
          exact Or.inl ⟨0, rfl, h1⟩
        · rw [List.getElem?_set_ne hik] at h1
          refine Or.inr ⟨h1, fun j hj => ?_⟩
          cases j with
          | zero => exact absurd (Option.some.inj hj) hik
          | succ j => exact Nat.succ_le_succ (h2 j hj)
def zA (l : List Nat) : Nat → Prop := fun q => q ∈ l
/-- behind a call: the callee's cells as it left them, the others as they were -/
theorem zback {D : va_G} {A : Nat → Prop} {ws wc wc' : va_W} {H H1 : Heap} {is : List Nat} (hP : va_P D vwCl ws H) (hD : va_D A ws) (hC : is.map (fun i => ws[i]?) = wc.map some) (hf : wc'.map Prod.fst = wc.map Prod.fst)
    (hk : ∀ q : Nat, q < H.size → ¬ zA (wc.map Prod.fst) q → H1[q]? = H[q]?) (hP1 : va_P D vwCl wc' H1) : va_P D vwCl (zset ws is wc') H1 := by
  intro k q hq
  rcases zset_mem is wc' ws k q hq with ⟨j, -, h2⟩ | ⟨h1, h2⟩
  · exact hP1 j q h2
  · refine (hP k q h1).kept (hk _ (hP k q h1).lt (fun hm => ?_))
    obtain ⟨⟨a, e⟩, hme, hae⟩ := List.mem_map.mp hm
    obtain ⟨j, hj⟩ := List.getElem?_of_mem hme
    have h3 : (is.map (fun i => ws[i]?))[j]? = some (some (a, e)) := by rw [hC, List.getElem?_map, hj]; rfl
    rw [List.getElem?_map] at h3
    cases hi : is[j]? with
    | none => rw [hi] at h3; cases h3
    | some i =>
      rw [hi] at h3
      have h4 : ws[i]? = some (a, e) := Option.some.inj h3
      have hik : i = k := hD.1 i k (a, e) q h4 h1 hae
      subst hik
      have hlen : wc'.length = wc.length := by simpa using congrArg List.length hf
      have := h2 j hi
      have hjl := (List.getElem?_eq_some_iff.mp hj).1
      omega
/-- a method that only reads: its answer -/
def zMr (l : Launch) (y : MethodName) (b : ByteArray) (nY : Nat) (rt : Option FieldType) (fr lo : Nat) (D : va_G) (ca : Nat → ClassId) (w : va_W) (As : List Value) (rv : Value) : Prop :=
  Met l y (Cond.code y b nY rt :: wAll) { frames := fr, cells := 0, slots := 0, locals := lo } (va_Pc As (fun U => va_P D vwCl w U.heap ∧ zK D ca U)) (fun _ st o t => o = .returned (some rv) ∧ t.heap = st.heap) 0 0 (fun _ => False)
/-- a method that writes in its world, and makes nothing: its answer, and the world behind it -/
def zMw (l : Launch) (y : MethodName) (b : ByteArray) (nY : Nat) (rt : Option FieldType) (fr lo : Nat) (D : va_G) (ca : Nat → ClassId) (w w' : va_W) (As : List Value) (rv : Option Value) : Prop :=
  Met l y (Cond.code y b nY rt :: wAll) { frames := fr, cells := 0, slots := 0, locals := lo } (va_Pc As (fun U => va_P D vwCl w U.heap ∧ zK D ca U)) (fun _ st o t => o = .returned rv ∧ va_P D vwCl w' t.heap ∧ va_F (zA (w.map Prod.fst)) st t) 0 0 (zA (w.map Prod.fst))
abbrev zQr (rv : Value) : Array Value → State → Outcome → State → Prop := fun _ st o t => o = .returned (some rv) ∧ t.heap = st.heap
abbrev zQw (D : va_G) (l : List Nat) (w' : va_W) (rv : Option Value) : Array Value → State → Outcome → State → Prop := fun _ st o t => o = .returned rv ∧ va_P D vwCl w' t.heap ∧ va_F (zA l) st t
theorem zblind {D : va_G} {ca : Nat → ClassId} {w : va_W} {As : List Value} : FrameBlind (va_Pc As (fun U => va_P D vwCl w U.heap ∧ zK D ca U)) := fun a U g mk q => by
  obtain ⟨q0, q1, q2⟩ := q
  exact ⟨q0, q1, va_K.moved (u := U) (U := U.calling g mk a) (Vm.Alike.refl U.vm) q2⟩
/-- what is said of a method's name and code, at whatever call of it -/
def zY (y : MethodName) (b : ByteArray) (nY : Nat) (rt : Option FieldType) (n : Nat) : Prop :=
  Cond.code y b nY rt ∈ wAll ∧ Cond.initialized y.cls ∈ wAll ∧ y.cls ≠ "java/lang/invoke/MethodHandle" ∧ y.cls ≠ "java/lang/invoke/VarHandle" ∧ (parseMethodDescriptor y.desc).map (fun d => d.parameters.length) = some n
section ZK
variable {p : Program} {l : Launch} {e : Env} {R : Room} {s : State} {m : MethodId} {args : Array Value} {below : List Frame} {meth : Method} {c : Code} {H : Heap} {locs : List Loc} {cells slots : Nat} {Q : State → Prop}
variable {cc : ByteArray} {nL : Nat} {own : String} {pc : Nat} {ls : Array Slot} {rest : List Value} {D : va_G} {ca : Nat → ClassId} {ws : va_W} {A : Nat → Prop} {H0 : Heap} {a : Nat}
theorem zMr_of {y : MethodName} {b : ByteArray} {nY : Nat} {rt : Option FieldType} {fr lo : Nat} {w : va_W} {As : List Value} {rv : Value} (hy : plainName y.cls = true) (ho : y.cls = own) (hlen : (lg_sl As).length ≤ nY)
    (body : ∀ (p : Program) (e : Env) (s : State) (m : MethodId) (args : Array Value) (below : List Frame) (meth : Method) (c : Code) (ls : Array Slot), CallFix p m c b nY s args wAll own → meth.sig.returnType = rt → meth.locks = false → va_P D vwCl w s.heap → zK D ca s → lv_has ls nY (lv_args 0 As) →
      W p l e { frames := fr, cells := 0, slots := 0, locals := lo } s m args below meth c s.heap [] 0 0 (MQ below (zQr rv) args s 0 0 (fun _ => False)) (F0 m 0 ls [])) : zMr l y b nY rt fr lo D ca w As rv := by
  refine Met.ofW (cc := b) (maxL := nY) (ret := rt) hy rfl ?_
  intro p e s m args below meth c s₁ B hml hv
  obtain ⟨rfl, hP, hK⟩ := hv
  have hl := lv_entry As (n := nY) hlen
  rw [lg_entry_eq]
  have hts := atoms_spec (ws := Cond.code y b nY rt :: wAll) B.pre
  exact body p e s m _ below meth c _ ⟨B.exec, B.bytes, hml, ho ▸ findClass_of_methodNamed B.named, fun w h => hts w (List.mem_cons_of_mem _ h)⟩ B.returns B.notSynchronized hP hK hl
theorem zMw_of {y : MethodName} {b : ByteArray} {nY : Nat} {rt : Option FieldType} {fr lo : Nat} {w w' : va_W} {As : List Value} {rv : Option Value} (hy : plainName y.cls = true) (ho : y.cls = own) (hlen : (lg_sl As).length ≤ nY)
    (body : ∀ (p : Program) (e : Env) (s : State) (m : MethodId) (args : Array Value) (below : List Frame) (meth : Method) (c : Code) (ls : Array Slot), CallFix p m c b nY s args wAll own → meth.sig.returnType = rt → meth.locks = false → va_P D vwCl w s.heap → zK D ca s → lv_has ls nY (lv_args 0 As) → va_S (zA (w.map Prod.fst)) s.heap s.heap [] →
      W p l e { frames := fr, cells := 0, slots := 0, locals := lo } s m args below meth c s.heap [] 0 0 (MQ below (zQw D (w.map Prod.fst) w' rv) args s 0 0 (zA (w.map Prod.fst))) (F0 m 0 ls [])) : zMw l y b nY rt fr lo D ca w w' As rv := by
  refine Met.ofW (cc := b) (maxL := nY) (ret := rt) hy rfl ?_
  intro p e s m args below meth c s₁ B hml hv
  obtain ⟨rfl, hP, hK⟩ := hv
  have hl := lv_entry As (n := nY) hlen
  rw [lg_entry_eq]
  have hts := atoms_spec (ws := Cond.code y b nY rt :: wAll) B.pre
  exact body p e s m _ below meth c _ ⟨B.exec, B.bytes, hml, ho ▸ findClass_of_methodNamed B.named, fun w h => hts w (List.mem_cons_of_mem _ h)⟩ B.returns B.notSynchronized hP hK hl va_S.rf
-- ends of a method that reads
theorem zr_i (hx : p.tables.exec = Jvm.exec) (hb : c.code = cc) (hr : meth.sig.returnType = some .int) (hlk : meth.locks = false) {v rv : Int32} (hv : v = rv) (hdg : decode cc pc = .ok (.ireturn, 1)) : W p l e R s m args below meth c s.heap [] 0 0 (MQ below (zQr (.int rv)) args s 0 0 (fun _ => False)) (F0 m pc ls [.int v]) := by
  subst hv
  exact W.iret hx hb hr (fun t ht _ => ⟨rfl, ht⟩) (fun _ h => absurd h List.not_mem_nil) hdg hlk
theorem zr_z (hx : p.tables.exec = Jvm.exec) (hb : c.code = cc) (hr : meth.sig.returnType = some .boolean) (hlk : meth.locks = false) {v : Int32} {B : Bool} (hv : v = zb B) (hdg : decode cc pc = .ok (.ireturn, 1)) : W p l e R s m args below meth c s.heap [] 0 0 (MQ below (zQr (.int (zb B))) args s 0 0 (fun _ => False)) (F0 m pc ls [.int v]) := by
  subst hv
  exact W.zret hx hb hr (zb_nar B) (fun t ht _ => ⟨rfl, ht⟩) (fun _ h => absurd h List.not_mem_nil) hdg hlk
theorem zr_n {ty : FieldType} (hx : p.tables.exec = Jvm.exec) (hb : c.code = cc) (hr : meth.sig.returnType = some ty) (hlk : meth.locks = false) {v rv : Int32} (hv : v = rv) (hn : narrow ty (.int rv) = .int rv) (hdg : decode cc pc = .ok (.ireturn, 1)) : W p l e R s m args below meth c s.heap [] 0 0 (MQ below (zQr (.int rv)) args s 0 0 (fun _ => False)) (F0 m pc ls [.int v]) := by
  subst hv
  exact W.zret hx hb hr hn (fun t ht _ => ⟨rfl, ht⟩) (fun _ h => absurd h List.not_mem_nil) hdg hlk
theorem zr_l (hx : p.tables.exec = Jvm.exec) (hb : c.code = cc) (hr : meth.sig.returnType = some .long) (hlk : meth.locks = false) {v rv : Int64} (hv : v = rv) (hdg : decode cc pc = .ok (.lreturn, 1)) : W p l e R s m args below meth c s.heap [] 0 0 (MQ below (zQr (.long rv)) args s 0 0 (fun _ => False)) (F0 m pc ls [.long v]) := by
  subst hv
  exact W.lret hx hb hr (fun t ht _ => ⟨rfl, ht⟩) (fun _ h => absurd h List.not_mem_nil) hdg hlk
theorem zr_d (hx : p.tables.exec = Jvm.exec) (hb : c.code = cc) (hr : meth.sig.returnType = some .double) (hlk : meth.locks = false) {v rv : UInt64} (hv : v = rv) (hdg : decode cc pc = .ok (.dreturn, 1)) : W p l e R s m args below meth c s.heap [] 0 0 (MQ below (zQr (.double rv)) args s 0 0 (fun _ => False)) (F0 m pc ls [.double v]) := by
  subst hv
  exact W.dret hx hb hr (fun t ht _ => ⟨rfl, ht⟩) (fun _ h => absurd h List.not_mem_nil) hdg hlk
-- ends of a method that writes
theorem zw_i {l0 : List Nat} {w' : va_W} (hx : p.tables.exec = Jvm.exec) (hb : c.code = cc) (hr : meth.sig.returnType = some .int) (hlk : meth.locks = false) (hP : va_P D vwCl ws H) (hS : va_S (zA l0) s.heap H locs) {v rv : Int32} (hv : v = rv ∧ ws = w') (hdg : decode cc pc = .ok (.ireturn, 1)) : W p l e R s m args below meth c H locs 0 0 (MQ below (zQw D l0 w' (some (.int rv))) args s 0 0 (zA l0)) (F0 m pc ls [.int v]) := by
  obtain ⟨rfl, rfl⟩ := hv
  exact W.iret hx hb hr (fun t ht _ => ⟨rfl, by rw [ht]; exact hP, hS.F ht⟩) hS.2.2 hdg hlk
theorem zw_z {l0 : List Nat} {w' : va_W} (hx : p.tables.exec = Jvm.exec) (hb : c.code = cc) (hr : meth.sig.returnType = some .boolean) (hlk : meth.locks = false) (hP : va_P D vwCl ws H) (hS : va_S (zA l0) s.heap H locs) {v : Int32} {B : Bool} (hv : v = zb B ∧ ws = w') (hdg : decode cc pc = .ok (.ireturn, 1)) : W p l e R s m args below meth c H locs 0 0 (MQ below (zQw D l0 w' (some (.int (zb B)))) args s 0 0 (zA l0)) (F0 m pc ls [.int v]) := by
  obtain ⟨rfl, rfl⟩ := hv
  exact W.zret hx hb hr (zb_nar B) (fun t ht _ => ⟨rfl, by rw [ht]; exact hP, hS.F ht⟩) hS.2.2 hdg hlk
theorem zw_l {l0 : List Nat} {w' : va_W} (hx : p.tables.exec = Jvm.exec) (hb : c.code = cc) (hr : meth.sig.returnType = some .long) (hlk : meth.locks = false) (hP : va_P D vwCl ws H) (hS : va_S (zA l0) s.heap H locs) {v rv : Int64} (hv : v = rv ∧ ws = w') (hdg : decode cc pc = .ok (.lreturn, 1)) : W p l e R s m args below meth c H locs 0 0 (MQ below (zQw D l0 w' (some (.long rv))) args s 0 0 (zA l0)) (F0 m pc ls [.long v]) := by
  obtain ⟨rfl, rfl⟩ := hv
  exact W.lret hx hb hr (fun t ht _ => ⟨rfl, by rw [ht]; exact hP, hS.F ht⟩) hS.2.2 hdg hlk
theorem zw_d {l0 : List Nat} {w' : va_W} (hx : p.tables.exec = Jvm.exec) (hb : c.code = cc) (hr : meth.sig.returnType = some .double) (hlk : meth.locks = false) (hP : va_P D vwCl ws H) (hS : va_S (zA l0) s.heap H locs) {v rv : UInt64} (hv : v = rv ∧ ws = w') (hdg : decode cc pc = .ok (.dreturn, 1)) : W p l e R s m args below meth c H locs 0 0 (MQ below (zQw D l0 w' (some (.double rv))) args s 0 0 (zA l0)) (F0 m pc ls [.double v]) := by
  obtain ⟨rfl, rfl⟩ := hv
  exact W.dret hx hb hr (fun t ht _ => ⟨rfl, by rw [ht]; exact hP, hS.F ht⟩) hS.2.2 hdg hlk
theorem zw_v {l0 : List Nat} {w' : va_W} (hx : p.tables.exec = Jvm.exec) (hb : c.code = cc) (hr : meth.sig.returnType = none) (hlk : meth.locks = false) (hP : va_P D vwCl ws H) (hS : va_S (zA l0) s.heap H locs) (hv : ws = w') (hdg : decode cc pc = .ok (.return_, 1)) : W p l e R s m args below meth c H locs 0 0 (MQ below (zQw D l0 w' none) args s 0 0 (zA l0)) (F0 m pc ls []) := by
  subst hv
  exact W.vret hx hb hr (fun t ht _ => ⟨rfl, by rw [ht]; exact hP, hS.F ht⟩) hS.2.2 hdg hlk
-- fields
theorem z_get {C : String} {T : u_T} {N ci index : Nat} (S : CallFix p m c cc nL s args wAll own) (hin : ∀ w ∈ u_ws C T N, w ∈ wAll) (hK : zK D ca s) (hP : va_P D vwCl ws H) (hc : vwCl[ci]? = some (C, T, N)) (q0 : Nat) {fs : List Value} (he : ws[q0]? = some (a, .inr (ci, fs))) (k : Nat) (hk : k < N) (hlink : Cond.fieldLink own index C (T k).2.1 (T k).2.2.1 ∈ wAll) (hr : (T k).1 = C) {v : Value} (hv : fs[k]? = some v) (hdg : decode cc pc = .ok (.getfield index, 3))
    (kk : W p l e R s m args below meth c H locs cells slots Q (F0 m (pc + 3) ls (v :: rest))) : W p l e R s m args below meth c H locs cells slots Q (F0 m pc ls (.ref a :: rest)) :=
  va_get S.1 S.2.1 S.2.2.2.2 hin S.2.2.2.1 hK hP q0 he hc k hk (S.2.2.2.2 _ hlink) (fun _ h => by rw [← hr]; exact h) hv hdg kk
theorem z_put {C : String} {T : u_T} {N ci index : Nat} {ty0 : Nat → FieldType} (S : CallFix p m c cc nL s args wAll own) (hin : ∀ w ∈ u_ws C T N, w ∈ wAll) (hty : ∀ k, k < N → parseFieldDescriptor (T k).2.2.1 = some (ty0 k)) (hnm : ∀ a, a < N → ∀ b, b < N → a ≠ b → (T a).2.1 ≠ (T b).2.1) (hK : zK D ca s) (hP : va_P D vwCl ws H) (hD : va_D A ws) (hS : va_S A H0 H locs) (hc : vwCl[ci]? = some (C, T, N)) (q0 : Nat) {fs : List Value} (he : ws[q0]? = some (a, .inr (ci, fs))) (k : Nat) (hk : k < N) (hlink : Cond.fieldLink own index C (T k).2.1 (T k).2.2.1 ∈ wAll) (hr : (T k).1 = C) (hfin : (T k).2.2.2 = false) {v : Value} (hn : narrow (ty0 k) v = v) (hfit : fits (ty0 k) v = true) (hl : k < fs.length) (hdg : decode cc pc = .ok (.putfield index, 3))
    (kk : ∀ (H1 : Heap) (locs1 : List Loc), va_P D vwCl (ws.set q0 (a, .inr (ci, fs.set k v))) H1 → va_S A H0 H1 locs1 → W p l e R s m args below meth c H1 locs1 cells slots Q (F0 m (pc + 3) ls rest)) : W p l e R s m args below meth c H locs cells slots Q (F0 m pc ls (v :: .ref a :: rest)) :=
  va_put S.1 S.2.1 S.2.2.2.2 hin ty0 hty hnm S.2.2.2.1 hK hP hD hS q0 he hc k hk (S.2.2.2.2 _ hlink) (fun _ h => by rw [← hr]; exact h) hfin (hty k hk) hn hfit hl hdg (fun H1 locs1 h1 _ h3 => kk H1 locs1 h1 h3)
-- arrays
theorem z_iald (S : CallFix p m c cc nL s args wAll own) (hK : zK D ca s) (hP : va_P D vwCl ws H) (q0 : Nat) {n j : Nat} {f : Nat → Int32} (he : ws[q0]? = some (a, .inl (ca 0, n, .inl f))) (hj : j < n) (hn : n < 2 ^ 31) (hdg : decode cc pc = .ok (.iaload, 1))
    (kk : W p l e R s m args below meth c H locs cells slots Q (F0 m (pc + 1) ls (.int (f j) :: rest))) : W p l e R s m args below meth c H locs cells slots Q (F0 m pc ls (.int (nI j) :: .ref a :: rest)) := by
  refine va_iald S.1 S.2.1 hK hP q0 0 he rfl (vp_in_nI hj hn) hdg ?_
  rw [nI_clamp (by omega)]
  exact kk
theorem z_cald (S : CallFix p m c cc nL s args wAll own) (hK : zK D ca s) (hP : va_P D vwCl ws H) (q0 : Nat) {n j : Nat} {f : Nat → Int32} (he : ws[q0]? = some (a, .inl (ca 1, n, .inl f))) (hj : j < n) (hn : n < 2 ^ 31) (hdg : decode cc pc = .ok (.caload, 1))
    (kk : W p l e R s m args below meth c H locs cells slots Q (F0 m (pc + 1) ls (.int (f j) :: rest))) : W p l e R s m args below meth c H locs cells slots Q (F0 m pc ls (.int (nI j) :: .ref a :: rest)) := by
  refine va_cald S.1 S.2.1 hK hP q0 1 he rfl (vp_in_nI hj hn) hdg ?_
  rw [nI_clamp (by omega)]
  exact kk
theorem z_lald (S : CallFix p m c cc nL s args wAll own) (hK : zK D ca s) (hP : va_P D vwCl ws H) (q0 : Nat) {n j : Nat} {f : Nat → Int64} (he : ws[q0]? = some (a, .inl (ca 2, n, .inr (.inl f)))) (hj : j < n) (hn : n < 2 ^ 31) (hdg : decode cc pc = .ok (.laload, 1))
    (kk : W p l e R s m args below meth c H locs cells slots Q (F0 m (pc + 1) ls (.long (f j) :: rest))) : W p l e R s m args below meth c H locs cells slots Q (F0 m pc ls (.int (nI j) :: .ref a :: rest)) := by
  refine va_lald S.1 S.2.1 hK hP q0 2 he rfl (vp_in_nI hj hn) hdg ?_
  rw [nI_clamp (by omega)]
  exact kk
theorem z_aldq (S : CallFix p m c cc nL s args wAll own) (hK : zK D ca s) (hP : va_P D vwCl ws H) (q0 : Nat) {n j : Nat} {f : Nat → Option Nat} (he : ws[q0]? = some (a, .inl (ca 3, n, .inr (.inr (.inr (.inr f)))))) (hj : j < n) (hn : n < 2 ^ 31) {b : Nat} (hf : f j = some b) (hdg : decode cc pc = .ok (.aaload, 1))
    (kk : W p l e R s m args below meth c H locs cells slots Q (F0 m (pc + 1) ls (.ref b :: rest))) : W p l e R s m args below meth c H locs cells slots Q (F0 m pc ls (.int (nI j) :: .ref a :: rest)) := by
  refine va_aldq S.1 S.2.1 hK hP q0 3 he rfl (vp_in_nI hj hn) hdg ?_
  rw [nI_clamp (by omega), hf]
  exact kk
theorem z_iast (S : CallFix p m c cc nL s args wAll own) (hK : zK D ca s) (hP : va_P D vwCl ws H) (hD : va_D A ws) (hS : va_S A H0 H locs) (q0 : Nat) {n j : Nat} {f : Nat → Int32} (he : ws[q0]? = some (a, .inl (ca 0, n, .inl f))) (hj : j < n) (hn : n < 2 ^ 31) {x : Int32} (hdg : decode cc pc = .ok (.iastore, 1))
    (kk : ∀ (H1 : Heap) (locs1 : List Loc), va_P D vwCl (ws.set q0 (a, .inl (ca 0, n, .inl (upd f j x)))) H1 → va_S A H0 H1 locs1 → W p l e R s m args below meth c H1 locs1 cells slots Q (F0 m (pc + 1) ls rest)) : W p l e R s m args below meth c H locs cells slots Q (F0 m pc ls (.int x :: .int (nI j) :: .ref a :: rest)) := by
  refine va_iast S.1 S.2.1 hK hP hD hS q0 0 he rfl (vp_in_nI hj hn) hdg (fun H1 locs1 h1 _ h3 => ?_)
  rw [nI_clamp (by omega)] at h1
  exact kk H1 locs1 h1 h3
theorem z_cast (S : CallFix p m c cc nL s args wAll own) (hK : zK D ca s) (hP : va_P D vwCl ws H) (hD : va_D A ws) (hS : va_S A H0 H locs) (q0 : Nat) {n j : Nat} {f : Nat → Int32} (he : ws[q0]? = some (a, .inl (ca 1, n, .inl f))) (hj : j < n) (hn : n < 2 ^ 31) {k : Nat} (hk : k < 65536) (hdg : decode cc pc = .ok (.castore, 1))
    (kk : ∀ (H1 : Heap) (locs1 : List Loc), va_P D vwCl (ws.set q0 (a, .inl (ca 1, n, .inl (upd f j (nI k))))) H1 → va_S A H0 H1 locs1 → W p l e R s m args below meth c H1 locs1 cells slots Q (F0 m (pc + 1) ls rest)) : W p l e R s m args below meth c H locs cells slots Q (F0 m pc ls (.int (nI k) :: .int (nI j) :: .ref a :: rest)) := by
  refine va_cast S.1 S.2.1 hK hP hD hS q0 1 he rfl (vp_in_nI hj hn) hdg (fun H1 locs1 h1 _ h3 => ?_)
  have h5 : vp_nar .char (nI k) = nI k := by
    have := (pk_charN hk).1
    unfold vp_nar
    rw [this]
  rw [nI_clamp (by omega), h5] at h1
  exact kk H1 locs1 h1 h3
theorem z_last (S : CallFix p m c cc nL s args wAll own) (hK : zK D ca s) (hP : va_P D vwCl ws H) (hD : va_D A ws) (hS : va_S A H0 H locs) (q0 : Nat) {n j : Nat} {f : Nat → Int64} (he : ws[q0]? = some (a, .inl (ca 2, n, .inr (.inl f)))) (hj : j < n) (hn : n < 2 ^ 31) {x : Int64} (hdg : decode cc pc = .ok (.lastore, 1))
    (kk : ∀ (H1 : Heap) (locs1 : List Loc), va_P D vwCl (ws.set q0 (a, .inl (ca 2, n, .inr (.inl (vp_updL f j x))))) H1 → va_S A H0 H1 locs1 → W p l e R s m args below meth c H1 locs1 cells slots Q (F0 m (pc + 1) ls rest)) : W p l e R s m args below meth c H locs cells slots Q (F0 m pc ls (.long x :: .int (nI j) :: .ref a :: rest)) := by
  refine va_last S.1 S.2.1 hK hP hD hS q0 2 he rfl (vp_in_nI hj hn) hdg (fun H1 locs1 h1 _ h3 => ?_)
  rw [nI_clamp (by omega)] at h1
  exact kk H1 locs1 h1 h3
-- compares of small numbers, of booleans
theorem zn_eq (hx : p.tables.exec = Jvm.exec) (hb : c.code = cc) {x y : Nat} (h1 : x < 2 ^ 31) (h2 : y < 2 ^ 31) {off : Int} {tgt : Nat} (hdg : decode cc pc = .ok (.if_icmp .eq off, 3)) (ht : (pc : Int) + off = (tgt : Int)) (kt : x = y → W p l e R s m args below meth c H locs cells slots Q (F0 m tgt ls rest)) (kf : ¬ x = y → W p l e R s m args below meth c H locs cells slots Q (F0 m (pc + 3) ls rest)) : W p l e R s m args below meth c H locs cells slots Q (F0 m pc ls (.int (nI y) :: .int (nI x) :: rest)) :=
  lv_icmp_eq hx hb hdg ht (fun h => kt ((nI_eq h1 h2).mp h)) (fun h => kf (fun q => h ((nI_eq h1 h2).mpr q)))
theorem zn_ne (hx : p.tables.exec = Jvm.exec) (hb : c.code = cc) {x y : Nat} (h1 : x < 2 ^ 31) (h2 : y < 2 ^ 31) {off : Int} {tgt : Nat} (hdg : decode cc pc = .ok (.if_icmp .ne off, 3)) (ht : (pc : Int) + off = (tgt : Int)) (kt : ¬ x = y → W p l e R s m args below meth c H locs cells slots Q (F0 m tgt ls rest)) (kf : x = y → W p l e R s m args below meth c H locs cells slots Q (F0 m (pc + 3) ls rest)) : W p l e R s m args below meth c H locs cells slots Q (F0 m pc ls (.int (nI y) :: .int (nI x) :: rest)) :=
  lv_icmp_ne hx hb hdg ht (fun h => kt (fun q => h ((nI_eq h1 h2).mpr q))) (fun h => kf ((nI_eq h1 h2).mp h))
theorem zn_ge (hx : p.tables.exec = Jvm.exec) (hb : c.code = cc) {x y : Nat} (h1 : x < 2 ^ 31) (h2 : y < 2 ^ 31) {off : Int} {tgt : Nat} (hdg : decode cc pc = .ok (.if_icmp .ge off, 3)) (ht : (pc : Int) + off = (tgt : Int)) (kt : y ≤ x → W p l e R s m args below meth c H locs cells slots Q (F0 m tgt ls rest)) (kf : x < y → W p l e R s m args below meth c H locs cells slots Q (F0 m (pc + 3) ls rest)) : W p l e R s m args below meth c H locs cells slots Q (F0 m pc ls (.int (nI y) :: .int (nI x) :: rest)) :=
  lv_icmp_ge hx hb hdg ht (fun h => kt ((nI_leI h2 h1).mp h)) (fun h => kf (Nat.not_le.mp (fun q => h ((nI_leI h2 h1).mpr q))))
theorem zn_lt (hx : p.tables.exec = Jvm.exec) (hb : c.code = cc) {x y : Nat} (h1 : x < 2 ^ 31) (h2 : y < 2 ^ 31) {off : Int} {tgt : Nat} (hdg : decode cc pc = .ok (.if_icmp .lt off, 3)) (ht : (pc : Int) + off = (tgt : Int)) (kt : x < y → W p l e R s m args below meth c H locs cells slots Q (F0 m tgt ls rest)) (kf : y ≤ x → W p l e R s m args below meth c H locs cells slots Q (F0 m (pc + 3) ls rest)) : W p l e R s m args below meth c H locs cells slots Q (F0 m pc ls (.int (nI y) :: .int (nI x) :: rest)) :=
  lv_icmp_lt hx hb hdg ht (fun h => kt ((nI_ltI h1 h2).mp h)) (fun h => kf (Nat.not_lt.mp (fun q => h ((nI_ltI h1 h2).mpr q))))
theorem zn_gt (hx : p.tables.exec = Jvm.exec) (hb : c.code = cc) {x y : Nat} (h1 : x < 2 ^ 31) (h2 : y < 2 ^ 31) {off : Int} {tgt : Nat} (hdg : decode cc pc = .ok (.if_icmp .gt off, 3)) (ht : (pc : Int) + off = (tgt : Int)) (kt : y < x → W p l e R s m args below meth c H locs cells slots Q (F0 m tgt ls rest)) (kf : x ≤ y → W p l e R s m args below meth c H locs cells slots Q (F0 m (pc + 3) ls rest)) : W p l e R s m args below meth c H locs cells slots Q (F0 m pc ls (.int (nI y) :: .int (nI x) :: rest)) :=
  lv_icmp_gt hx hb hdg ht (fun h => kt ((nI_ltI h2 h1).mp h)) (fun h => kf (Nat.not_lt.mp (fun q => h ((nI_ltI h2 h1).mpr q))))
theorem zn_le (hx : p.tables.exec = Jvm.exec) (hb : c.code = cc) {x y : Nat} (h1 : x < 2 ^ 31) (h2 : y < 2 ^ 31) {off : Int} {tgt : Nat} (hdg : decode cc pc = .ok (.if_icmp .le off, 3)) (ht : (pc : Int) + off = (tgt : Int)) (kt : x ≤ y → W p l e R s m args below meth c H locs cells slots Q (F0 m tgt ls rest)) (kf : y < x → W p l e R s m args below meth c H locs cells slots Q (F0 m (pc + 3) ls rest)) : W p l e R s m args below meth c H locs cells slots Q (F0 m pc ls (.int (nI y) :: .int (nI x) :: rest)) :=
  lv_icmp_le hx hb hdg ht (fun h => kt ((nI_leI h1 h2).mp h)) (fun h => kf (Nat.not_le.mp (fun q => h ((nI_leI h1 h2).mpr q))))
theorem zz_eq (hx : p.tables.exec = Jvm.exec) (hb : c.code = cc) {B : Bool} {off : Int} {tgt : Nat} (hdg : decode cc pc = .ok (.ifCond .eq off, 3)) (ht : (pc : Int) + off = (tgt : Int)) (kt : B = false → W p l e R s m args below meth c H locs cells slots Q (F0 m tgt ls rest)) (kf : B = true → W p l e R s m args below meth c H locs cells slots Q (F0 m (pc + 3) ls rest)) : W p l e R s m args below meth c H locs cells slots Q (F0 m pc ls (.int (zb B) :: rest)) :=
  lv_if_eq hx hb hdg ht (fun h => kt (zb_eq0.mp h)) (fun h => kf (by cases B; exact absurd rfl h; rfl))
theorem zz_ne (hx : p.tables.exec = Jvm.exec) (hb : c.code = cc) {B : Bool} {off : Int} {tgt : Nat} (hdg : decode cc pc = .ok (.ifCond .ne off, 3)) (ht : (pc : Int) + off = (tgt : Int)) (kt : B = true → W p l e R s m args below meth c H locs cells slots Q (F0 m tgt ls rest)) (kf : B = false → W p l e R s m args below meth c H locs cells slots Q (F0 m (pc + 3) ls rest)) : W p l e R s m args below meth c H locs cells slots Q (F0 m pc ls (.int (zb B) :: rest)) :=
  lv_if_ne hx hb hdg ht (fun h => kt (by cases B; exact absurd rfl h; rfl)) (fun h => kf (zb_eq0.mp h))
theorem zn_eq0 (hx : p.tables.exec = Jvm.exec) (hb : c.code = cc) {x : Nat} (h1 : x < 2 ^ 31) {off : Int} {tgt : Nat} (hdg : decode cc pc = .ok (.ifCond .eq off, 3)) (ht : (pc : Int) + off = (tgt : Int)) (kt : x = 0 → W p l e R s m args below meth c H locs cells slots Q (F0 m tgt ls rest)) (kf : ¬ x = 0 → W p l e R s m args below meth c H locs cells slots Q (F0 m (pc + 3) ls rest)) : W p l e R s m args below meth c H locs cells slots Q (F0 m pc ls (.int (nI x) :: rest)) :=
  lv_if_eq hx hb hdg ht (fun h => kt ((nI_eq h1 (Nat.two_pow_pos 31)).mp h)) (fun h => kf (fun q => h ((nI_eq h1 (Nat.two_pow_pos 31)).mpr q)))
theorem zn_ne0 (hx : p.tables.exec = Jvm.exec) (hb : c.code = cc) {x : Nat} (h1 : x < 2 ^ 31) {off : Int} {tgt : Nat} (hdg : decode cc pc = .ok (.ifCond .ne off, 3)) (ht : (pc : Int) + off = (tgt : Int)) (kt : ¬ x = 0 → W p l e R s m args below meth c H locs cells slots Q (F0 m tgt ls rest)) (kf : x = 0 → W p l e R s m args below meth c H locs cells slots Q (F0 m (pc + 3) ls rest)) : W p l e R s m args below meth c H locs cells slots Q (F0 m pc ls (.int (nI x) :: rest)) :=
  lv_if_ne hx hb hdg ht (fun h => kt (fun q => h ((nI_eq h1 (Nat.two_pow_pos 31)).mpr q))) (fun h => kf ((nI_eq h1 (Nat.two_pow_pos 31)).mp h))
theorem zn_le0 (hx : p.tables.exec = Jvm.exec) (hb : c.code = cc) {x : Nat} (h1 : x < 2 ^ 31) {off : Int} {tgt : Nat} (hdg : decode cc pc = .ok (.ifCond .le off, 3)) (ht : (pc : Int) + off = (tgt : Int)) (kt : x = 0 → W p l e R s m args below meth c H locs cells slots Q (F0 m tgt ls rest)) (kf : ¬ x = 0 → W p l e R s m args below meth c H locs cells slots Q (F0 m (pc + 3) ls rest)) : W p l e R s m args below meth c H locs cells slots Q (F0 m pc ls (.int (nI x) :: rest)) :=
  lv_if_le hx hb hdg ht (fun h => kt (Nat.le_zero.mp ((nI_leI h1 (Nat.two_pow_pos 31)).mp h))) (fun h => kf (fun q => h ((nI_leI h1 (Nat.two_pow_pos 31)).mpr (Nat.le_zero.mpr q))))
-- steps on small numbers
theorem zn_add (hx : p.tables.exec = Jvm.exec) (hb : c.code = cc) {x y z : Nat} (hz : x + y = z) (hdg : decode cc pc = .ok (.iadd, 1)) (k : W p l e R s m args below meth c H locs cells slots Q (F0 m (pc + 1) ls (.int (nI z) :: rest))) : W p l e R s m args below meth c H locs cells slots Q (F0 m pc ls (.int (nI y) :: .int (nI x) :: rest)) :=
  t_iadd hx hb hdg (by rw [← hz]; exact nI_add x y) k
theorem zn_sub (hx : p.tables.exec = Jvm.exec) (hb : c.code = cc) {x y z : Nat} (hz : x = z + y) (hdg : decode cc pc = .ok (.isub, 1)) (k : W p l e R s m args below meth c H locs cells slots Q (F0 m (pc + 1) ls (.int (nI z) :: rest))) : W p l e R s m args below meth c H locs cells slots Q (F0 m pc ls (.int (nI y) :: .int (nI x) :: rest)) :=
  t_isub hx hb hdg (by rw [pk_sub (by omega), hz, Nat.add_sub_cancel]) k
theorem zn_mul (hx : p.tables.exec = Jvm.exec) (hb : c.code = cc) {x y z : Nat} (hz : x * y = z) (hdg : decode cc pc = .ok (.imul, 1)) (k : W p l e R s m args below meth c H locs cells slots Q (F0 m (pc + 1) ls (.int (nI z) :: rest))) : W p l e R s m args below meth c H locs cells slots Q (F0 m pc ls (.int (nI y) :: .int (nI x) :: rest)) :=
  t_imul hx hb hdg (by rw [← hz]; exact pk_mul x y) k
theorem zn_div (hx : p.tables.exec = Jvm.exec) (hb : c.code = cc) {x y z : Nat} (h1 : x < 2 ^ 31) (h0 : 0 < y) (h2 : y < 2 ^ 31) (hz : x / y = z) (hdg : decode cc pc = .ok (.idiv, 1)) (k : W p l e R s m args below meth c H locs cells slots Q (F0 m (pc + 1) ls (.int (nI z) :: rest))) : W p l e R s m args below meth c H locs cells slots Q (F0 m pc ls (.int (nI y) :: .int (nI x) :: rest)) :=
  lv_idiv hx hb hdg (nI_ne0 h0 h2) (by rw [pk_div h1 h0 h2, hz]; exact k)
theorem zn_rem (hx : p.tables.exec = Jvm.exec) (hb : c.code = cc) {x y z : Nat} (h1 : x < 2 ^ 31) (h0 : 0 < y) (h2 : y < 2 ^ 31) (hz : x % y = z) (hdg : decode cc pc = .ok (.irem, 1)) (k : W p l e R s m args below meth c H locs cells slots Q (F0 m (pc + 1) ls (.int (nI z) :: rest))) : W p l e R s m args below meth c H locs cells slots Q (F0 m pc ls (.int (nI y) :: .int (nI x) :: rest)) :=
  t_irem hx hb hdg (nI_ne0 h0 h2) (by rw [pk_rem h1 h0 h2, hz]) k
theorem zn_l {x : Int32} {n : Nat} (h : n = n) : nI n = nI n := rfl
-- calls
theorem zcr {y : MethodName} {b : ByteArray} {nY : Nat} {rt : Option FieldType} {fr lo n index ci q0 : Nat} {w : va_W} {As : List Value} {rv : Value} {q : Nat} {fs : List Value} {r : vw_C} {st0 : List Value} (S : CallFix p m c cc nL s args wAll own) (hM : zMr l y b nY rt fr lo D ca w (.ref q :: As) rv) (hl : Cond.methodLink own index y ∈ wAll) (hY : zY y b nY rt n) (him : Cond.instanceMethod y ∈ wAll) (hse : Cond.selects y.cls y y ∈ wAll)
    (hR : fr + 1 ≤ R.frames ∧ 8 + (nY + 11) + lo ≤ R.locals) (hK : zK D ca s) (hP : va_P D vwCl ws H) (is : List Nat) (hC : is.filterMap (fun i => ws[i]?) = w) (hq : w[q0]? = some (q, .inr (ci, fs))) (hc : vwCl[ci]? = some r) (hr : y.cls = r.1) (hn : As.length = n) (hsz : ls.size = nL) (hst : st0 = As.reverse ++ .ref q :: rest) (hroom : (rest.map fun v => v.category).sum ≤ 8) (hcs : cells ≤ R.cells ∧ slots ≤ R.slots) (hdg : decode cc pc = .ok (.invokevirtual index, 3))
    (kk : W p l e R s m args below meth c H locs cells slots Q (F0 m (pc + 3) ls (rv :: rest))) : W p l e R s m args below meth c H locs cells slots Q (F0 m pc ls st0) := by
  have hPc := hP.sub is hC
  have hcw : CallW R s args own y.cls index y b nY rt (Cond.code y b nY rt :: wAll) { frames := fr, cells := 0, slots := 0, locals := lo } 0 0 n := cwV n S.2.2.2.2 (zgood (fun w hw => by
    unfold wsV at hw
    rcases List.mem_append.mp hw with h | h
    · simp only [List.mem_cons, List.not_mem_nil, or_false] at h
      rcases h with h | h | h | h <;> rw [h]
      · exact hl
      · exact him
      · exact hse
      · exact hY.2.1
    · rcases List.mem_cons.mp h with h | h
      · rw [h]; exact hY.1
      · exact h)) rfl rfl rfl ⟨rfl, hY.2.2.1, hY.2.2.2.1, hY.2.2.2.2⟩ hR
  have hrun := va_runV (rest := rest) (g := F0 m pc ls st0) (H := H) (locs := locs) (cells := cells) (slots := slots) (below := below) (e := e) (meth := meth) S hM hcw ⟨zblind, hr ▸ va_recv hK hPc hc hq, fun U hU hW => ⟨rfl, by rw [hU]; exact hPc, va_K.moved hW.alike hK⟩⟩ rfl hn hsz hst (lv_room hroom) hdg ⟨by simpa using hcs.1, by simpa using hcs.2⟩
  intro T hT X
  obtain ⟨v, st₀, t, T', L, h0, X', hL, e1, -, ⟨hv, hh⟩, st⟩ := hrun T hT X
  cases hv
  obtain ⟨t2, a1, b1⟩ := kk T' (by rw [e1, hh, h0]) (Stand.forget X' (fun q h => (hL q h).elim))
  exact ⟨t2, st t2 a1, b1⟩
theorem zcrS {y : MethodName} {b : ByteArray} {nY : Nat} {rt : Option FieldType} {fr lo n index : Nat} {w : va_W} {As : List Value} {rv : Value} {st0 : List Value} (S : CallFix p m c cc nL s args wAll own) (hM : zMr l y b nY rt fr lo D ca w As rv) (hl : Cond.methodLink own index y ∈ wAll) (hY : zY y b nY rt n) (hstt : Cond.static y ∈ wAll)
    (hR : fr + 1 ≤ R.frames ∧ 8 + (nY + 11) + lo ≤ R.locals) (hK : zK D ca s) (hP : va_P D vwCl ws H) (is : List Nat) (hC : is.filterMap (fun i => ws[i]?) = w) (hn : As.length = n) (hsz : ls.size = nL) (hst : st0 = As.reverse ++ rest) (hroom : (rest.map fun v => v.category).sum ≤ 8) (hcs : cells ≤ R.cells ∧ slots ≤ R.slots) (hdg : decode cc pc = .ok (.invokestatic index, 3))
    (kk : W p l e R s m args below meth c H locs cells slots Q (F0 m (pc + 3) ls (rv :: rest))) : W p l e R s m args below meth c H locs cells slots Q (F0 m pc ls st0) := by
  have hPc := hP.sub is hC
  have hcw := va_cwS (R := R) (mc := 0) (ms := 0) (rm := { frames := fr, cells := 0, slots := 0, locals := lo }) (ws := Cond.code y b nY rt :: wAll) n S.2.2.2.2 (zgood (fun w hw => by
    unfold va_wsS at hw
    rcases List.mem_append.mp hw with h | h
    · simp only [List.mem_cons, List.not_mem_nil, or_false] at h
      rcases h with h | h | h <;> rw [h]
      · exact hl
      · exact hstt
      · exact hY.2.1
    · rcases List.mem_cons.mp h with h | h
      · rw [h]; exact hY.1
      · exact h)) rfl rfl rfl ⟨hY.2.2.1, hY.2.2.2.1, hY.2.2.2.2⟩ hR
  have hrun := va_runS (rest := rest) (g := F0 m pc ls st0) (H := H) (locs := locs) (cells := cells) (slots := slots) (below := below) (e := e) (meth := meth) S hM hcw ⟨zblind, fun U hU hW => ⟨rfl, by rw [hU]; exact hPc, va_K.moved hW.alike hK⟩⟩ rfl hn hsz hst (lv_room hroom) hdg ⟨by simpa using hcs.1, by simpa using hcs.2⟩
  intro T hT X
  obtain ⟨v, st₀, t, T', L, h0, X', hL, e1, -, ⟨hv, hh⟩, st⟩ := hrun T hT X
  cases hv
  obtain ⟨t2, a1, b1⟩ := kk T' (by rw [e1, hh, h0]) (Stand.forget X' (fun q h => (hL q h).elim))
  exact ⟨t2, st t2 a1, b1⟩
theorem zcw {y : MethodName} {b : ByteArray} {nY : Nat} {rt : Option FieldType} {fr lo n index ci q0 : Nat} {w w' : va_W} {As : List Value} {rv : Option Value} {q : Nat} {fs : List Value} {r : vw_C} {st0 st1 : List Value} (S : CallFix p m c cc nL s args wAll own) (hM : zMw l y b nY rt fr lo D ca w w' (.ref q :: As) rv) (hl : Cond.methodLink own index y ∈ wAll) (hY : zY y b nY rt n) (him : Cond.instanceMethod y ∈ wAll) (hse : Cond.selects y.cls y y ∈ wAll)
    (hR : fr + 1 ≤ R.frames ∧ 8 + (nY + 11) + lo ≤ R.locals) (hK : zK D ca s) (hP : va_P D vwCl ws H) (hD : va_D A ws) (hS : va_S A H0 H locs) (is : List Nat) (hC : is.map (fun i => ws[i]?) = w.map some) (hf : w'.map Prod.fst = w.map Prod.fst) (hq : w[q0]? = some (q, .inr (ci, fs))) (hc : vwCl[ci]? = some r) (hr : y.cls = r.1) (hn : As.length = n) (hsz : ls.size = nL) (hst : st0 = As.reverse ++ .ref q :: rest) (hst1 : rv.toList ++ rest = st1) (hroom : (rest.map fun v => v.category).sum ≤ 8) (hcs : cells ≤ R.cells ∧ slots ≤ R.slots) (hdg : decode cc pc = .ok (.invokevirtual index, 3))
    (kk : ∀ (H1 : Heap) (locs1 : List Loc), va_P D vwCl (zset ws is w') H1 → va_S A H0 H1 locs1 → W p l e R s m args below meth c H1 locs1 cells slots Q (F0 m (pc + 3) ls st1)) : W p l e R s m args below meth c H locs cells slots Q (F0 m pc ls st0) := by
  subst hst1
  have hCf : is.filterMap (fun i => ws[i]?) = w := by
    have h1 : (is.map (fun i => ws[i]?)).filterMap id = (w.map some).filterMap id := by rw [hC]
    rw [List.filterMap_map, List.filterMap_map] at h1
    simpa [Function.comp_def] using h1
  have hPc := hP.sub is hCf
  have hcw : CallW R s args own y.cls index y b nY rt (Cond.code y b nY rt :: wAll) { frames := fr, cells := 0, slots := 0, locals := lo } 0 0 n := cwV n S.2.2.2.2 (zgood (fun w hw => by
    unfold wsV at hw
    rcases List.mem_append.mp hw with h | h
    · simp only [List.mem_cons, List.not_mem_nil, or_false] at h
      rcases h with h | h | h | h <;> rw [h]
      · exact hl
      · exact him
      · exact hse
      · exact hY.2.1
    · rcases List.mem_cons.mp h with h | h
      · rw [h]; exact hY.1
      · exact h)) rfl rfl rfl ⟨rfl, hY.2.2.1, hY.2.2.2.1, hY.2.2.2.2⟩ hR
  have hrun := va_runV (rest := rest) (g := F0 m pc ls st0) (H := H) (locs := locs) (cells := cells) (slots := slots) (below := below) (e := e) (meth := meth) S hM hcw ⟨zblind, hr ▸ va_recv hK hPc hc hq, fun U hU hW => ⟨rfl, by rw [hU]; exact hPc, va_K.moved hW.alike hK⟩⟩ rfl hn hsz hst (lv_room hroom) hdg ⟨by simpa using hcs.1, by simpa using hcs.2⟩
  have hsub : ∀ q ∈ w.map Prod.fst, A q := by
    intro q h
    obtain ⟨x, hx, rfl⟩ := List.mem_map.mp h
    rw [← hCf] at hx
    obtain ⟨i, -, hi⟩ := List.mem_filterMap.mp hx
    exact hD.2 i x hi
  intro T hT X
  obtain ⟨v, st₀, t, T', L, h0, X', hL, e1, -, ⟨hv, hp1, hz, hk⟩, st⟩ := hrun T hT X
  cases hv
  rw [h0] at hz hk
  have hk' : ∀ q : Nat, q < H.size → ¬ zA (w.map Prod.fst) q → T'.heap[q]? = H[q]? := fun q h1 h2 => by rw [e1]; exact hk q h1 h2
  obtain ⟨t2, a1, b1⟩ := kk T'.heap (locs ++ L) (zback hP hD hC hf hk' (by rw [e1]; exact hp1)) ⟨Nat.le_trans hS.1 (by rw [e1]; exact hz), fun q h1 h2 => by rw [hk' q (Nat.lt_of_lt_of_le h1 hS.1) (fun z => h2 (hsub q z))]; exact hS.2.1 q h1 h2, fun q hq => by
      rcases List.mem_append.mp hq with h | h
      · exact hS.2.2 q h
      · exact hsub _ (hL q h)⟩ T' rfl X'
  exact ⟨t2, st t2 a1, b1⟩
end ZK
end
section
/-! WHAT THE CLASS' TABLE TELLS, as functions: values, cameBy, wentBy, markedBy, clock, takenOut -/
abbrev zTb : Type := (Nat → Int32) × (Nat → Int32) × (Nat → Int32) × (Nat → Int32) × Int32 × Int32
def zcnt (P : Nat → Bool) : Nat → Nat → Int32 → Int32
  | 0, _, a => a
  | f + 1, k, a => zcnt P f (k + 1) (if P k then a + 1 else a)
theorem zcnt_t {P : Nat → Bool} {f k : Nat} {a : Int32} (h : P k = true) : zcnt P (f + 1) k a = zcnt P f (k + 1) (a + 1) := by simp [zcnt, h]
theorem zcnt_f {P : Nat → Bool} {f k : Nat} {a : Int32} (h : P k = false) : zcnt P (f + 1) k a = zcnt P f (k + 1) a := by simp [zcnt, h]
def zall (P : Nat → Bool) : Nat → Nat → Bool
  | 0, _ => true
  | f + 1, k => P k && zall P f (k + 1)
theorem zall_t {P : Nat → Bool} {f k : Nat} (h : P k = true) : zall P (f + 1) k = zall P f (k + 1) := by simp [zall, h]
theorem zall_f {P : Nat → Bool} {f k : Nat} (h : P k = false) : zall P (f + 1) k = false := by simp [zall, h]
def zany (P : Nat → Bool) : Nat → Nat → Bool
  | 0, _ => false
  | f + 1, k => P k || zany P f (k + 1)
theorem zany_t {P : Nat → Bool} {f k : Nat} (h : P k = true) : zany P (f + 1) k = true := by simp [zany, h]
theorem zany_f {P : Nat → Bool} {f k : Nat} (h : P k = false) : zany P (f + 1) k = zany P f (k + 1) := by simp [zany, h]
def zfst (P : Nat → Bool) : Nat → Nat → Nat
  | 0, k => k
  | f + 1, k => if P k then k else zfst P f (k + 1)
theorem zfst_t {P : Nat → Bool} {f k : Nat} (h : P k = true) : zfst P (f + 1) k = k := by simp [zfst, h]
theorem zfst_f {P : Nat → Bool} {f k : Nat} (h : P k = false) : zfst P (f + 1) k = zfst P f (k + 1) := by simp [zfst, h]
theorem zfst_le (P : Nat → Bool) : ∀ f k, k ≤ zfst P f k ∧ zfst P f k ≤ k + f := by
  intro f
  induction f with
  | zero => intro k; exact ⟨Nat.le_refl _, Nat.le_refl _⟩
  | succ f ih =>
    intro k
    have h := ih (k + 1)
    by_cases hp : P k = true
    · rw [zfst_t hp]; omega
    · rw [zfst_f (by simpa using hp)]; omega
def zNo (n : Nat) : Int32 := if n < 24 then nI n else -1
theorem zinc (x n : Nat) : nI x + Int32.ofInt n = nI (x + n) := by
  rw [show Int32.ofInt (n : Int) = nI n from Int32.ofInt_eq_ofNat]
  exact nI_add x n
theorem nI_nem1 {n : Nat} (h : n < 2 ^ 31) : ¬ nI n = -1 := fun e => by
  have h1 := congrArg Int32.toInt e
  rw [nI_toInt h] at h1
  have h2 : (-1 : Int32).toInt = -1 := by decide
  rw [h2] at h1
  omega
theorem zb_fit (b : Bool) : fits .boolean (.int (zb b)) = true := by cases b <;> rfl
def zSeen (T : zTb) (k : Nat) (t : Int32) : Bool := if T.1 k = -1 then false else if t < T.2.1 k then false else if T.2.2.1 k = 0 then true else decide (t < T.2.2.1 k)
def zMk (T : zTb) (p : Nat) : Bool := decide (¬ T.2.2.2.1 p = -1)
def zLow (T : zTb) : Nat := zfst (fun k => decide (T.1 k = -1)) 24 0
def zOut (T : zTb) (k : Nat) (h : Int32) : Bool := !decide (T.2.2.1 k ≤ 0) && !decide (h < T.2.2.1 k)
def zAll (T : zTb) (k : Nat) (h : Int32) : Bool := !decide (h < T.2.1 k) && decide (T.2.2.1 k = 0)
def zVs (T : zTb) (n i : Nat) : Int32 := zcnt (fun k => decide (¬ T.1 k = -1)) n i 0
def zVn (T : zTb) (n i : Nat) (t : Int32) : Int32 := zcnt (fun k => zSeen T k t) n i 0
def zVo (T : zTb) (n i : Nat) (h : Int32) : Int32 := zcnt (fun k => zOut T k h) n i 0
def zMp (T : zTb) : Int32 := zcnt (zMk T) 6 0 0
def zTr (T : zTb) (t : Int32) : Bool := zall (fun p => decide (T.2.2.2.1 p ≤ t)) 6 0
def zBm (T : zTb) (t : Int32) (w : Nat) : Bool := decide (w = 2) && zTr T t
def zAns (T : zTb) (t v : Int32) (w : Nat) : Int32 := zcnt (fun k => decide (T.1 k = v) && ((zBm T t w && zMk T (k / 4)) || zSeen T k t)) 24 0 0
def zHas (T : zTb) (p : Nat) (v : Int32) : Bool := zany (fun k => decide (T.1 k = v)) 4 (p * 4)
def zCost (T : zTb) (t v : Int32) (w : Nat) : Int32 := if w = 0 then 6 else zcnt (fun p => zHas T p v && !(zBm T t w && zMk T p)) 6 0 0
def zWr (T : zTb) (v : Int32) : Int32 := zcnt (fun k => decide (T.1 k = v) && !zSeen T k T.2.2.2.2.1) 24 0 0
def zlcF (C : Nat → Int32) : Nat → Nat → Nat → Nat
  | 0, _, b => b
  | f + 1, k, b => zlcF C f (k + 1) (if C b < C k then b else k)
def zLc (T : zTb) (v : Int32) : Nat := zlcF (zCost T T.2.2.2.2.1 v) 2 1 0
def zCome (T : zTb) (k : Nat) (v : Int32) : zTb := (upd T.1 k v, upd T.2.1 k T.2.2.2.2.1, upd T.2.2.1 k 0, upd T.2.2.2.1 (k / 4) (-1), T.2.2.2.2.1, T.2.2.2.2.2)
def zGo (T : zTb) (k : Nat) : zTb := (T.1, T.2.1, upd T.2.2.1 k T.2.2.2.2.1, upd T.2.2.2.1 (k / 4) (-1), T.2.2.2.2.1, T.2.2.2.2.2)
def zEmp (T : zTb) (k : Nat) : zTb := (upd T.1 k (-1), upd T.2.1 k (-1), upd T.2.2.1 k (-1), T.2.2.2.1, T.2.2.2.2.1, T.2.2.2.2.2)
def zTick (T : zTb) : zTb := (T.1, T.2.1, T.2.2.1, T.2.2.2.1, T.2.2.2.2.1 + 1, T.2.2.2.2.2)
def zPut (T : zTb) (v : Int32) : Int32 × zTb := if zLow T < 24 then (nI (zLow T), zCome (zTick T) (zLow T) v) else (-1, T)
def zTake (T : zTb) (k : Nat) : Bool × zTb := if zSeen T k T.2.2.2.2.1 then (true, zGo (zTick T) k) else (false, T)
def zChg (T : zTb) (k : Nat) (v : Int32) : Int32 × zTb := if zLow T < 24 then (if zSeen T k T.2.2.2.2.1 then (nI (zLow T), zCome (zGo (zTick T) k) (zLow T) v) else (-1, T)) else (-1, T)
def zsw (h : Int32) : Nat → Nat → zTb → Int32 → Bool → zTb × Int32 × Bool
  | 0, _, T, n, b => (T, n, b)
  | f + 1, k, T, n, b => if zOut T k h then zsw h f (k + 1) (zEmp T k) (n + 1) b else if T.1 k = -1 then zsw h f (k + 1) T n b else if zAll T k h then zsw h f (k + 1) T n b else zsw h f (k + 1) T n false
def zswE (r : zTb × Int32 × Bool) (p : Nat) (h : Int32) : Int32 × zTb := (r.2.1, (r.1.1, r.1.2.1, r.1.2.2.1, if r.2.2 then upd r.1.2.2.2.1 p h else r.1.2.2.2.1, r.1.2.2.2.2.1, r.1.2.2.2.2.2 + r.2.1))
def zSweep (T : zTb) (p : Nat) (h : Int32) : Int32 × zTb := zswE (zsw h 4 (p * 4) T 0 true) p h
section ZL
variable {p : Program} {l : Launch} {e : Env} {R : Room} {s : State} {m : MethodId} {args : Array Value} {below : List Frame} {meth : Method} {c : Code} {H : Heap} {locs : List Loc} {cells slots : Nat} {Q : State → Prop} {cc : ByteArray} {pc : Nat} {ls : Array Slot} {rest : List Value}
theorem zNo_c {n : Nat} (k1 : n < 24 → W p l e R s m args below meth c H locs cells slots Q (F0 m pc ls (.int (nI n) :: rest))) (k2 : ¬ n < 24 → W p l e R s m args below meth c H locs cells slots Q (F0 m pc ls (.int (-1) :: rest))) : W p l e R s m args below meth c H locs cells slots Q (F0 m pc ls (.int (zNo n) :: rest)) := by
  unfold zNo
  by_cases h : n < 24
  · rw [if_pos h]; exact k1 h
  · rw [if_neg h]; exact k2 h
theorem z_tabIn (hx : p.tables.exec = Jvm.exec) (hb : c.code = cc) {dflt lo hi : Int} {offs : Array Int} {len : Nat} {x k : Nat} {off : Int} {tgt : Nat} (hk : x = k) (hk2 : k < 2 ^ 31) (hdg : decode cc pc = .ok (.tableswitch dflt lo hi offs, len)) (h1 : ¬ (k : Int) < lo) (h2 : ¬ hi < (k : Int)) (ho : offs[((k : Int) - lo).toNat]? = some off) (ht : (pc : Int) + off = (tgt : Int))
    (kk : W p l e R s m args below meth c H locs cells slots Q (F0 m tgt ls rest)) : W p l e R s m args below meth c H locs cells slots Q (F0 m pc ls (.int (nI x) :: rest)) := by
  subst hk
  refine lv_tableIn hx hb hdg ?_ ?_ ?_ ht kk <;> rw [nI_toInt hk2]
  · exact h1
  · exact h2
  · exact ho
theorem z_tabOut (hx : p.tables.exec = Jvm.exec) (hb : c.code = cc) {dflt lo hi : Int} {offs : Array Int} {len : Nat} {x : Nat} {tgt : Nat} (hk2 : x < 2 ^ 31) (hdg : decode cc pc = .ok (.tableswitch dflt lo hi offs, len)) (h : (x : Int) < lo ∨ hi < (x : Int)) (ht : (pc : Int) + dflt = (tgt : Int))
    (kk : W p l e R s m args below meth c H locs cells slots Q (F0 m tgt ls rest)) : W p l e R s m args below meth c H locs cells slots Q (F0 m pc ls (.int (nI x) :: rest)) :=
  lv_tableOut hx hb hdg (by rw [nI_toInt hk2]; exact h) ht kk
end ZL
end
section
theorem zy_X6_init : zY yX6_init cX6_init 1 none 0 := ⟨co_X6_init, in_X6, by decide, by decide, by decide +kernel⟩
theorem zy_X2_init : zY yX2_init cX2_init 1 none 0 := ⟨co_X2_init, in_X2, by decide, by decide, by decide +kernel⟩
theorem zy_X3_init : zY yX3_init cX3_init 1 none 0 := ⟨co_X3_init, in_X3, by decide, by decide, by decide +kernel⟩
theorem zy_J7_fill_53178 : zY yJ7_fill_53178 cJ7_fill_53178 4 none 2 := ⟨co_J7_fill_53178, in_J7, by decide, by decide, by decide +kernel⟩
theorem zy_X0_init : zY yX0_init cX0_init 1 none 0 := ⟨co_X0_init, in_X0, by decide, by decide, by decide +kernel⟩
theorem zy_X4_init : zY yX4_init cX4_init 1 none 0 := ⟨co_X4_init, in_X4, by decide, by decide, by decide +kernel⟩
theorem zy_X1_init : zY yX1_init cX1_init 2 none 0 := ⟨co_X1_init, in_X1, by decide, by decide, by decide +kernel⟩
theorem zy_X5_init : zY yX5_init cX5_init 1 none 0 := ⟨co_X5_init, in_X5, by decide, by decide, by decide +kernel⟩
theorem zy_X6_sweepAll : zY yX6_sweepAll cX6_sweepAll 3 (some .int) 0 := ⟨co_X6_sweepAll, in_X6, by decide, by decide, by decide +kernel⟩
theorem zy_X1_save : zY yX1_save cX1_save 2 none 1 := ⟨co_X1_save, in_X1, by decide, by decide, by decide +kernel⟩
theorem zy_X2_copyFrom : zY yX2_copyFrom cX2_copyFrom 2 none 1 := ⟨co_X2_copyFrom, in_X2, by decide, by decide, by decide +kernel⟩
theorem zy_X3_copyFrom : zY yX3_copyFrom cX3_copyFrom 2 none 1 := ⟨co_X3_copyFrom, in_X3, by decide, by decide, by decide +kernel⟩
theorem zy_X0_copyFrom : zY yX0_copyFrom cX0_copyFrom 2 none 1 := ⟨co_X0_copyFrom, in_X0, by decide, by decide, by decide +kernel⟩
theorem zy_X4_copyFrom : zY yX4_copyFrom cX4_copyFrom 2 none 1 := ⟨co_X4_copyFrom, in_X4, by decide, by decide, by decide +kernel⟩
theorem zy_X2_horizon : zY yX2_horizon cX2_horizon 1 (some .int) 0 := ⟨co_X2_horizon, in_X2, by decide, by decide, by decide +kernel⟩
theorem zy_X0_horizonWithout : zY yX0_horizonWithout cX0_horizonWithout 5 (some .int) 2 := ⟨co_X0_horizonWithout, in_X0, by decide, by decide, by decide +kernel⟩
theorem zy_X3_sweepPage : zY yX3_sweepPage cX3_sweepPage 7 (some .int) 2 := ⟨co_X3_sweepPage, in_X3, by decide, by decide, by decide +kernel⟩
theorem zy_X3_isToTakeOut : zY yX3_isToTakeOut cX3_isToTakeOut 3 (some .boolean) 2 := ⟨co_X3_isToTakeOut, in_X3, by decide, by decide, by decide +kernel⟩
theorem zy_X3_empty : zY yX3_empty cX3_empty 2 none 1 := ⟨co_X3_empty, in_X3, by decide, by decide, by decide +kernel⟩
theorem zy_X3_isSeenByAll : zY yX3_isSeenByAll cX3_isSeenByAll 3 (some .boolean) 2 := ⟨co_X3_isSeenByAll, in_X3, by decide, by decide, by decide +kernel⟩
theorem zy_X3_markedPages : zY yX3_markedPages cX3_markedPages 3 (some .int) 0 := ⟨co_X3_markedPages, in_X3, by decide, by decide, by decide +kernel⟩
theorem zy_X3_isMarked : zY yX3_isMarked cX3_isMarked 2 (some .boolean) 1 := ⟨co_X3_isMarked, in_X3, by decide, by decide, by decide +kernel⟩
theorem zy_X6_clearBuffer : zY yX6_clearBuffer cX6_clearBuffer 1 (some .int) 0 := ⟨co_X6_clearBuffer, in_X6, by decide, by decide, by decide +kernel⟩
theorem zy_X5_wipe : zY yX5_wipe cX5_wipe 2 (some .int) 0 := ⟨co_X5_wipe, in_X5, by decide, by decide, by decide +kernel⟩
theorem zy_X6_firstError : zY yX6_firstError cX6_firstError 1 (some .int) 0 := ⟨co_X6_firstError, in_X6, by decide, by decide, by decide +kernel⟩
theorem zy_X5_readAll : zY yX5_readAll cX5_readAll 3 (some .boolean) 0 := ⟨co_X5_readAll, in_X5, by decide, by decide, by decide +kernel⟩
theorem zy_X5_rewind : zY yX5_rewind cX5_rewind 1 none 0 := ⟨co_X5_rewind, in_X5, by decide, by decide, by decide +kernel⟩
theorem zy_X5_readNext : zY yX5_readNext cX5_readNext 2 (some .boolean) 0 := ⟨co_X5_readNext, in_X5, by decide, by decide, by decide +kernel⟩
theorem zy_X5_readSign : zY yX5_readSign cX5_readSign 2 (some .boolean) 1 := ⟨co_X5_readSign, in_X5, by decide, by decide, by decide +kernel⟩
theorem zy_X5_signAt : zY yX5_signAt cX5_signAt 2 (some .char) 1 := ⟨co_X5_signAt, in_X5, by decide, by decide, by decide +kernel⟩
theorem zy_X5_readDigit : zY yX5_readDigit cX5_readDigit 3 (some .boolean) 1 := ⟨co_X5_readDigit, in_X5, by decide, by decide, by decide +kernel⟩
theorem zy_X5_digitHere : zY yX5_digitHere cX5_digitHere 2 (some .int) 0 := ⟨co_X5_digitHere, in_X5, by decide, by decide, by decide +kernel⟩
theorem zy_X5_readPlace : zY yX5_readPlace cX5_readPlace 3 (some .boolean) 0 := ⟨co_X5_readPlace, in_X5, by decide, by decide, by decide +kernel⟩
theorem zy_X6_holder : zY yX6_holder cX6_holder 1 (some .int) 0 := ⟨co_X6_holder, in_X6, by decide, by decide, by decide +kernel⟩
theorem zy_X6_mostHolding : zY yX6_mostHolding cX6_mostHolding 6 (some .int) 0 := ⟨co_X6_mostHolding, in_X6, by decide, by decide, by decide +kernel⟩
theorem zy_X3_versionsToTakeOut : zY yX3_versionsToTakeOut cX3_versionsToTakeOut 6 (some .int) 3 := ⟨co_X3_versionsToTakeOut, in_X3, by decide, by decide, by decide +kernel⟩
theorem zy_X6_marked : zY yX6_marked cX6_marked 1 (some .double) 0 := ⟨co_X6_marked, in_X6, by decide, by decide, by decide +kernel⟩
theorem zy_X6_markedShare : zY yX6_markedShare cX6_markedShare 1 (some .double) 0 := ⟨co_X6_markedShare, in_X6, by decide, by decide, by decide +kernel⟩
theorem zy_X6_digest : zY yX6_digest cX6_digest 4 (some .long) 0 := ⟨co_X6_digest, in_X6, by decide, by decide, by decide +kernel⟩
theorem zy_X6_countNumber : zY yX6_countNumber cX6_countNumber 3 (some .int) 1 := ⟨co_X6_countNumber, in_X6, by decide, by decide, by decide +kernel⟩
theorem zy_X3_versions : zY yX3_versions cX3_versions 5 (some .int) 2 := ⟨co_X3_versions, in_X3, by decide, by decide, by decide +kernel⟩
theorem zy_X3_versionsSeen : zY yX3_versionsSeen cX3_versionsSeen 6 (some .int) 3 := ⟨co_X3_versionsSeen, in_X3, by decide, by decide, by decide +kernel⟩
theorem zy_X3_isSeen : zY yX3_isSeen cX3_isSeen 3 (some .boolean) 2 := ⟨co_X3_isSeen, in_X3, by decide, by decide, by decide +kernel⟩
theorem zy_X6_mix : zY yX6_mix cX6_mix 4 (some .long) 2 := ⟨co_X6_mix, in_X6, by decide, by decide, by decide +kernel⟩
theorem zy_X6_mixParts : zY yX6_mixParts cX6_mixParts 7 (some .long) 1 := ⟨co_X6_mixParts, in_X6, by decide, by decide, by decide +kernel⟩
theorem zy_X6_slotNumber : zY yX6_slotNumber cX6_slotNumber 4 (some .int) 2 := ⟨co_X6_slotNumber, in_X6, by decide, by decide, by decide +kernel⟩
theorem zy_X3_isSeenNow : zY yX3_isSeenNow cX3_isSeenNow 2 (some .boolean) 1 := ⟨co_X3_isSeenNow, in_X3, by decide, by decide, by decide +kernel⟩
theorem zy_X6_pageNumber : zY yX6_pageNumber cX6_pageNumber 6 (some .int) 2 := ⟨co_X6_pageNumber, in_X6, by decide, by decide, by decide +kernel⟩
theorem zy_X6_askerNumber : zY yX6_askerNumber cX6_askerNumber 4 (some .int) 2 := ⟨co_X6_askerNumber, in_X6, by decide, by decide, by decide +kernel⟩
theorem zy_X6_mixValue : zY yX6_mixValue cX6_mixValue 8 (some .long) 2 := ⟨co_X6_mixValue, in_X6, by decide, by decide, by decide +kernel⟩
theorem zy_X3_answer : zY yX3_answer cX3_answer 7 (some .int) 3 := ⟨co_X3_answer, in_X3, by decide, by decide, by decide +kernel⟩
theorem zy_X3_mayTrustMarks : zY yX3_mayTrustMarks cX3_mayTrustMarks 3 (some .boolean) 1 := ⟨co_X3_mayTrustMarks, in_X3, by decide, by decide, by decide +kernel⟩
theorem zy_X3_cost : zY yX3_cost cX3_cost 7 (some .int) 3 := ⟨co_X3_cost, in_X3, by decide, by decide, by decide +kernel⟩
theorem zy_X3_indexHas : zY yX3_indexHas cX3_indexHas 5 (some .boolean) 2 := ⟨co_X3_indexHas, in_X3, by decide, by decide, by decide +kernel⟩
theorem zy_X3_wronglyTold : zY yX3_wronglyTold cX3_wronglyTold 4 (some .int) 1 := ⟨co_X3_wronglyTold, in_X3, by decide, by decide, by decide +kernel⟩
theorem zy_X3_leastCostWay : zY yX3_leastCostWay cX3_leastCostWay 4 (some .int) 1 := ⟨co_X3_leastCostWay, in_X3, by decide, by decide, by decide +kernel⟩
theorem zy_X6_bitsOfShare : zY yX6_bitsOfShare cX6_bitsOfShare 7 (some .long) 1 := ⟨co_X6_bitsOfShare, in_X6, by decide, by decide, by decide +kernel⟩
theorem zy_X6_put : zY yX6_put cX6_put 2 (some .int) 1 := ⟨co_X6_put, in_X6, by decide, by decide, by decide +kernel⟩
theorem zy_X6_isOutside : zY yX6_isOutside cX6_isOutside 2 (some .boolean) 2 := ⟨co_X6_isOutside, in_X6, by decide, by decide, by decide +kernel⟩
theorem zy_X3_hasEmptySlot : zY yX3_hasEmptySlot cX3_hasEmptySlot 1 (some .boolean) 0 := ⟨co_X3_hasEmptySlot, in_X3, by decide, by decide, by decide +kernel⟩
theorem zy_X3_lowestEmptySlot : zY yX3_lowestEmptySlot cX3_lowestEmptySlot 2 (some .int) 0 := ⟨co_X3_lowestEmptySlot, in_X3, by decide, by decide, by decide +kernel⟩
theorem zy_X3_putValue : zY yX3_putValue cX3_putValue 3 (some .int) 1 := ⟨co_X3_putValue, in_X3, by decide, by decide, by decide +kernel⟩
theorem zy_X3_come : zY yX3_come cX3_come 3 none 2 := ⟨co_X3_come, in_X3, by decide, by decide, by decide +kernel⟩
theorem zy_X6_take : zY yX6_take cX6_take 2 (some .int) 1 := ⟨co_X6_take, in_X6, by decide, by decide, by decide +kernel⟩
theorem zy_X3_takeAway : zY yX3_takeAway cX3_takeAway 2 (some .boolean) 1 := ⟨co_X3_takeAway, in_X3, by decide, by decide, by decide +kernel⟩
theorem zy_X3_go : zY yX3_go cX3_go 2 none 1 := ⟨co_X3_go, in_X3, by decide, by decide, by decide +kernel⟩
theorem zy_X6_change : zY yX6_change cX6_change 3 (some .int) 2 := ⟨co_X6_change, in_X6, by decide, by decide, by decide +kernel⟩
theorem zy_X3_changeTo : zY yX3_changeTo cX3_changeTo 4 (some .int) 2 := ⟨co_X3_changeTo, in_X3, by decide, by decide, by decide +kernel⟩
theorem zy_X6_open : zY yX6_open cX6_open 2 (some .int) 1 := ⟨co_X6_open, in_X6, by decide, by decide, by decide +kernel⟩
theorem zy_X6_close : zY yX6_close cX6_close 3 (some .int) 1 := ⟨co_X6_close, in_X6, by decide, by decide, by decide +kernel⟩
theorem zy_X6_sweep : zY yX6_sweep cX6_sweep 2 (some .int) 1 := ⟨co_X6_sweep, in_X6, by decide, by decide, by decide +kernel⟩
theorem zy_X6_ask : zY yX6_ask cX6_ask 5 (some .int) 3 := ⟨co_X6_ask, in_X6, by decide, by decide, by decide +kernel⟩
theorem zy_X4_add : zY yX4_add cX4_add 4 none 3 := ⟨co_X4_add, in_X4, by decide, by decide, by decide +kernel⟩
theorem zy_X6_append : zY yX6_append cX6_append 2 (some .int) 1 := ⟨co_X6_append, in_X6, by decide, by decide, by decide +kernel⟩
theorem zy_X5_add : zY yX5_add cX5_add 2 (some .int) 1 := ⟨co_X5_add, in_X5, by decide, by decide, by decide +kernel⟩
theorem zy_X6_play : zY yX6_play cX6_play 2 (some .int) 0 := ⟨co_X6_play, in_X6, by decide, by decide, by decide +kernel⟩
theorem zy_X6_makeParts : zY yX6_makeParts cX6_makeParts 3 (some .int) 0 := ⟨co_X6_makeParts, in_X6, by decide, by decide, by decide +kernel⟩
theorem zy_X2_make : zY yX2_make cX2_make 4 (some .boolean) 3 := ⟨co_X2_make, in_X2, by decide, by decide, by decide +kernel⟩
theorem zy_X6_undo : zY yX6_undo cX6_undo 1 (some .int) 0 := ⟨co_X6_undo, in_X6, by decide, by decide, by decide +kernel⟩
theorem zy_X1_restore : zY yX1_restore cX1_restore 2 none 1 := ⟨co_X1_restore, in_X1, by decide, by decide, by decide +kernel⟩
theorem zy_X6_slot : zY yX6_slot cX6_slot 3 (some .int) 2 := ⟨co_X6_slot, in_X6, by decide, by decide, by decide +kernel⟩
theorem zy_X6_page : zY yX6_page cX6_page 3 (some .int) 2 := ⟨co_X6_page, in_X6, by decide, by decide, by decide +kernel⟩
theorem zy_X6_asker : zY yX6_asker cX6_asker 3 (some .int) 2 := ⟨co_X6_asker, in_X6, by decide, by decide, by decide +kernel⟩
theorem zy_X6_count : zY yX6_count cX6_count 2 (some .int) 1 := ⟨co_X6_count, in_X6, by decide, by decide, by decide +kernel⟩
theorem zy_X6_ifAsked : zY yX6_ifAsked cX6_ifAsked 5 (some .int) 4 := ⟨co_X6_ifAsked, in_X6, by decide, by decide, by decide +kernel⟩
theorem zy_X6_lies : zY yX6_lies cX6_lies 2 (some .int) 1 := ⟨co_X6_lies, in_X6, by decide, by decide, by decide +kernel⟩
theorem zy_X6_cheapest : zY yX6_cheapest cX6_cheapest 2 (some .int) 1 := ⟨co_X6_cheapest, in_X6, by decide, by decide, by decide +kernel⟩
theorem zy_X7_init : zY yX7_init cX7_init 1 none 0 := ⟨co_X7_init, in_X7, by decide, by decide, by decide +kernel⟩
theorem zy_X7_thrown : zY yX7_thrown cX7_thrown 1 (some .int) 0 := ⟨co_X7_thrown, in_X7, by decide, by decide, by decide +kernel⟩
theorem zy_X7_put : zY yX7_put cX7_put 2 (some .int) 1 := ⟨co_X7_put, in_X7, by decide, by decide, by decide +kernel⟩
theorem zy_X7_in : zY yX7_in cX7_in 3 (some .boolean) 3 := ⟨co_X7_in, in_X7, by decide, by decide, by decide +kernel⟩
theorem zy_X7_fails : zY yX7_fails cX7_fails 2 (some .int) 1 := ⟨co_X7_fails, in_X7, by decide, by decide, by decide +kernel⟩
theorem zy_X7_canChange : zY yX7_canChange cX7_canChange 4 (some .boolean) 2 := ⟨co_X7_canChange, in_X7, by decide, by decide, by decide +kernel⟩
theorem zy_X7_isPlace : zY yX7_isPlace cX7_isPlace 1 (some .boolean) 1 := ⟨co_X7_isPlace, in_X7, by decide, by decide, by decide +kernel⟩
theorem zy_X7_isSeen : zY yX7_isSeen cX7_isSeen 4 (some .boolean) 2 := ⟨co_X7_isSeen, in_X7, by decide, by decide, by decide +kernel⟩
theorem zy_X7_isFull : zY yX7_isFull cX7_isFull 2 (some .boolean) 1 := ⟨co_X7_isFull, in_X7, by decide, by decide, by decide +kernel⟩
theorem zy_X7_of : zY yX7_of cX7_of 3 (some .int) 2 := ⟨co_X7_of, in_X7, by decide, by decide, by decide +kernel⟩
theorem zy_X7_lowestEmpty : zY yX7_lowestEmpty cX7_lowestEmpty 2 (some .int) 0 := ⟨co_X7_lowestEmpty, in_X7, by decide, by decide, by decide +kernel⟩
theorem zy_X7_saves : zY yX7_saves cX7_saves 2 none 0 := ⟨co_X7_saves, in_X7, by decide, by decide, by decide +kernel⟩
theorem zy_X7_changes : zY yX7_changes cX7_changes 5 (some .int) 3 := ⟨co_X7_changes, in_X7, by decide, by decide, by decide +kernel⟩
theorem zy_X7_goes : zY yX7_goes cX7_goes 2 none 1 := ⟨co_X7_goes, in_X7, by decide, by decide, by decide +kernel⟩
theorem zy_X7_unmarks : zY yX7_unmarks cX7_unmarks 2 none 1 := ⟨co_X7_unmarks, in_X7, by decide, by decide, by decide +kernel⟩
theorem zy_X7_comes : zY yX7_comes cX7_comes 3 none 2 := ⟨co_X7_comes, in_X7, by decide, by decide, by decide +kernel⟩
theorem zy_X7_lay : zY yX7_lay cX7_lay 5 none 4 := ⟨co_X7_lay, in_X7, by decide, by decide, by decide +kernel⟩
theorem zy_X7_take : zY yX7_take cX7_take 2 (some .int) 1 := ⟨co_X7_take, in_X7, by decide, by decide, by decide +kernel⟩
theorem zy_X7_change : zY yX7_change cX7_change 3 (some .int) 2 := ⟨co_X7_change, in_X7, by decide, by decide, by decide +kernel⟩
theorem zy_X7_open : zY yX7_open cX7_open 2 (some .int) 1 := ⟨co_X7_open, in_X7, by decide, by decide, by decide +kernel⟩
theorem zy_X7_isAsker : zY yX7_isAsker cX7_isAsker 1 (some .boolean) 1 := ⟨co_X7_isAsker, in_X7, by decide, by decide, by decide +kernel⟩
theorem zy_X7_close : zY yX7_close cX7_close 3 (some .int) 1 := ⟨co_X7_close, in_X7, by decide, by decide, by decide +kernel⟩
theorem zy_X7_snapshotOf : zY yX7_snapshotOf cX7_snapshotOf 2 (some .int) 1 := ⟨co_X7_snapshotOf, in_X7, by decide, by decide, by decide +kernel⟩
theorem zy_X7_sweep : zY yX7_sweep cX7_sweep 2 (some .int) 1 := ⟨co_X7_sweep, in_X7, by decide, by decide, by decide +kernel⟩
theorem zy_X7_isPage : zY yX7_isPage cX7_isPage 1 (some .boolean) 1 := ⟨co_X7_isPage, in_X7, by decide, by decide, by decide +kernel⟩
theorem zy_X7_sweeps : zY yX7_sweeps cX7_sweeps 6 (some .int) 1 := ⟨co_X7_sweeps, in_X7, by decide, by decide, by decide +kernel⟩
theorem zy_X7_horizon : zY yX7_horizon cX7_horizon 1 (some .int) 0 := ⟨co_X7_horizon, in_X7, by decide, by decide, by decide +kernel⟩
theorem zy_X7_horizonBut : zY yX7_horizonBut cX7_horizonBut 5 (some .int) 1 := ⟨co_X7_horizonBut, in_X7, by decide, by decide, by decide +kernel⟩
theorem zy_X7_oldIn : zY yX7_oldIn cX7_oldIn 5 (some .int) 2 := ⟨co_X7_oldIn, in_X7, by decide, by decide, by decide +kernel⟩
theorem zy_X7_isOld : zY yX7_isOld cX7_isOld 3 (some .boolean) 2 := ⟨co_X7_isOld, in_X7, by decide, by decide, by decide +kernel⟩
theorem zy_X7_sweepAll : zY yX7_sweepAll cX7_sweepAll 2 (some .int) 0 := ⟨co_X7_sweepAll, in_X7, by decide, by decide, by decide +kernel⟩
theorem zy_X7_markedPages : zY yX7_markedPages cX7_markedPages 3 (some .int) 0 := ⟨co_X7_markedPages, in_X7, by decide, by decide, by decide +kernel⟩
theorem zy_X7_ofPage : zY yX7_ofPage cX7_ofPage 3 (some .int) 2 := ⟨co_X7_ofPage, in_X7, by decide, by decide, by decide +kernel⟩
theorem zy_X7_ask : zY yX7_ask cX7_ask 5 (some .int) 3 := ⟨co_X7_ask, in_X7, by decide, by decide, by decide +kernel⟩
theorem zy_X7_truly : zY yX7_truly cX7_truly 3 (some .int) 2 := ⟨co_X7_truly, in_X7, by decide, by decide, by decide +kernel⟩
theorem zy_X7_greatestMark : zY yX7_greatestMark cX7_greatestMark 3 (some .int) 0 := ⟨co_X7_greatestMark, in_X7, by decide, by decide, by decide +kernel⟩
theorem zy_X7_costs : zY yX7_costs cX7_costs 8 (some .int) 3 := ⟨co_X7_costs, in_X7, by decide, by decide, by decide +kernel⟩
theorem zy_X7_hasIn : zY yX7_hasIn cX7_hasIn 5 (some .boolean) 2 := ⟨co_X7_hasIn, in_X7, by decide, by decide, by decide +kernel⟩
theorem zy_X7_hasValue : zY yX7_hasValue cX7_hasValue 3 (some .boolean) 2 := ⟨co_X7_hasValue, in_X7, by decide, by decide, by decide +kernel⟩
theorem zy_X7_answers : zY yX7_answers cX7_answers 8 (some .int) 3 := ⟨co_X7_answers, in_X7, by decide, by decide, by decide +kernel⟩
theorem zy_X7_append : zY yX7_append cX7_append 2 (some .int) 1 := ⟨co_X7_append, in_X7, by decide, by decide, by decide +kernel⟩
theorem zy_X7_clearBuffer : zY yX7_clearBuffer cX7_clearBuffer 2 (some .int) 0 := ⟨co_X7_clearBuffer, in_X7, by decide, by decide, by decide +kernel⟩
theorem zy_X7_firstError : zY yX7_firstError cX7_firstError 1 (some .int) 0 := ⟨co_X7_firstError, in_X7, by decide, by decide, by decide +kernel⟩
theorem zy_X7_readsAll : zY yX7_readsAll cX7_readsAll 1 none 0 := ⟨co_X7_readsAll, in_X7, by decide, by decide, by decide +kernel⟩
theorem zy_X7_readsChange : zY yX7_readsChange cX7_readsChange 4 none 0 := ⟨co_X7_readsChange, in_X7, by decide, by decide, by decide +kernel⟩
theorem zy_X7_sign : zY yX7_sign cX7_sign 1 (some .int) 0 := ⟨co_X7_sign, in_X7, by decide, by decide, by decide +kernel⟩
theorem zy_X7_digit : zY yX7_digit cX7_digit 3 (some .int) 1 := ⟨co_X7_digit, in_X7, by decide, by decide, by decide +kernel⟩
theorem zy_X7_placeRead : zY yX7_placeRead cX7_placeRead 2 (some .int) 0 := ⟨co_X7_placeRead, in_X7, by decide, by decide, by decide +kernel⟩
theorem zy_X7_play : zY yX7_play cX7_play 2 (some .int) 0 := ⟨co_X7_play, in_X7, by decide, by decide, by decide +kernel⟩
theorem zy_X7_makes : zY yX7_makes cX7_makes 3 (some .boolean) 1 := ⟨co_X7_makes, in_X7, by decide, by decide, by decide +kernel⟩
theorem zy_X7_undo : zY yX7_undo cX7_undo 2 (some .int) 0 := ⟨co_X7_undo, in_X7, by decide, by decide, by decide +kernel⟩
theorem zy_X7_slot : zY yX7_slot cX7_slot 3 (some .int) 2 := ⟨co_X7_slot, in_X7, by decide, by decide, by decide +kernel⟩
theorem zy_X7_tellsSlot : zY yX7_tellsSlot cX7_tellsSlot 3 (some .int) 2 := ⟨co_X7_tellsSlot, in_X7, by decide, by decide, by decide +kernel⟩
theorem zy_X7_page : zY yX7_page cX7_page 3 (some .int) 2 := ⟨co_X7_page, in_X7, by decide, by decide, by decide +kernel⟩
theorem zy_X7_tellsPage : zY yX7_tellsPage cX7_tellsPage 3 (some .int) 2 := ⟨co_X7_tellsPage, in_X7, by decide, by decide, by decide +kernel⟩
theorem zy_X7_versions : zY yX7_versions cX7_versions 7 (some .int) 4 := ⟨co_X7_versions, in_X7, by decide, by decide, by decide +kernel⟩
theorem zy_X7_asker : zY yX7_asker cX7_asker 3 (some .int) 2 := ⟨co_X7_asker, in_X7, by decide, by decide, by decide +kernel⟩
theorem zy_X7_tellsAsker : zY yX7_tellsAsker cX7_tellsAsker 4 (some .int) 2 := ⟨co_X7_tellsAsker, in_X7, by decide, by decide, by decide +kernel⟩
theorem zy_X7_count : zY yX7_count cX7_count 2 (some .int) 1 := ⟨co_X7_count, in_X7, by decide, by decide, by decide +kernel⟩
theorem zy_X7_tellsCount : zY yX7_tellsCount cX7_tellsCount 2 (some .int) 1 := ⟨co_X7_tellsCount, in_X7, by decide, by decide, by decide +kernel⟩
theorem zy_X7_ifAsked : zY yX7_ifAsked cX7_ifAsked 6 (some .int) 4 := ⟨co_X7_ifAsked, in_X7, by decide, by decide, by decide +kernel⟩
theorem zy_X7_lies : zY yX7_lies cX7_lies 2 (some .int) 1 := ⟨co_X7_lies, in_X7, by decide, by decide, by decide +kernel⟩
theorem zy_X7_tellsLies : zY yX7_tellsLies cX7_tellsLies 4 (some .int) 1 := ⟨co_X7_tellsLies, in_X7, by decide, by decide, by decide +kernel⟩
theorem zy_X7_cheapest : zY yX7_cheapest cX7_cheapest 2 (some .int) 1 := ⟨co_X7_cheapest, in_X7, by decide, by decide, by decide +kernel⟩
theorem zy_X7_cheapestWay : zY yX7_cheapestWay cX7_cheapestWay 4 (some .int) 1 := ⟨co_X7_cheapestWay, in_X7, by decide, by decide, by decide +kernel⟩
theorem zy_X7_holder : zY yX7_holder cX7_holder 1 (some .int) 0 := ⟨co_X7_holder, in_X7, by decide, by decide, by decide +kernel⟩
theorem zy_X7_holderNow : zY yX7_holderNow cX7_holderNow 5 (some .int) 0 := ⟨co_X7_holderNow, in_X7, by decide, by decide, by decide +kernel⟩
theorem zy_X7_oldOnes : zY yX7_oldOnes cX7_oldOnes 4 (some .int) 1 := ⟨co_X7_oldOnes, in_X7, by decide, by decide, by decide +kernel⟩
theorem zy_X7_marked : zY yX7_marked cX7_marked 1 (some .double) 0 := ⟨co_X7_marked, in_X7, by decide, by decide, by decide +kernel⟩
theorem zy_X7_share : zY yX7_share cX7_share 1 (some .double) 0 := ⟨co_X7_share, in_X7, by decide, by decide, by decide +kernel⟩
theorem zy_X7_digest : zY yX7_digest cX7_digest 2 (some .long) 0 := ⟨co_X7_digest, in_X7, by decide, by decide, by decide +kernel⟩
theorem zy_X7_hashes : zY yX7_hashes cX7_hashes 3 none 1 := ⟨co_X7_hashes, in_X7, by decide, by decide, by decide +kernel⟩
theorem zy_X7_hashesValue : zY yX7_hashesValue cX7_hashesValue 3 none 1 := ⟨co_X7_hashesValue, in_X7, by decide, by decide, by decide +kernel⟩
theorem zy_Jxe99ae_doubleToLongBits_ccdee : zY yJxe99ae_doubleToLongBits_ccdee cJxe99ae_doubleToLongBits_ccdee 2 (some .long) 1 := ⟨co_Jxe99ae_doubleToLongBits_ccdee, in_Jxe99ae, by decide, by decide, by decide +kernel⟩
theorem zy_Jxe99ae_isNaN_b9ae7 : zY yJxe99ae_isNaN_b9ae7 cJxe99ae_isNaN_b9ae7 2 (some .boolean) 1 := ⟨co_Jxe99ae_isNaN_b9ae7, in_Jxe99ae, by decide, by decide, by decide +kernel⟩
end
section
set_option maxHeartbeats 4000000 in
set_option maxRecDepth 100000 in
/-- Table.isSeen -/
theorem c_X3_isSeen (l : Launch) (D : va_G) (ca : Nat → ClassId) (a : Nat → Nat) (T : zTb) (k : Nat) (hk : k < 24) (t : Int32) : zMr l yX3_isSeen cX3_isSeen 3 (some .boolean) 0 0 D ca [(a 1, .inr (3, [.ref (a 2), .ref (a 3), .ref (a 4), .ref (a 5), .int T.2.2.2.2.1, .int T.2.2.2.2.2])), (a 2, .inl (ca 0, 24, .inl T.1)), (a 3, .inl (ca 0, 24, .inl T.2.1)), (a 4, .inl (ca 0, 24, .inl T.2.2.1)), (a 5, .inl (ca 0, 6, .inl T.2.2.2.1))] [.ref (a 1), .int (nI k), .int t] (.int (zb (zSeen T k t))) := by
  refine zMr_of (own := RX3) (by decide) rfl (Nat.le_of_ble_eq_true rfl) ?_
  intro p e s m args below meth c ls S hr hlk hP hK hl
  have hx := S.1
  have hb := S.2.1
  have hl : lv_has ls 3 [(0, .ref (a 1)), (1, .int (nI k)), (2, .int t)] := hl
  refine lv_aload_n hx hb dX3_isSeen_0 rfl (lv_at hl 0 rfl) ?_
  refine z_get S in_lay_X3 hK hP rfl 0 rfl 0 (by decide) fl_X3_9 rfl rfl dX3_isSeen_1 ?_
  refine lv_iload_n hx hb dX3_isSeen_4 rfl (lv_at hl 1 rfl) ?_
  refine z_iald S hK hP 1 rfl (j := k) (by omega) (by decide) dX3_isSeen_5 ?_
  refine lv_iconst (v := (-1)) hx hb dX3_isSeen_6 (by decide) ?_
  refine lv_icmp_eq (tgt := 20) hx hb dX3_isSeen_7 (by decide) (fun c_7_1 => ?_) (fun c_7_1 => ?_)
  · refine lv_iconst (v := 0) hx hb dX3_isSeen_20 (by decide) ?_
    exact zr_z hx hb hr hlk (by simp [zSeen, zb, c_7_1]) dX3_isSeen_21
  · refine lv_aload_n hx hb dX3_isSeen_10 rfl (lv_at hl 0 rfl) ?_
    refine z_get S in_lay_X3 hK hP rfl 0 rfl 1 (by decide) fl_X3_15 rfl rfl dX3_isSeen_11 ?_
    refine lv_iload_n hx hb dX3_isSeen_14 rfl (lv_at hl 1 rfl) ?_
    refine z_iald S hK hP 2 rfl (j := k) (by omega) (by decide) dX3_isSeen_15 ?_
    refine lv_iload_n hx hb dX3_isSeen_16 rfl (lv_at hl 2 rfl) ?_
    refine lv_icmp_le (tgt := 22) hx hb dX3_isSeen_17 (by decide) (fun c_17_2 => ?_) (fun c_17_2 => ?_)
    · refine lv_aload_n hx hb dX3_isSeen_22 rfl (lv_at hl 0 rfl) ?_
      refine z_get S in_lay_X3 hK hP rfl 0 rfl 2 (by decide) fl_X3_18 rfl rfl dX3_isSeen_23 ?_
      refine lv_iload_n hx hb dX3_isSeen_26 rfl (lv_at hl 1 rfl) ?_
      refine z_iald S hK hP 3 rfl (j := k) (by omega) (by decide) dX3_isSeen_27 ?_
      refine lv_if_eq (tgt := 41) hx hb dX3_isSeen_28 (by decide) (fun c_28_3 => ?_) (fun c_28_3 => ?_)
      · refine lv_iconst (v := 1) hx hb dX3_isSeen_41 (by decide) ?_
        refine lv_goto (tgt := 46) hx hb dX3_isSeen_42 (by decide) ?_
        exact zr_z hx hb hr hlk (by simp [zSeen, zb, c_7_1, c_17_2, c_28_3]) dX3_isSeen_46
      · refine lv_aload_n hx hb dX3_isSeen_31 rfl (lv_at hl 0 rfl) ?_
        refine z_get S in_lay_X3 hK hP rfl 0 rfl 2 (by decide) fl_X3_18 rfl rfl dX3_isSeen_32 ?_
        refine lv_iload_n hx hb dX3_isSeen_35 rfl (lv_at hl 1 rfl) ?_
        refine z_iald S hK hP 3 rfl (j := k) (by omega) (by decide) dX3_isSeen_36 ?_
        refine lv_iload_n hx hb dX3_isSeen_37 rfl (lv_at hl 2 rfl) ?_
        refine lv_icmp_le (tgt := 45) hx hb dX3_isSeen_38 (by decide) (fun c_38_4 => ?_) (fun c_38_4 => ?_)
        · refine lv_iconst (v := 0) hx hb dX3_isSeen_45 (by decide) ?_
          exact zr_z hx hb hr hlk (by simp [zSeen, zb, c_7_1, c_17_2, c_28_3, c_38_4]) dX3_isSeen_46
        · refine lv_iconst (v := 1) hx hb dX3_isSeen_41 (by decide) ?_
          refine lv_goto (tgt := 46) hx hb dX3_isSeen_42 (by decide) ?_
          exact zr_z hx hb hr hlk (by simp [zSeen, zb, c_7_1, c_17_2, c_28_3, c_38_4]) dX3_isSeen_46
    · refine lv_iconst (v := 0) hx hb dX3_isSeen_20 (by decide) ?_
      exact zr_z hx hb hr hlk (by simp [zSeen, zb, c_7_1, c_17_2]) dX3_isSeen_21
set_option maxHeartbeats 4000000 in
set_option maxRecDepth 100000 in
theorem c_X3_isSeenNow (l : Launch) (D : va_G) (ca : Nat → ClassId) (a : Nat → Nat) (T : zTb) (k : Nat) (hk : k < 24) : zMr l yX3_isSeenNow cX3_isSeenNow 2 (some .boolean) 1 22 D ca [(a 1, .inr (3, [.ref (a 2), .ref (a 3), .ref (a 4), .ref (a 5), .int T.2.2.2.2.1, .int T.2.2.2.2.2])), (a 2, .inl (ca 0, 24, .inl T.1)), (a 3, .inl (ca 0, 24, .inl T.2.1)), (a 4, .inl (ca 0, 24, .inl T.2.2.1)), (a 5, .inl (ca 0, 6, .inl T.2.2.2.1))] [.ref (a 1), .int (nI k)] (.int (zb (zSeen T k T.2.2.2.2.1))) := by
  refine zMr_of (own := RX3) (by decide) rfl (Nat.le_of_ble_eq_true rfl) ?_
  intro p e s m args below meth c ls S hr hlk hP hK hl
  have hx := S.1
  have hb := S.2.1
  have hl : lv_has ls 2 [(0, .ref (a 1)), (1, .int (nI k))] := hl
  refine lv_aload_n hx hb dX3_isSeenNow_0 rfl (lv_at hl 0 rfl) ?_
  refine lv_iload_n hx hb dX3_isSeenNow_1 rfl (lv_at hl 1 rfl) ?_
  refine lv_aload_n hx hb dX3_isSeenNow_2 rfl (lv_at hl 0 rfl) ?_
  refine z_get S in_lay_X3 hK hP rfl 0 rfl 4 (by decide) fl_X3_36 rfl rfl dX3_isSeenNow_3 ?_
  refine zcr (As := [.int (nI k), .int T.2.2.2.2.1]) (rest := []) (q0 := 0) S (c_X3_isSeen l D ca a T k (by omega) T.2.2.2.2.1) ml_X3_43 zy_X3_isSeen im_X3_isSeen se_X3_isSeen ⟨Nat.le_of_ble_eq_true rfl, Nat.le_of_ble_eq_true rfl⟩ hK hP [0, 1, 2, 3, 4] rfl rfl rfl rfl rfl hl.1 rfl (Nat.le_of_ble_eq_true rfl) ⟨Nat.zero_le _, Nat.zero_le _⟩ dX3_isSeenNow_6 ?_
  exact zr_z hx hb hr hlk (by rfl) dX3_isSeenNow_9
set_option maxHeartbeats 4000000 in
set_option maxRecDepth 100000 in
theorem c_X3_isMarked (l : Launch) (D : va_G) (ca : Nat → ClassId) (a : Nat → Nat) (T : zTb) (k : Nat) (hk : k < 6) : zMr l yX3_isMarked cX3_isMarked 2 (some .boolean) 0 0 D ca [(a 1, .inr (3, [.ref (a 2), .ref (a 3), .ref (a 4), .ref (a 5), .int T.2.2.2.2.1, .int T.2.2.2.2.2])), (a 2, .inl (ca 0, 24, .inl T.1)), (a 3, .inl (ca 0, 24, .inl T.2.1)), (a 4, .inl (ca 0, 24, .inl T.2.2.1)), (a 5, .inl (ca 0, 6, .inl T.2.2.2.1))] [.ref (a 1), .int (nI k)] (.int (zb (zMk T k))) := by
  refine zMr_of (own := RX3) (by decide) rfl (Nat.le_of_ble_eq_true rfl) ?_
  intro p e s m args below meth c ls S hr hlk hP hK hl
  have hx := S.1
  have hb := S.2.1
  have hl : lv_has ls 2 [(0, .ref (a 1)), (1, .int (nI k))] := hl
  refine lv_aload_n hx hb dX3_isMarked_0 rfl (lv_at hl 0 rfl) ?_
  refine z_get S in_lay_X3 hK hP rfl 0 rfl 3 (by decide) fl_X3_21 rfl rfl dX3_isMarked_1 ?_
  refine lv_iload_n hx hb dX3_isMarked_4 rfl (lv_at hl 1 rfl) ?_
  refine z_iald S hK hP 4 rfl (j := k) (by omega) (by decide) dX3_isMarked_5 ?_
  refine lv_iconst (v := (-1)) hx hb dX3_isMarked_6 (by decide) ?_
  refine lv_icmp_eq (tgt := 14) hx hb dX3_isMarked_7 (by decide) (fun c_7_1 => ?_) (fun c_7_1 => ?_)
  · refine lv_iconst (v := 0) hx hb dX3_isMarked_14 (by decide) ?_
    exact zr_z hx hb hr hlk (by simp [zMk, zb, c_7_1]) dX3_isMarked_15
  · refine lv_iconst (v := 1) hx hb dX3_isMarked_10 (by decide) ?_
    refine lv_goto (tgt := 15) hx hb dX3_isMarked_11 (by decide) ?_
    exact zr_z hx hb hr hlk (by simp [zMk, zb, c_7_1]) dX3_isMarked_15
set_option maxHeartbeats 4000000 in
set_option maxRecDepth 100000 in
theorem c_X3_isToTakeOut (l : Launch) (D : va_G) (ca : Nat → ClassId) (a : Nat → Nat) (T : zTb) (k : Nat) (hk : k < 24) (t : Int32) : zMr l yX3_isToTakeOut cX3_isToTakeOut 3 (some .boolean) 0 0 D ca [(a 1, .inr (3, [.ref (a 2), .ref (a 3), .ref (a 4), .ref (a 5), .int T.2.2.2.2.1, .int T.2.2.2.2.2])), (a 2, .inl (ca 0, 24, .inl T.1)), (a 3, .inl (ca 0, 24, .inl T.2.1)), (a 4, .inl (ca 0, 24, .inl T.2.2.1)), (a 5, .inl (ca 0, 6, .inl T.2.2.2.1))] [.ref (a 1), .int (nI k), .int t] (.int (zb (zOut T k t))) := by
  refine zMr_of (own := RX3) (by decide) rfl (Nat.le_of_ble_eq_true rfl) ?_
  intro p e s m args below meth c ls S hr hlk hP hK hl
  have hx := S.1
  have hb := S.2.1
  have hl : lv_has ls 3 [(0, .ref (a 1)), (1, .int (nI k)), (2, .int t)] := hl
  refine lv_aload_n hx hb dX3_isToTakeOut_0 rfl (lv_at hl 0 rfl) ?_
  refine z_get S in_lay_X3 hK hP rfl 0 rfl 2 (by decide) fl_X3_18 rfl rfl dX3_isToTakeOut_1 ?_
  refine lv_iload_n hx hb dX3_isToTakeOut_4 rfl (lv_at hl 1 rfl) ?_
  refine z_iald S hK hP 3 rfl (j := k) (by omega) (by decide) dX3_isToTakeOut_5 ?_
  refine lv_if_le (tgt := 23) hx hb dX3_isToTakeOut_6 (by decide) (fun c_6_1 => ?_) (fun c_6_1 => ?_)
  · refine lv_iconst (v := 0) hx hb dX3_isToTakeOut_23 (by decide) ?_
    exact zr_z hx hb hr hlk (by simp [zOut, zb, c_6_1]) dX3_isToTakeOut_24
  · refine lv_aload_n hx hb dX3_isToTakeOut_9 rfl (lv_at hl 0 rfl) ?_
    refine z_get S in_lay_X3 hK hP rfl 0 rfl 2 (by decide) fl_X3_18 rfl rfl dX3_isToTakeOut_10 ?_
    refine lv_iload_n hx hb dX3_isToTakeOut_13 rfl (lv_at hl 1 rfl) ?_
    refine z_iald S hK hP 3 rfl (j := k) (by omega) (by decide) dX3_isToTakeOut_14 ?_
    refine lv_iload_n hx hb dX3_isToTakeOut_15 rfl (lv_at hl 2 rfl) ?_
    refine lv_icmp_gt (tgt := 23) hx hb dX3_isToTakeOut_16 (by decide) (fun c_16_2 => ?_) (fun c_16_2 => ?_)
    · refine lv_iconst (v := 0) hx hb dX3_isToTakeOut_23 (by decide) ?_
      exact zr_z hx hb hr hlk (by simp [zOut, zb, c_6_1, c_16_2]) dX3_isToTakeOut_24
    · refine lv_iconst (v := 1) hx hb dX3_isToTakeOut_19 (by decide) ?_
      refine lv_goto (tgt := 24) hx hb dX3_isToTakeOut_20 (by decide) ?_
      exact zr_z hx hb hr hlk (by simp [zOut, zb, c_6_1, c_16_2]) dX3_isToTakeOut_24
set_option maxHeartbeats 4000000 in
set_option maxRecDepth 100000 in
theorem c_X3_isSeenByAll (l : Launch) (D : va_G) (ca : Nat → ClassId) (a : Nat → Nat) (T : zTb) (k : Nat) (hk : k < 24) (t : Int32) : zMr l yX3_isSeenByAll cX3_isSeenByAll 3 (some .boolean) 0 0 D ca [(a 1, .inr (3, [.ref (a 2), .ref (a 3), .ref (a 4), .ref (a 5), .int T.2.2.2.2.1, .int T.2.2.2.2.2])), (a 2, .inl (ca 0, 24, .inl T.1)), (a 3, .inl (ca 0, 24, .inl T.2.1)), (a 4, .inl (ca 0, 24, .inl T.2.2.1)), (a 5, .inl (ca 0, 6, .inl T.2.2.2.1))] [.ref (a 1), .int (nI k), .int t] (.int (zb (zAll T k t))) := by
  refine zMr_of (own := RX3) (by decide) rfl (Nat.le_of_ble_eq_true rfl) ?_
  intro p e s m args below meth c ls S hr hlk hP hK hl
  have hx := S.1
  have hb := S.2.1
  have hl : lv_has ls 3 [(0, .ref (a 1)), (1, .int (nI k)), (2, .int t)] := hl
  refine lv_aload_n hx hb dX3_isSeenByAll_0 rfl (lv_at hl 0 rfl) ?_
  refine z_get S in_lay_X3 hK hP rfl 0 rfl 1 (by decide) fl_X3_15 rfl rfl dX3_isSeenByAll_1 ?_
  refine lv_iload_n hx hb dX3_isSeenByAll_4 rfl (lv_at hl 1 rfl) ?_
  refine z_iald S hK hP 2 rfl (j := k) (by omega) (by decide) dX3_isSeenByAll_5 ?_
  refine lv_iload_n hx hb dX3_isSeenByAll_6 rfl (lv_at hl 2 rfl) ?_
  refine lv_icmp_gt (tgt := 23) hx hb dX3_isSeenByAll_7 (by decide) (fun c_7_1 => ?_) (fun c_7_1 => ?_)
  · refine lv_iconst (v := 0) hx hb dX3_isSeenByAll_23 (by decide) ?_
    exact zr_z hx hb hr hlk (by simp [zAll, zb, c_7_1]) dX3_isSeenByAll_24
  · refine lv_aload_n hx hb dX3_isSeenByAll_10 rfl (lv_at hl 0 rfl) ?_
    refine z_get S in_lay_X3 hK hP rfl 0 rfl 2 (by decide) fl_X3_18 rfl rfl dX3_isSeenByAll_11 ?_
    refine lv_iload_n hx hb dX3_isSeenByAll_14 rfl (lv_at hl 1 rfl) ?_
    refine z_iald S hK hP 3 rfl (j := k) (by omega) (by decide) dX3_isSeenByAll_15 ?_
    refine lv_if_ne (tgt := 23) hx hb dX3_isSeenByAll_16 (by decide) (fun c_16_2 => ?_) (fun c_16_2 => ?_)
    · refine lv_iconst (v := 0) hx hb dX3_isSeenByAll_23 (by decide) ?_
      exact zr_z hx hb hr hlk (by simp [zAll, zb, c_7_1, c_16_2]) dX3_isSeenByAll_24
    · refine lv_iconst (v := 1) hx hb dX3_isSeenByAll_19 (by decide) ?_
      refine lv_goto (tgt := 24) hx hb dX3_isSeenByAll_20 (by decide) ?_
      exact zr_z hx hb hr hlk (by simp [zAll, zb, c_7_1, c_16_2]) dX3_isSeenByAll_24
set_option maxHeartbeats 4000000 in
set_option maxRecDepth 100000 in
theorem c_X3_lowestEmptySlot (l : Launch) (D : va_G) (ca : Nat → ClassId) (a : Nat → Nat) (T : zTb) : zMr l yX3_lowestEmptySlot cX3_lowestEmptySlot 2 (some .int) 0 0 D ca [(a 1, .inr (3, [.ref (a 2), .ref (a 3), .ref (a 4), .ref (a 5), .int T.2.2.2.2.1, .int T.2.2.2.2.2])), (a 2, .inl (ca 0, 24, .inl T.1)), (a 3, .inl (ca 0, 24, .inl T.2.1)), (a 4, .inl (ca 0, 24, .inl T.2.2.1)), (a 5, .inl (ca 0, 6, .inl T.2.2.2.1))] [.ref (a 1)] (.int (zNo (zLow T))) := by
  refine zMr_of (own := RX3) (by decide) rfl (Nat.le_of_ble_eq_true rfl) ?_
  intro p e s m args below meth c ls S hr hlk hP hK hl
  have hx := S.1
  have hb := S.2.1
  have hl : lv_has ls 2 [(0, .ref (a 1))] := hl
  refine lv_iconst (v := 0) hx hb dX3_lowestEmptySlot_0 (by decide) ?_
  refine lv_istore_n (lv' := [(1, .int 0), (0, .ref (a 1))]) hx hb dX3_lowestEmptySlot_1 rfl hl (by decide) rfl (fun ls hl => ?_)
  have loop_0 : ∀ (f : Nat) (k : Nat) (ls : Array Slot), k + f = 24 → zLow T = zfst (fun k => decide (T.1 k = -1)) f k → lv_has ls 2 [(0, .ref (a 1)), (1, .int (nI k))] → W p l e { frames := 0, cells := 0, slots := 0, locals := 0 } s m args below meth c s.heap [] 0 0 (MQ below (zQr (.int (zNo (zLow T)))) args s 0 0 (fun _ => False)) (F0 m 2 ls []) := by
    intro f
    induction f with
    | zero =>
      intro k ls j1 j2 hl
      refine lv_iload_n hx hb dX3_lowestEmptySlot_2 rfl (lv_at hl 1 rfl) ?_
      refine lv_bipush (v := 24) hx hb dX3_lowestEmptySlot_3 (by decide) ?_
      refine zn_ge hx hb (x := k) (y := 24) (by omega) (by omega) (tgt := 26) dX3_lowestEmptySlot_5 (by decide) (fun c_5_2 => ?_) (fun h => False.elim (by omega))
      refine lv_iconst (v := (-1)) hx hb dX3_lowestEmptySlot_26 (by decide) ?_
      exact zr_i hx hb hr hlk (by rw [j2]; show (-1 : Int32) = zNo k; rw [zNo, if_neg (by omega)]) dX3_lowestEmptySlot_27
    | succ f ih =>
      intro k ls j1 j2 hl
      refine lv_iload_n hx hb dX3_lowestEmptySlot_2 rfl (lv_at hl 1 rfl) ?_
      refine lv_bipush (v := 24) hx hb dX3_lowestEmptySlot_3 (by decide) ?_
      refine zn_ge hx hb (x := k) (y := 24) (by omega) (by omega) (tgt := 26) dX3_lowestEmptySlot_5 (by decide) (fun h => False.elim (by omega)) (fun c_5_3 => ?_)
      refine lv_aload_n hx hb dX3_lowestEmptySlot_8 rfl (lv_at hl 0 rfl) ?_
      refine z_get S in_lay_X3 hK hP rfl 0 rfl 0 (by decide) fl_X3_9 rfl rfl dX3_lowestEmptySlot_9 ?_
      refine lv_iload_n hx hb dX3_lowestEmptySlot_12 rfl (lv_at hl 1 rfl) ?_
      refine z_iald S hK hP 1 rfl (j := k) (by omega) (by decide) dX3_lowestEmptySlot_13 ?_
      refine lv_iconst (v := (-1)) hx hb dX3_lowestEmptySlot_14 (by decide) ?_
      refine lv_icmp_ne (tgt := 20) hx hb dX3_lowestEmptySlot_15 (by decide) (fun c_15_4 => ?_) (fun c_15_4 => ?_)
      · refine lv_iinc (v := nI (k + 1)) (lv' := [(1, .int (nI (k + 1))), (0, .ref (a 1))]) hx hb dX3_lowestEmptySlot_20 hl (k := 1) rfl (zinc k 1) (by decide) rfl (fun ls hl => ?_)
        refine lv_goto (tgt := 2) hx hb dX3_lowestEmptySlot_23 (by decide) ?_
        exact ih (k + 1) ls (by omega) (by exact j2.trans (zfst_f (by simp [c_5_3, c_15_4]))) (lv_sub hl [1, 0] rfl)
      · refine lv_iload_n hx hb dX3_lowestEmptySlot_18 rfl (lv_at hl 1 rfl) ?_
        exact zr_i hx hb hr hlk (by rw [j2.trans (zfst_t (by simp [c_5_3, c_15_4]))]; rw [zNo, if_pos (by omega)]) dX3_lowestEmptySlot_19
  exact loop_0 24 0 ls (by omega) (by rfl) (lv_sub hl [1, 0] rfl)
set_option maxHeartbeats 4000000 in
set_option maxRecDepth 100000 in
theorem c_X3_hasEmptySlot (l : Launch) (D : va_G) (ca : Nat → ClassId) (a : Nat → Nat) (T : zTb) : zMr l yX3_hasEmptySlot cX3_hasEmptySlot 1 (some .boolean) 1 21 D ca [(a 1, .inr (3, [.ref (a 2), .ref (a 3), .ref (a 4), .ref (a 5), .int T.2.2.2.2.1, .int T.2.2.2.2.2])), (a 2, .inl (ca 0, 24, .inl T.1)), (a 3, .inl (ca 0, 24, .inl T.2.1)), (a 4, .inl (ca 0, 24, .inl T.2.2.1)), (a 5, .inl (ca 0, 6, .inl T.2.2.2.1))] [.ref (a 1)] (.int (zb (decide (zLow T < 24)))) := by
  refine zMr_of (own := RX3) (by decide) rfl (Nat.le_of_ble_eq_true rfl) ?_
  intro p e s m args below meth c ls S hr hlk hP hK hl
  have hx := S.1
  have hb := S.2.1
  have hl : lv_has ls 1 [(0, .ref (a 1))] := hl
  refine lv_aload_n hx hb dX3_hasEmptySlot_0 rfl (lv_at hl 0 rfl) ?_
  refine zcr (As := []) (rest := []) (q0 := 0) S (c_X3_lowestEmptySlot l D ca a T ) ml_X3_47 zy_X3_lowestEmptySlot im_X3_lowestEmptySlot se_X3_lowestEmptySlot ⟨Nat.le_of_ble_eq_true rfl, Nat.le_of_ble_eq_true rfl⟩ hK hP [0, 1, 2, 3, 4] rfl rfl rfl rfl rfl hl.1 rfl (Nat.le_of_ble_eq_true rfl) ⟨Nat.zero_le _, Nat.zero_le _⟩ dX3_hasEmptySlot_1 ?_
  refine zNo_c (fun c_1_1 => ?_) (fun c_1_1 => ?_)
  · refine lv_iconst (v := (-1)) hx hb dX3_hasEmptySlot_4 (by decide) ?_
    refine lv_icmp_eq (tgt := 12) hx hb dX3_hasEmptySlot_5 (by decide) (fun h => absurd h (nI_nem1 (by omega))) (fun _ => ?_)
    refine lv_iconst (v := 1) hx hb dX3_hasEmptySlot_8 (by decide) ?_
    refine lv_goto (tgt := 13) hx hb dX3_hasEmptySlot_9 (by decide) ?_
    exact zr_z hx hb hr hlk (by simp [zb, c_1_1]) dX3_hasEmptySlot_13
  · refine lv_iconst (v := (-1)) hx hb dX3_hasEmptySlot_4 (by decide) ?_
    refine lv_icmp_eq (tgt := 12) hx hb dX3_hasEmptySlot_5 (by decide) (fun _ => ?_) (fun h => absurd (by decide) h)
    refine lv_iconst (v := 0) hx hb dX3_hasEmptySlot_12 (by decide) ?_
    exact zr_z hx hb hr hlk (by simp [zb, c_1_1]) dX3_hasEmptySlot_13
set_option maxHeartbeats 4000000 in
set_option maxRecDepth 100000 in
theorem c_X3_versions (l : Launch) (D : va_G) (ca : Nat → ClassId) (a : Nat → Nat) (T : zTb) (i n : Nat) (hi : i + n ≤ 24) : zMr l yX3_versions cX3_versions 5 (some .int) 0 0 D ca [(a 1, .inr (3, [.ref (a 2), .ref (a 3), .ref (a 4), .ref (a 5), .int T.2.2.2.2.1, .int T.2.2.2.2.2])), (a 2, .inl (ca 0, 24, .inl T.1)), (a 3, .inl (ca 0, 24, .inl T.2.1)), (a 4, .inl (ca 0, 24, .inl T.2.2.1)), (a 5, .inl (ca 0, 6, .inl T.2.2.2.1))] [.ref (a 1), .int (nI i), .int (nI (i + n))] (.int (zVs T n i)) := by
  refine zMr_of (own := RX3) (by decide) rfl (Nat.le_of_ble_eq_true rfl) ?_
  intro p e s m args below meth c ls S hr hlk hP hK hl
  have hx := S.1
  have hb := S.2.1
  have hl : lv_has ls 5 [(0, .ref (a 1)), (1, .int (nI i)), (2, .int (nI (i + n)))] := hl
  refine lv_iconst (v := 0) hx hb dX3_versions_0 (by decide) ?_
  refine lv_istore_n (lv' := [(3, .int 0), (0, .ref (a 1)), (1, .int (nI i)), (2, .int (nI (i + n)))]) hx hb dX3_versions_1 rfl hl (by decide) rfl (fun ls hl => ?_)
  refine lv_iload_n hx hb dX3_versions_2 rfl (lv_at hl 2 rfl) ?_
  refine lv_istore (lv' := [(4, .int (nI i)), (3, .int 0), (0, .ref (a 1)), (1, .int (nI i)), (2, .int (nI (i + n)))]) hx hb dX3_versions_3 hl (by decide) rfl (fun ls hl => ?_)
  have loop_0 : ∀ (f : Nat) (k : Nat) (x : Int32) (ls : Array Slot), k + f = i + n → zcnt (fun k => decide (¬ T.1 k = -1)) n i 0 = zcnt (fun k => decide (¬ T.1 k = -1)) f k x → lv_has ls 5 [(0, .ref (a 1)), (1, .int (nI i)), (2, .int (nI (i + n))), (3, .int x), (4, .int (nI k))] → W p l e { frames := 0, cells := 0, slots := 0, locals := 0 } s m args below meth c s.heap [] 0 0 (MQ below (zQr (.int (zVs T n i))) args s 0 0 (fun _ => False)) (F0 m 5 ls []) := by
    intro f
    induction f with
    | zero =>
      intro k x ls j1 j2 hl
      refine lv_iload hx hb dX3_versions_5 (lv_at hl 4 rfl) ?_
      refine lv_iload_n hx hb dX3_versions_7 rfl (lv_at hl 2 rfl) ?_
      refine zn_ge hx hb (x := k) (y := i + n) (by omega) (by omega) (tgt := 31) dX3_versions_8 (by decide) (fun c_8_2 => ?_) (fun h => False.elim (by omega))
      refine lv_iload_n hx hb dX3_versions_31 rfl (lv_at hl 3 rfl) ?_
      exact zr_i hx hb hr hlk (by exact j2.symm) dX3_versions_32
    | succ f ih =>
      intro k x ls j1 j2 hl
      refine lv_iload hx hb dX3_versions_5 (lv_at hl 4 rfl) ?_
      refine lv_iload_n hx hb dX3_versions_7 rfl (lv_at hl 2 rfl) ?_
      refine zn_ge hx hb (x := k) (y := i + n) (by omega) (by omega) (tgt := 31) dX3_versions_8 (by decide) (fun h => False.elim (by omega)) (fun c_8_3 => ?_)
      refine lv_aload_n hx hb dX3_versions_11 rfl (lv_at hl 0 rfl) ?_
      refine z_get S in_lay_X3 hK hP rfl 0 rfl 0 (by decide) fl_X3_9 rfl rfl dX3_versions_12 ?_
      refine lv_iload hx hb dX3_versions_15 (lv_at hl 4 rfl) ?_
      refine z_iald S hK hP 1 rfl (j := k) (by omega) (by decide) dX3_versions_17 ?_
      refine lv_iconst (v := (-1)) hx hb dX3_versions_18 (by decide) ?_
      refine lv_icmp_eq (tgt := 25) hx hb dX3_versions_19 (by decide) (fun c_19_4 => ?_) (fun c_19_4 => ?_)
      · refine lv_iinc (v := nI (k + 1)) (lv' := [(4, .int (nI (k + 1))), (0, .ref (a 1)), (1, .int (nI i)), (2, .int (nI (i + n))), (3, .int x)]) hx hb dX3_versions_25 hl (k := 4) rfl (zinc k 1) (by decide) rfl (fun ls hl => ?_)
        refine lv_goto (tgt := 5) hx hb dX3_versions_28 (by decide) ?_
        exact ih (k + 1) x ls (by omega) (by first | exact j2.trans (zcnt_t (by simp [c_8_3, c_19_4])) | exact j2.trans (zcnt_f (by simp [c_8_3, c_19_4]))) (lv_sub hl [1, 2, 3, 4, 0] rfl)
      · refine lv_iinc (v := x + 1) (lv' := [(3, .int (x + 1)), (0, .ref (a 1)), (1, .int (nI i)), (2, .int (nI (i + n))), (4, .int (nI k))]) hx hb dX3_versions_22 hl (k := 3) rfl (rfl) (by decide) rfl (fun ls hl => ?_)
        refine lv_iinc (v := nI (k + 1)) (lv' := [(4, .int (nI (k + 1))), (3, .int (x + 1)), (0, .ref (a 1)), (1, .int (nI i)), (2, .int (nI (i + n)))]) hx hb dX3_versions_25 hl (k := 4) rfl (zinc k 1) (by decide) rfl (fun ls hl => ?_)
        refine lv_goto (tgt := 5) hx hb dX3_versions_28 (by decide) ?_
        exact ih (k + 1) (x + 1) ls (by omega) (by first | exact j2.trans (zcnt_t (by simp [c_8_3, c_19_4])) | exact j2.trans (zcnt_f (by simp [c_8_3, c_19_4]))) (lv_sub hl [2, 3, 4, 1, 0] rfl)
  exact loop_0 n i 0 ls (by omega) (by rfl) (lv_sub hl [2, 3, 4, 1, 0] rfl)
set_option maxHeartbeats 4000000 in
set_option maxRecDepth 100000 in
theorem c_X3_versionsSeen (l : Launch) (D : va_G) (ca : Nat → ClassId) (a : Nat → Nat) (T : zTb) (i n : Nat) (hi : i + n ≤ 24) (t : Int32) : zMr l yX3_versionsSeen cX3_versionsSeen 6 (some .int) 1 22 D ca [(a 1, .inr (3, [.ref (a 2), .ref (a 3), .ref (a 4), .ref (a 5), .int T.2.2.2.2.1, .int T.2.2.2.2.2])), (a 2, .inl (ca 0, 24, .inl T.1)), (a 3, .inl (ca 0, 24, .inl T.2.1)), (a 4, .inl (ca 0, 24, .inl T.2.2.1)), (a 5, .inl (ca 0, 6, .inl T.2.2.2.1))] [.ref (a 1), .int (nI i), .int (nI (i + n)), .int t] (.int (zVn T n i t)) := by
  refine zMr_of (own := RX3) (by decide) rfl (Nat.le_of_ble_eq_true rfl) ?_
  intro p e s m args below meth c ls S hr hlk hP hK hl
  have hx := S.1
  have hb := S.2.1
  have hl : lv_has ls 6 [(0, .ref (a 1)), (1, .int (nI i)), (2, .int (nI (i + n))), (3, .int t)] := hl
  refine lv_iconst (v := 0) hx hb dX3_versionsSeen_0 (by decide) ?_
  refine lv_istore (lv' := [(4, .int 0), (0, .ref (a 1)), (1, .int (nI i)), (2, .int (nI (i + n))), (3, .int t)]) hx hb dX3_versionsSeen_1 hl (by decide) rfl (fun ls hl => ?_)
  refine lv_iload_n hx hb dX3_versionsSeen_3 rfl (lv_at hl 2 rfl) ?_
  refine lv_istore (lv' := [(5, .int (nI i)), (4, .int 0), (0, .ref (a 1)), (1, .int (nI i)), (2, .int (nI (i + n))), (3, .int t)]) hx hb dX3_versionsSeen_4 hl (by decide) rfl (fun ls hl => ?_)
  have loop_0 : ∀ (f : Nat) (k : Nat) (x : Int32) (ls : Array Slot), k + f = i + n → zcnt (fun k => zSeen T k t) n i 0 = zcnt (fun k => zSeen T k t) f k x → lv_has ls 6 [(0, .ref (a 1)), (1, .int (nI i)), (2, .int (nI (i + n))), (3, .int t), (4, .int x), (5, .int (nI k))] → W p l e { frames := 1, cells := 0, slots := 0, locals := 22 } s m args below meth c s.heap [] 0 0 (MQ below (zQr (.int (zVn T n i t))) args s 0 0 (fun _ => False)) (F0 m 6 ls []) := by
    intro f
    induction f with
    | zero =>
      intro k x ls j1 j2 hl
      refine lv_iload hx hb dX3_versionsSeen_6 (lv_at hl 5 rfl) ?_
      refine lv_iload_n hx hb dX3_versionsSeen_8 rfl (lv_at hl 2 rfl) ?_
      refine zn_ge hx hb (x := k) (y := i + n) (by omega) (by omega) (tgt := 31) dX3_versionsSeen_9 (by decide) (fun c_9_2 => ?_) (fun h => False.elim (by omega))
      refine lv_iload hx hb dX3_versionsSeen_31 (lv_at hl 4 rfl) ?_
      exact zr_i hx hb hr hlk (by exact j2.symm) dX3_versionsSeen_33
    | succ f ih =>
      intro k x ls j1 j2 hl
      refine lv_iload hx hb dX3_versionsSeen_6 (lv_at hl 5 rfl) ?_
      refine lv_iload_n hx hb dX3_versionsSeen_8 rfl (lv_at hl 2 rfl) ?_
      refine zn_ge hx hb (x := k) (y := i + n) (by omega) (by omega) (tgt := 31) dX3_versionsSeen_9 (by decide) (fun h => False.elim (by omega)) (fun c_9_3 => ?_)
      refine lv_aload_n hx hb dX3_versionsSeen_12 rfl (lv_at hl 0 rfl) ?_
      refine lv_iload hx hb dX3_versionsSeen_13 (lv_at hl 5 rfl) ?_
      refine lv_iload_n hx hb dX3_versionsSeen_15 rfl (lv_at hl 3 rfl) ?_
      refine zcr (As := [.int (nI k), .int t]) (rest := []) (q0 := 0) S (c_X3_isSeen l D ca a T k (by omega) t) ml_X3_43 zy_X3_isSeen im_X3_isSeen se_X3_isSeen ⟨Nat.le_of_ble_eq_true rfl, Nat.le_of_ble_eq_true rfl⟩ hK hP [0, 1, 2, 3, 4] rfl rfl rfl rfl rfl hl.1 rfl (Nat.le_of_ble_eq_true rfl) ⟨Nat.zero_le _, Nat.zero_le _⟩ dX3_versionsSeen_16 ?_
      refine zz_eq (tgt := 25) hx hb dX3_versionsSeen_19 (by decide) (fun c_19_4 => ?_) (fun c_19_4 => ?_)
      · refine lv_iinc (v := nI (k + 1)) (lv' := [(5, .int (nI (k + 1))), (0, .ref (a 1)), (1, .int (nI i)), (2, .int (nI (i + n))), (3, .int t), (4, .int x)]) hx hb dX3_versionsSeen_25 hl (k := 5) rfl (zinc k 1) (by decide) rfl (fun ls hl => ?_)
        refine lv_goto (tgt := 6) hx hb dX3_versionsSeen_28 (by decide) ?_
        exact ih (k + 1) x ls (by omega) (by first | exact j2.trans (zcnt_t (by simp [c_9_3, c_19_4])) | exact j2.trans (zcnt_f (by simp [c_9_3, c_19_4]))) (lv_sub hl [1, 2, 3, 4, 5, 0] rfl)
      · refine lv_iinc (v := x + 1) (lv' := [(4, .int (x + 1)), (0, .ref (a 1)), (1, .int (nI i)), (2, .int (nI (i + n))), (3, .int t), (5, .int (nI k))]) hx hb dX3_versionsSeen_22 hl (k := 4) rfl (rfl) (by decide) rfl (fun ls hl => ?_)
        refine lv_iinc (v := nI (k + 1)) (lv' := [(5, .int (nI (k + 1))), (4, .int (x + 1)), (0, .ref (a 1)), (1, .int (nI i)), (2, .int (nI (i + n))), (3, .int t)]) hx hb dX3_versionsSeen_25 hl (k := 5) rfl (zinc k 1) (by decide) rfl (fun ls hl => ?_)
        refine lv_goto (tgt := 6) hx hb dX3_versionsSeen_28 (by decide) ?_
        exact ih (k + 1) (x + 1) ls (by omega) (by first | exact j2.trans (zcnt_t (by simp [c_9_3, c_19_4])) | exact j2.trans (zcnt_f (by simp [c_9_3, c_19_4]))) (lv_sub hl [2, 3, 4, 5, 1, 0] rfl)
  exact loop_0 n i 0 ls (by omega) (by rfl) (lv_sub hl [2, 3, 4, 5, 1, 0] rfl)
set_option maxHeartbeats 4000000 in
set_option maxRecDepth 100000 in
theorem c_X3_versionsToTakeOut (l : Launch) (D : va_G) (ca : Nat → ClassId) (a : Nat → Nat) (T : zTb) (i n : Nat) (hi : i + n ≤ 24) (t : Int32) : zMr l yX3_versionsToTakeOut cX3_versionsToTakeOut 6 (some .int) 1 22 D ca [(a 1, .inr (3, [.ref (a 2), .ref (a 3), .ref (a 4), .ref (a 5), .int T.2.2.2.2.1, .int T.2.2.2.2.2])), (a 2, .inl (ca 0, 24, .inl T.1)), (a 3, .inl (ca 0, 24, .inl T.2.1)), (a 4, .inl (ca 0, 24, .inl T.2.2.1)), (a 5, .inl (ca 0, 6, .inl T.2.2.2.1))] [.ref (a 1), .int (nI i), .int (nI (i + n)), .int t] (.int (zVo T n i t)) := by
  refine zMr_of (own := RX3) (by decide) rfl (Nat.le_of_ble_eq_true rfl) ?_
  intro p e s m args below meth c ls S hr hlk hP hK hl
  have hx := S.1
  have hb := S.2.1
  have hl : lv_has ls 6 [(0, .ref (a 1)), (1, .int (nI i)), (2, .int (nI (i + n))), (3, .int t)] := hl
  refine lv_iconst (v := 0) hx hb dX3_versionsToTakeOut_0 (by decide) ?_
  refine lv_istore (lv' := [(4, .int 0), (0, .ref (a 1)), (1, .int (nI i)), (2, .int (nI (i + n))), (3, .int t)]) hx hb dX3_versionsToTakeOut_1 hl (by decide) rfl (fun ls hl => ?_)
  refine lv_iload_n hx hb dX3_versionsToTakeOut_3 rfl (lv_at hl 2 rfl) ?_
  refine lv_istore (lv' := [(5, .int (nI i)), (4, .int 0), (0, .ref (a 1)), (1, .int (nI i)), (2, .int (nI (i + n))), (3, .int t)]) hx hb dX3_versionsToTakeOut_4 hl (by decide) rfl (fun ls hl => ?_)
  have loop_0 : ∀ (f : Nat) (k : Nat) (x : Int32) (ls : Array Slot), k + f = i + n → zcnt (fun k => zOut T k t) n i 0 = zcnt (fun k => zOut T k t) f k x → lv_has ls 6 [(0, .ref (a 1)), (1, .int (nI i)), (2, .int (nI (i + n))), (3, .int t), (4, .int x), (5, .int (nI k))] → W p l e { frames := 1, cells := 0, slots := 0, locals := 22 } s m args below meth c s.heap [] 0 0 (MQ below (zQr (.int (zVo T n i t))) args s 0 0 (fun _ => False)) (F0 m 6 ls []) := by
    intro f
    induction f with
    | zero =>
      intro k x ls j1 j2 hl
      refine lv_iload hx hb dX3_versionsToTakeOut_6 (lv_at hl 5 rfl) ?_
      refine lv_iload_n hx hb dX3_versionsToTakeOut_8 rfl (lv_at hl 2 rfl) ?_
      refine zn_ge hx hb (x := k) (y := i + n) (by omega) (by omega) (tgt := 31) dX3_versionsToTakeOut_9 (by decide) (fun c_9_2 => ?_) (fun h => False.elim (by omega))
      refine lv_iload hx hb dX3_versionsToTakeOut_31 (lv_at hl 4 rfl) ?_
      exact zr_i hx hb hr hlk (by exact j2.symm) dX3_versionsToTakeOut_33
    | succ f ih =>
      intro k x ls j1 j2 hl
      refine lv_iload hx hb dX3_versionsToTakeOut_6 (lv_at hl 5 rfl) ?_
      refine lv_iload_n hx hb dX3_versionsToTakeOut_8 rfl (lv_at hl 2 rfl) ?_
      refine zn_ge hx hb (x := k) (y := i + n) (by omega) (by omega) (tgt := 31) dX3_versionsToTakeOut_9 (by decide) (fun h => False.elim (by omega)) (fun c_9_3 => ?_)
      refine lv_aload_n hx hb dX3_versionsToTakeOut_12 rfl (lv_at hl 0 rfl) ?_
      refine lv_iload hx hb dX3_versionsToTakeOut_13 (lv_at hl 5 rfl) ?_
      refine lv_iload_n hx hb dX3_versionsToTakeOut_15 rfl (lv_at hl 3 rfl) ?_
      refine zcr (As := [.int (nI k), .int t]) (rest := []) (q0 := 0) S (c_X3_isToTakeOut l D ca a T k (by omega) t) ml_X3_63 zy_X3_isToTakeOut im_X3_isToTakeOut se_X3_isToTakeOut ⟨Nat.le_of_ble_eq_true rfl, Nat.le_of_ble_eq_true rfl⟩ hK hP [0, 1, 2, 3, 4] rfl rfl rfl rfl rfl hl.1 rfl (Nat.le_of_ble_eq_true rfl) ⟨Nat.zero_le _, Nat.zero_le _⟩ dX3_versionsToTakeOut_16 ?_
      refine zz_eq (tgt := 25) hx hb dX3_versionsToTakeOut_19 (by decide) (fun c_19_4 => ?_) (fun c_19_4 => ?_)
      · refine lv_iinc (v := nI (k + 1)) (lv' := [(5, .int (nI (k + 1))), (0, .ref (a 1)), (1, .int (nI i)), (2, .int (nI (i + n))), (3, .int t), (4, .int x)]) hx hb dX3_versionsToTakeOut_25 hl (k := 5) rfl (zinc k 1) (by decide) rfl (fun ls hl => ?_)
        refine lv_goto (tgt := 6) hx hb dX3_versionsToTakeOut_28 (by decide) ?_
        exact ih (k + 1) x ls (by omega) (by first | exact j2.trans (zcnt_t (by simp [c_9_3, c_19_4])) | exact j2.trans (zcnt_f (by simp [c_9_3, c_19_4]))) (lv_sub hl [1, 2, 3, 4, 5, 0] rfl)
      · refine lv_iinc (v := x + 1) (lv' := [(4, .int (x + 1)), (0, .ref (a 1)), (1, .int (nI i)), (2, .int (nI (i + n))), (3, .int t), (5, .int (nI k))]) hx hb dX3_versionsToTakeOut_22 hl (k := 4) rfl (rfl) (by decide) rfl (fun ls hl => ?_)
        refine lv_iinc (v := nI (k + 1)) (lv' := [(5, .int (nI (k + 1))), (4, .int (x + 1)), (0, .ref (a 1)), (1, .int (nI i)), (2, .int (nI (i + n))), (3, .int t)]) hx hb dX3_versionsToTakeOut_25 hl (k := 5) rfl (zinc k 1) (by decide) rfl (fun ls hl => ?_)
        refine lv_goto (tgt := 6) hx hb dX3_versionsToTakeOut_28 (by decide) ?_
        exact ih (k + 1) (x + 1) ls (by omega) (by first | exact j2.trans (zcnt_t (by simp [c_9_3, c_19_4])) | exact j2.trans (zcnt_f (by simp [c_9_3, c_19_4]))) (lv_sub hl [2, 3, 4, 5, 1, 0] rfl)
  exact loop_0 n i 0 ls (by omega) (by rfl) (lv_sub hl [2, 3, 4, 5, 1, 0] rfl)
set_option maxHeartbeats 4000000 in
set_option maxRecDepth 100000 in
theorem c_X3_markedPages (l : Launch) (D : va_G) (ca : Nat → ClassId) (a : Nat → Nat) (T : zTb) : zMr l yX3_markedPages cX3_markedPages 3 (some .int) 1 21 D ca [(a 1, .inr (3, [.ref (a 2), .ref (a 3), .ref (a 4), .ref (a 5), .int T.2.2.2.2.1, .int T.2.2.2.2.2])), (a 2, .inl (ca 0, 24, .inl T.1)), (a 3, .inl (ca 0, 24, .inl T.2.1)), (a 4, .inl (ca 0, 24, .inl T.2.2.1)), (a 5, .inl (ca 0, 6, .inl T.2.2.2.1))] [.ref (a 1)] (.int (zMp T)) := by
  refine zMr_of (own := RX3) (by decide) rfl (Nat.le_of_ble_eq_true rfl) ?_
  intro p e s m args below meth c ls S hr hlk hP hK hl
  have hx := S.1
  have hb := S.2.1
  have hl : lv_has ls 3 [(0, .ref (a 1))] := hl
  refine lv_iconst (v := 0) hx hb dX3_markedPages_0 (by decide) ?_
  refine lv_istore_n (lv' := [(1, .int 0), (0, .ref (a 1))]) hx hb dX3_markedPages_1 rfl hl (by decide) rfl (fun ls hl => ?_)
  refine lv_iconst (v := 0) hx hb dX3_markedPages_2 (by decide) ?_
  refine lv_istore_n (lv' := [(2, .int 0), (1, .int 0), (0, .ref (a 1))]) hx hb dX3_markedPages_3 rfl hl (by decide) rfl (fun ls hl => ?_)
  have loop_0 : ∀ (f : Nat) (k : Nat) (x : Int32) (ls : Array Slot), k + f = 6 → zcnt (zMk T) 6 0 0 = zcnt (zMk T) f k x → lv_has ls 3 [(0, .ref (a 1)), (1, .int x), (2, .int (nI k))] → W p l e { frames := 1, cells := 0, slots := 0, locals := 21 } s m args below meth c s.heap [] 0 0 (MQ below (zQr (.int (zMp T))) args s 0 0 (fun _ => False)) (F0 m 4 ls []) := by
    intro f
    induction f with
    | zero =>
      intro k x ls j1 j2 hl
      refine lv_iload_n hx hb dX3_markedPages_4 rfl (lv_at hl 2 rfl) ?_
      refine lv_bipush (v := 6) hx hb dX3_markedPages_5 (by decide) ?_
      refine zn_ge hx hb (x := k) (y := 6) (by omega) (by omega) (tgt := 27) dX3_markedPages_7 (by decide) (fun c_7_2 => ?_) (fun h => False.elim (by omega))
      refine lv_iload_n hx hb dX3_markedPages_27 rfl (lv_at hl 1 rfl) ?_
      exact zr_i hx hb hr hlk (by exact j2.symm) dX3_markedPages_28
    | succ f ih =>
      intro k x ls j1 j2 hl
      refine lv_iload_n hx hb dX3_markedPages_4 rfl (lv_at hl 2 rfl) ?_
      refine lv_bipush (v := 6) hx hb dX3_markedPages_5 (by decide) ?_
      refine zn_ge hx hb (x := k) (y := 6) (by omega) (by omega) (tgt := 27) dX3_markedPages_7 (by decide) (fun h => False.elim (by omega)) (fun c_7_3 => ?_)
      refine lv_aload_n hx hb dX3_markedPages_10 rfl (lv_at hl 0 rfl) ?_
      refine lv_iload_n hx hb dX3_markedPages_11 rfl (lv_at hl 2 rfl) ?_
      refine zcr (As := [.int (nI k)]) (rest := []) (q0 := 0) S (c_X3_isMarked l D ca a T k (by omega)) ml_X3_72 zy_X3_isMarked im_X3_isMarked se_X3_isMarked ⟨Nat.le_of_ble_eq_true rfl, Nat.le_of_ble_eq_true rfl⟩ hK hP [0, 1, 2, 3, 4] rfl rfl rfl rfl rfl hl.1 rfl (Nat.le_of_ble_eq_true rfl) ⟨Nat.zero_le _, Nat.zero_le _⟩ dX3_markedPages_12 ?_
      refine zz_eq (tgt := 21) hx hb dX3_markedPages_15 (by decide) (fun c_15_4 => ?_) (fun c_15_4 => ?_)
      · refine lv_iinc (v := nI (k + 1)) (lv' := [(2, .int (nI (k + 1))), (0, .ref (a 1)), (1, .int x)]) hx hb dX3_markedPages_21 hl (k := 2) rfl (zinc k 1) (by decide) rfl (fun ls hl => ?_)
        refine lv_goto (tgt := 4) hx hb dX3_markedPages_24 (by decide) ?_
        exact ih (k + 1) x ls (by omega) (by first | exact j2.trans (zcnt_t (by simp [c_7_3, c_15_4])) | exact j2.trans (zcnt_f (by simp [c_7_3, c_15_4]))) (lv_sub hl [1, 2, 0] rfl)
      · refine lv_iinc (v := x + 1) (lv' := [(1, .int (x + 1)), (0, .ref (a 1)), (2, .int (nI k))]) hx hb dX3_markedPages_18 hl (k := 1) rfl (rfl) (by decide) rfl (fun ls hl => ?_)
        refine lv_iinc (v := nI (k + 1)) (lv' := [(2, .int (nI (k + 1))), (1, .int (x + 1)), (0, .ref (a 1))]) hx hb dX3_markedPages_21 hl (k := 2) rfl (zinc k 1) (by decide) rfl (fun ls hl => ?_)
        refine lv_goto (tgt := 4) hx hb dX3_markedPages_24 (by decide) ?_
        exact ih (k + 1) (x + 1) ls (by omega) (by first | exact j2.trans (zcnt_t (by simp [c_7_3, c_15_4])) | exact j2.trans (zcnt_f (by simp [c_7_3, c_15_4]))) (lv_sub hl [2, 1, 0] rfl)
  exact loop_0 6 0 0 ls (by omega) (by rfl) (lv_sub hl [2, 1, 0] rfl)
set_option maxHeartbeats 4000000 in
set_option maxRecDepth 100000 in
theorem c_X3_mayTrustMarks (l : Launch) (D : va_G) (ca : Nat → ClassId) (a : Nat → Nat) (T : zTb) (t : Int32) : zMr l yX3_mayTrustMarks cX3_mayTrustMarks 3 (some .boolean) 0 0 D ca [(a 1, .inr (3, [.ref (a 2), .ref (a 3), .ref (a 4), .ref (a 5), .int T.2.2.2.2.1, .int T.2.2.2.2.2])), (a 2, .inl (ca 0, 24, .inl T.1)), (a 3, .inl (ca 0, 24, .inl T.2.1)), (a 4, .inl (ca 0, 24, .inl T.2.2.1)), (a 5, .inl (ca 0, 6, .inl T.2.2.2.1))] [.ref (a 1), .int t] (.int (zb (zTr T t))) := by
  refine zMr_of (own := RX3) (by decide) rfl (Nat.le_of_ble_eq_true rfl) ?_
  intro p e s m args below meth c ls S hr hlk hP hK hl
  have hx := S.1
  have hb := S.2.1
  have hl : lv_has ls 3 [(0, .ref (a 1)), (1, .int t)] := hl
  refine lv_iconst (v := 0) hx hb dX3_mayTrustMarks_0 (by decide) ?_
  refine lv_istore_n (lv' := [(2, .int 0), (0, .ref (a 1)), (1, .int t)]) hx hb dX3_mayTrustMarks_1 rfl hl (by decide) rfl (fun ls hl => ?_)
  have loop_0 : ∀ (f : Nat) (k : Nat) (ls : Array Slot), k + f = 6 → zTr T t = zall (fun p => decide (T.2.2.2.1 p ≤ t)) f k → lv_has ls 3 [(0, .ref (a 1)), (1, .int t), (2, .int (nI k))] → W p l e { frames := 0, cells := 0, slots := 0, locals := 0 } s m args below meth c s.heap [] 0 0 (MQ below (zQr (.int (zb (zTr T t)))) args s 0 0 (fun _ => False)) (F0 m 2 ls []) := by
    intro f
    induction f with
    | zero =>
      intro k ls j1 j2 hl
      refine lv_iload_n hx hb dX3_mayTrustMarks_2 rfl (lv_at hl 2 rfl) ?_
      refine lv_bipush (v := 6) hx hb dX3_mayTrustMarks_3 (by decide) ?_
      refine zn_ge hx hb (x := k) (y := 6) (by omega) (by omega) (tgt := 26) dX3_mayTrustMarks_5 (by decide) (fun c_5_2 => ?_) (fun h => False.elim (by omega))
      refine lv_iconst (v := 1) hx hb dX3_mayTrustMarks_26 (by decide) ?_
      exact zr_z hx hb hr hlk (by rw [j2]; rfl) dX3_mayTrustMarks_27
    | succ f ih =>
      intro k ls j1 j2 hl
      refine lv_iload_n hx hb dX3_mayTrustMarks_2 rfl (lv_at hl 2 rfl) ?_
      refine lv_bipush (v := 6) hx hb dX3_mayTrustMarks_3 (by decide) ?_
      refine zn_ge hx hb (x := k) (y := 6) (by omega) (by omega) (tgt := 26) dX3_mayTrustMarks_5 (by decide) (fun h => False.elim (by omega)) (fun c_5_3 => ?_)
      refine lv_aload_n hx hb dX3_mayTrustMarks_8 rfl (lv_at hl 0 rfl) ?_
      refine z_get S in_lay_X3 hK hP rfl 0 rfl 3 (by decide) fl_X3_21 rfl rfl dX3_mayTrustMarks_9 ?_
      refine lv_iload_n hx hb dX3_mayTrustMarks_12 rfl (lv_at hl 2 rfl) ?_
      refine z_iald S hK hP 4 rfl (j := k) (by omega) (by decide) dX3_mayTrustMarks_13 ?_
      refine lv_iload_n hx hb dX3_mayTrustMarks_14 rfl (lv_at hl 1 rfl) ?_
      refine lv_icmp_le (tgt := 20) hx hb dX3_mayTrustMarks_15 (by decide) (fun c_15_4 => ?_) (fun c_15_4 => ?_)
      · refine lv_iinc (v := nI (k + 1)) (lv' := [(2, .int (nI (k + 1))), (0, .ref (a 1)), (1, .int t)]) hx hb dX3_mayTrustMarks_20 hl (k := 2) rfl (zinc k 1) (by decide) rfl (fun ls hl => ?_)
        refine lv_goto (tgt := 2) hx hb dX3_mayTrustMarks_23 (by decide) ?_
        exact ih (k + 1) ls (by omega) (by exact j2.trans (zall_t (by simp [c_5_3, c_15_4]))) (lv_sub hl [1, 2, 0] rfl)
      · refine lv_iconst (v := 0) hx hb dX3_mayTrustMarks_18 (by decide) ?_
        exact zr_z hx hb hr hlk (by rw [j2.trans (zall_f (by simp [c_5_3, c_15_4]))]; rfl) dX3_mayTrustMarks_19
  exact loop_0 6 0 ls (by omega) (by rfl) (lv_sub hl [1, 2, 0] rfl)
set_option maxHeartbeats 4000000 in
set_option maxRecDepth 100000 in
theorem c_X3_answer (l : Launch) (D : va_G) (ca : Nat → ClassId) (a : Nat → Nat) (T : zTb) (t v : Int32) (w : Nat) (hw : w < 3) : zMr l yX3_answer cX3_answer 7 (some .int) 1 22 D ca [(a 1, .inr (3, [.ref (a 2), .ref (a 3), .ref (a 4), .ref (a 5), .int T.2.2.2.2.1, .int T.2.2.2.2.2])), (a 2, .inl (ca 0, 24, .inl T.1)), (a 3, .inl (ca 0, 24, .inl T.2.1)), (a 4, .inl (ca 0, 24, .inl T.2.2.1)), (a 5, .inl (ca 0, 6, .inl T.2.2.2.1))] [.ref (a 1), .int t, .int v, .int (nI w)] (.int (zAns T t v w)) := by
  refine zMr_of (own := RX3) (by decide) rfl (Nat.le_of_ble_eq_true rfl) ?_
  intro p e s m args below meth c ls S hr hlk hP hK hl
  have hx := S.1
  have hb := S.2.1
  have hl : lv_has ls 7 [(0, .ref (a 1)), (1, .int t), (2, .int v), (3, .int (nI w))] := hl
  have cut_18_0 : W p l e { frames := 1, cells := 0, slots := 0, locals := 22 } s m args below meth c s.heap [] 0 0 (MQ below (zQr (.int (zAns T t v w))) args s 0 0 (fun _ => False)) (F0 m 18 ls [.int (zb (zBm T t w))]) := by
    refine lv_istore (lv' := [(4, .int (zb (zBm T t w))), (0, .ref (a 1)), (1, .int t), (2, .int v), (3, .int (nI w))]) hx hb dX3_answer_18 hl (by decide) rfl (fun ls hl => ?_)
    refine lv_iconst (v := 0) hx hb dX3_answer_20 (by decide) ?_
    refine lv_istore (lv' := [(5, .int 0), (4, .int (zb (zBm T t w))), (0, .ref (a 1)), (1, .int t), (2, .int v), (3, .int (nI w))]) hx hb dX3_answer_21 hl (by decide) rfl (fun ls hl => ?_)
    refine lv_iconst (v := 0) hx hb dX3_answer_23 (by decide) ?_
    refine lv_istore (lv' := [(6, .int 0), (5, .int 0), (4, .int (zb (zBm T t w))), (0, .ref (a 1)), (1, .int t), (2, .int v), (3, .int (nI w))]) hx hb dX3_answer_24 hl (by decide) rfl (fun ls hl => ?_)
    have loop_1 : ∀ (f : Nat) (k : Nat) (x : Int32) (ls : Array Slot), k + f = 24 → zcnt (fun k => decide (T.1 k = v) && ((zBm T t w && zMk T (k / 4)) || zSeen T k t)) 24 0 0 = zcnt (fun k => decide (T.1 k = v) && ((zBm T t w && zMk T (k / 4)) || zSeen T k t)) f k x → lv_has ls 7 [(0, .ref (a 1)), (1, .int t), (2, .int v), (3, .int (nI w)), (4, .int (zb (zBm T t w))), (5, .int x), (6, .int (nI k))] → W p l e { frames := 1, cells := 0, slots := 0, locals := 22 } s m args below meth c s.heap [] 0 0 (MQ below (zQr (.int (zAns T t v w))) args s 0 0 (fun _ => False)) (F0 m 26 ls []) := by
      intro f
      induction f with
      | zero =>
        intro k x ls j1 j2 hl
        refine lv_iload hx hb dX3_answer_26 (lv_at hl 6 rfl) ?_
        refine lv_bipush (v := 24) hx hb dX3_answer_28 (by decide) ?_
        refine zn_ge hx hb (x := k) (y := 24) (by omega) (by omega) (tgt := 82) dX3_answer_30 (by decide) (fun c_30_3 => ?_) (fun h => False.elim (by omega))
        refine lv_iload hx hb dX3_answer_82 (lv_at hl 5 rfl) ?_
        exact zr_i hx hb hr hlk (by exact j2.symm) dX3_answer_84
      | succ f ih =>
        intro k x ls j1 j2 hl
        refine lv_iload hx hb dX3_answer_26 (lv_at hl 6 rfl) ?_
        refine lv_bipush (v := 24) hx hb dX3_answer_28 (by decide) ?_
        refine zn_ge hx hb (x := k) (y := 24) (by omega) (by omega) (tgt := 82) dX3_answer_30 (by decide) (fun h => False.elim (by omega)) (fun c_30_4 => ?_)
        refine lv_aload_n hx hb dX3_answer_33 rfl (lv_at hl 0 rfl) ?_
        refine z_get S in_lay_X3 hK hP rfl 0 rfl 0 (by decide) fl_X3_9 rfl rfl dX3_answer_34 ?_
        refine lv_iload hx hb dX3_answer_37 (lv_at hl 6 rfl) ?_
        refine z_iald S hK hP 1 rfl (j := k) (by omega) (by decide) dX3_answer_39 ?_
        refine lv_iload_n hx hb dX3_answer_40 rfl (lv_at hl 2 rfl) ?_
        refine lv_icmp_eq (tgt := 47) hx hb dX3_answer_41 (by decide) (fun c_41_5 => ?_) (fun c_41_5 => ?_)
        · refine lv_iload hx hb dX3_answer_47 (lv_at hl 4 rfl) ?_
          refine zz_eq (tgt := 63) hx hb dX3_answer_49 (by decide) (fun c_49_6 => ?_) (fun c_49_6 => ?_)
          · refine lv_aload_n hx hb dX3_answer_63 rfl (lv_at hl 0 rfl) ?_
            refine lv_iload hx hb dX3_answer_64 (lv_at hl 6 rfl) ?_
            refine lv_iload_n hx hb dX3_answer_66 rfl (lv_at hl 1 rfl) ?_
            refine zcr (As := [.int (nI k), .int t]) (rest := []) (q0 := 0) S (c_X3_isSeen l D ca a T k (by omega) t) ml_X3_43 zy_X3_isSeen im_X3_isSeen se_X3_isSeen ⟨Nat.le_of_ble_eq_true rfl, Nat.le_of_ble_eq_true rfl⟩ hK hP [0, 1, 2, 3, 4] rfl rfl rfl rfl rfl hl.1 rfl (Nat.le_of_ble_eq_true rfl) ⟨Nat.zero_le _, Nat.zero_le _⟩ dX3_answer_67 ?_
            refine zz_eq (tgt := 76) hx hb dX3_answer_70 (by decide) (fun c_70_7 => ?_) (fun c_70_7 => ?_)
            · refine lv_iinc (v := nI (k + 1)) (lv' := [(6, .int (nI (k + 1))), (0, .ref (a 1)), (1, .int t), (2, .int v), (3, .int (nI w)), (4, .int (zb (zBm T t w))), (5, .int x)]) hx hb dX3_answer_76 hl (k := 6) rfl (zinc k 1) (by decide) rfl (fun ls hl => ?_)
              refine lv_goto (tgt := 26) hx hb dX3_answer_79 (by decide) ?_
              exact ih (k + 1) x ls (by omega) (by first | exact j2.trans (zcnt_t (by simp [c_30_4, c_41_5, c_49_6, c_70_7])) | exact j2.trans (zcnt_f (by simp [c_30_4, c_41_5, c_49_6, c_70_7]))) (lv_sub hl [1, 2, 3, 4, 5, 6, 0] rfl)
            · refine lv_iinc (v := x + 1) (lv' := [(5, .int (x + 1)), (0, .ref (a 1)), (1, .int t), (2, .int v), (3, .int (nI w)), (4, .int (zb (zBm T t w))), (6, .int (nI k))]) hx hb dX3_answer_73 hl (k := 5) rfl (rfl) (by decide) rfl (fun ls hl => ?_)
              refine lv_iinc (v := nI (k + 1)) (lv' := [(6, .int (nI (k + 1))), (5, .int (x + 1)), (0, .ref (a 1)), (1, .int t), (2, .int v), (3, .int (nI w)), (4, .int (zb (zBm T t w)))]) hx hb dX3_answer_76 hl (k := 6) rfl (zinc k 1) (by decide) rfl (fun ls hl => ?_)
              refine lv_goto (tgt := 26) hx hb dX3_answer_79 (by decide) ?_
              exact ih (k + 1) (x + 1) ls (by omega) (by first | exact j2.trans (zcnt_t (by simp [c_30_4, c_41_5, c_49_6, c_70_7])) | exact j2.trans (zcnt_f (by simp [c_30_4, c_41_5, c_49_6, c_70_7]))) (lv_sub hl [2, 3, 4, 5, 6, 1, 0] rfl)
          · refine lv_aload_n hx hb dX3_answer_52 rfl (lv_at hl 0 rfl) ?_
            refine lv_iload hx hb dX3_answer_53 (lv_at hl 6 rfl) ?_
            refine lv_iconst (v := 4) hx hb dX3_answer_55 (by decide) ?_
            refine zn_div hx hb (x := k) (y := 4) (z := k / 4) (by omega) (by omega) (by omega) (by first | rfl | omega) dX3_answer_56 ?_
            refine zcr (As := [.int (nI (k / 4))]) (rest := []) (q0 := 0) S (c_X3_isMarked l D ca a T (k / 4) (by omega)) ml_X3_72 zy_X3_isMarked im_X3_isMarked se_X3_isMarked ⟨Nat.le_of_ble_eq_true rfl, Nat.le_of_ble_eq_true rfl⟩ hK hP [0, 1, 2, 3, 4] rfl rfl rfl rfl rfl hl.1 rfl (Nat.le_of_ble_eq_true rfl) ⟨Nat.zero_le _, Nat.zero_le _⟩ dX3_answer_57 ?_
            refine zz_ne (tgt := 73) hx hb dX3_answer_60 (by decide) (fun c_60_8 => ?_) (fun c_60_8 => ?_)
            · refine lv_iinc (v := x + 1) (lv' := [(5, .int (x + 1)), (0, .ref (a 1)), (1, .int t), (2, .int v), (3, .int (nI w)), (4, .int (zb (zBm T t w))), (6, .int (nI k))]) hx hb dX3_answer_73 hl (k := 5) rfl (rfl) (by decide) rfl (fun ls hl => ?_)
              refine lv_iinc (v := nI (k + 1)) (lv' := [(6, .int (nI (k + 1))), (5, .int (x + 1)), (0, .ref (a 1)), (1, .int t), (2, .int v), (3, .int (nI w)), (4, .int (zb (zBm T t w)))]) hx hb dX3_answer_76 hl (k := 6) rfl (zinc k 1) (by decide) rfl (fun ls hl => ?_)
              refine lv_goto (tgt := 26) hx hb dX3_answer_79 (by decide) ?_
              exact ih (k + 1) (x + 1) ls (by omega) (by first | exact j2.trans (zcnt_t (by simp [c_30_4, c_41_5, c_49_6, c_60_8])) | exact j2.trans (zcnt_f (by simp [c_30_4, c_41_5, c_49_6, c_60_8]))) (lv_sub hl [2, 3, 4, 5, 6, 1, 0] rfl)
            · refine lv_aload_n hx hb dX3_answer_63 rfl (lv_at hl 0 rfl) ?_
              refine lv_iload hx hb dX3_answer_64 (lv_at hl 6 rfl) ?_
              refine lv_iload_n hx hb dX3_answer_66 rfl (lv_at hl 1 rfl) ?_
              refine zcr (As := [.int (nI k), .int t]) (rest := []) (q0 := 0) S (c_X3_isSeen l D ca a T k (by omega) t) ml_X3_43 zy_X3_isSeen im_X3_isSeen se_X3_isSeen ⟨Nat.le_of_ble_eq_true rfl, Nat.le_of_ble_eq_true rfl⟩ hK hP [0, 1, 2, 3, 4] rfl rfl rfl rfl rfl hl.1 rfl (Nat.le_of_ble_eq_true rfl) ⟨Nat.zero_le _, Nat.zero_le _⟩ dX3_answer_67 ?_
              refine zz_eq (tgt := 76) hx hb dX3_answer_70 (by decide) (fun c_70_9 => ?_) (fun c_70_9 => ?_)
              · refine lv_iinc (v := nI (k + 1)) (lv' := [(6, .int (nI (k + 1))), (0, .ref (a 1)), (1, .int t), (2, .int v), (3, .int (nI w)), (4, .int (zb (zBm T t w))), (5, .int x)]) hx hb dX3_answer_76 hl (k := 6) rfl (zinc k 1) (by decide) rfl (fun ls hl => ?_)
                refine lv_goto (tgt := 26) hx hb dX3_answer_79 (by decide) ?_
                exact ih (k + 1) x ls (by omega) (by first | exact j2.trans (zcnt_t (by simp [c_30_4, c_41_5, c_49_6, c_60_8, c_70_9])) | exact j2.trans (zcnt_f (by simp [c_30_4, c_41_5, c_49_6, c_60_8, c_70_9]))) (lv_sub hl [1, 2, 3, 4, 5, 6, 0] rfl)
              · refine lv_iinc (v := x + 1) (lv' := [(5, .int (x + 1)), (0, .ref (a 1)), (1, .int t), (2, .int v), (3, .int (nI w)), (4, .int (zb (zBm T t w))), (6, .int (nI k))]) hx hb dX3_answer_73 hl (k := 5) rfl (rfl) (by decide) rfl (fun ls hl => ?_)
                refine lv_iinc (v := nI (k + 1)) (lv' := [(6, .int (nI (k + 1))), (5, .int (x + 1)), (0, .ref (a 1)), (1, .int t), (2, .int v), (3, .int (nI w)), (4, .int (zb (zBm T t w)))]) hx hb dX3_answer_76 hl (k := 6) rfl (zinc k 1) (by decide) rfl (fun ls hl => ?_)
                refine lv_goto (tgt := 26) hx hb dX3_answer_79 (by decide) ?_
                exact ih (k + 1) (x + 1) ls (by omega) (by first | exact j2.trans (zcnt_t (by simp [c_30_4, c_41_5, c_49_6, c_60_8, c_70_9])) | exact j2.trans (zcnt_f (by simp [c_30_4, c_41_5, c_49_6, c_60_8, c_70_9]))) (lv_sub hl [2, 3, 4, 5, 6, 1, 0] rfl)
        · refine lv_goto (tgt := 76) hx hb dX3_answer_44 (by decide) ?_
          refine lv_iinc (v := nI (k + 1)) (lv' := [(6, .int (nI (k + 1))), (0, .ref (a 1)), (1, .int t), (2, .int v), (3, .int (nI w)), (4, .int (zb (zBm T t w))), (5, .int x)]) hx hb dX3_answer_76 hl (k := 6) rfl (zinc k 1) (by decide) rfl (fun ls hl => ?_)
          refine lv_goto (tgt := 26) hx hb dX3_answer_79 (by decide) ?_
          exact ih (k + 1) x ls (by omega) (by first | exact j2.trans (zcnt_t (by simp [c_30_4, c_41_5])) | exact j2.trans (zcnt_f (by simp [c_30_4, c_41_5]))) (lv_sub hl [1, 2, 3, 4, 5, 6, 0] rfl)
    exact loop_1 24 0 0 ls (by omega) (by rfl) (lv_sub hl [3, 4, 5, 6, 2, 1, 0] rfl)
  refine lv_iload_n hx hb dX3_answer_0 rfl (lv_at hl 3 rfl) ?_
  refine lv_iconst (v := 2) hx hb dX3_answer_1 (by decide) ?_
  refine zn_ne hx hb (x := w) (y := 2) (by omega) (by omega) (tgt := 17) dX3_answer_2 (by decide) (fun c_2_10 => ?_) (fun c_2_10 => ?_)
  · refine lv_iconst (v := 0) hx hb dX3_answer_17 (by decide) ?_
    exact W.eq (congrArg (fun z => F0 m 18 ls [.int z]) (by simp [zBm, zb, c_2_10] : (0 : Int32) = zb (zBm T t w))) cut_18_0
  · refine lv_aload_n hx hb dX3_answer_5 rfl (lv_at hl 0 rfl) ?_
    refine lv_iload_n hx hb dX3_answer_6 rfl (lv_at hl 1 rfl) ?_
    refine zcr (As := [.int t]) (rest := []) (q0 := 0) S (c_X3_mayTrustMarks l D ca a T t) ml_X3_75 zy_X3_mayTrustMarks im_X3_mayTrustMarks se_X3_mayTrustMarks ⟨Nat.le_of_ble_eq_true rfl, Nat.le_of_ble_eq_true rfl⟩ hK hP [0, 1, 2, 3, 4] rfl rfl rfl rfl rfl hl.1 rfl (Nat.le_of_ble_eq_true rfl) ⟨Nat.zero_le _, Nat.zero_le _⟩ dX3_answer_7 ?_
    refine zz_eq (tgt := 17) hx hb dX3_answer_10 (by decide) (fun c_10_11 => ?_) (fun c_10_11 => ?_)
    · refine lv_iconst (v := 0) hx hb dX3_answer_17 (by decide) ?_
      exact W.eq (congrArg (fun z => F0 m 18 ls [.int z]) (by simp [zBm, zb, c_2_10, c_10_11] : (0 : Int32) = zb (zBm T t w))) cut_18_0
    · refine lv_iconst (v := 1) hx hb dX3_answer_13 (by decide) ?_
      refine lv_goto (tgt := 18) hx hb dX3_answer_14 (by decide) ?_
      exact W.eq (congrArg (fun z => F0 m 18 ls [.int z]) (by simp [zBm, zb, c_2_10, c_10_11] : (1 : Int32) = zb (zBm T t w))) cut_18_0
set_option maxHeartbeats 4000000 in
set_option maxRecDepth 100000 in
theorem c_X3_indexHas (l : Launch) (D : va_G) (ca : Nat → ClassId) (a : Nat → Nat) (T : zTb) (p0 : Nat) (hp : p0 < 6) (v : Int32) : zMr l yX3_indexHas cX3_indexHas 5 (some .boolean) 0 0 D ca [(a 1, .inr (3, [.ref (a 2), .ref (a 3), .ref (a 4), .ref (a 5), .int T.2.2.2.2.1, .int T.2.2.2.2.2])), (a 2, .inl (ca 0, 24, .inl T.1)), (a 3, .inl (ca 0, 24, .inl T.2.1)), (a 4, .inl (ca 0, 24, .inl T.2.2.1)), (a 5, .inl (ca 0, 6, .inl T.2.2.2.1))] [.ref (a 1), .int (nI p0), .int v] (.int (zb (zHas T p0 v))) := by
  refine zMr_of (own := RX3) (by decide) rfl (Nat.le_of_ble_eq_true rfl) ?_
  intro p e s m args below meth c ls S hr hlk hP hK hl
  have hx := S.1
  have hb := S.2.1
  have hl : lv_has ls 5 [(0, .ref (a 1)), (1, .int (nI p0)), (2, .int v)] := hl
  refine lv_iload_n hx hb dX3_indexHas_0 rfl (lv_at hl 1 rfl) ?_
  refine lv_iconst (v := 4) hx hb dX3_indexHas_1 (by decide) ?_
  refine zn_mul hx hb (x := p0) (y := 4) (z := p0 * 4) (by first | rfl | omega) dX3_indexHas_2 ?_
  refine lv_istore_n (lv' := [(3, .int (nI (p0 * 4))), (0, .ref (a 1)), (1, .int (nI p0)), (2, .int v)]) hx hb dX3_indexHas_3 rfl hl (by decide) rfl (fun ls hl => ?_)
  refine lv_iload_n hx hb dX3_indexHas_4 rfl (lv_at hl 0 rfl) ?_
  refine lv_istore (lv' := [(4, .int (nI (p0 * 4))), (3, .int (nI (p0 * 4))), (0, .ref (a 1)), (1, .int (nI p0)), (2, .int v)]) hx hb dX3_indexHas_5 hl (by decide) rfl (fun ls hl => ?_)
  have loop_0 : ∀ (f : Nat) (k : Nat) (ls : Array Slot), k + f = p0 * 4 + 4 → zHas T p0 v = zany (fun k => decide (T.1 k = v)) f k → lv_has ls 5 [(0, .ref (a 1)), (1, .int (nI p0)), (2, .int v), (3, .int (nI (p0 * 4))), (4, .int (nI k))] → W p l e { frames := 0, cells := 0, slots := 0, locals := 0 } s m args below meth c s.heap [] 0 0 (MQ below (zQr (.int (zb (zHas T p0 v)))) args s 0 0 (fun _ => False)) (F0 m 7 ls []) := by
    intro f
    induction f with
    | zero =>
      intro k ls j1 j2 hl
      refine lv_iload hx hb dX3_indexHas_7 (lv_at hl 4 rfl) ?_
      refine lv_iload_n hx hb dX3_indexHas_9 rfl (lv_at hl 3 rfl) ?_
      refine lv_iconst (v := 4) hx hb dX3_indexHas_10 (by decide) ?_
      refine zn_add hx hb (x := p0 * 4) (y := 4) (z := (p0 * 4) + 4) (by omega) dX3_indexHas_11 ?_
      refine zn_ge hx hb (x := k) (y := (p0 * 4) + 4) (by omega) (by omega) (tgt := 34) dX3_indexHas_12 (by decide) (fun c_12_2 => ?_) (fun h => False.elim (by omega))
      refine lv_iconst (v := 0) hx hb dX3_indexHas_34 (by decide) ?_
      exact zr_z hx hb hr hlk (by rw [j2]; rfl) dX3_indexHas_35
    | succ f ih =>
      intro k ls j1 j2 hl
      refine lv_iload hx hb dX3_indexHas_7 (lv_at hl 4 rfl) ?_
      refine lv_iload_n hx hb dX3_indexHas_9 rfl (lv_at hl 3 rfl) ?_
      refine lv_iconst (v := 4) hx hb dX3_indexHas_10 (by decide) ?_
      refine zn_add hx hb (x := p0 * 4) (y := 4) (z := (p0 * 4) + 4) (by omega) dX3_indexHas_11 ?_
      refine zn_ge hx hb (x := k) (y := (p0 * 4) + 4) (by omega) (by omega) (tgt := 34) dX3_indexHas_12 (by decide) (fun h => False.elim (by omega)) (fun c_12_3 => ?_)
      refine lv_aload_n hx hb dX3_indexHas_15 rfl (lv_at hl 0 rfl) ?_
      refine z_get S in_lay_X3 hK hP rfl 0 rfl 0 (by decide) fl_X3_9 rfl rfl dX3_indexHas_16 ?_
      refine lv_iload hx hb dX3_indexHas_19 (lv_at hl 4 rfl) ?_
      refine z_iald S hK hP 1 rfl (j := k) (by omega) (by decide) dX3_indexHas_21 ?_
      refine lv_iload_n hx hb dX3_indexHas_22 rfl (lv_at hl 2 rfl) ?_
      refine lv_icmp_ne (tgt := 28) hx hb dX3_indexHas_23 (by decide) (fun c_23_4 => ?_) (fun c_23_4 => ?_)
      · refine lv_iinc (v := nI (k + 1)) (lv' := [(4, .int (nI (k + 1))), (0, .ref (a 1)), (1, .int (nI p0)), (2, .int v), (3, .int (nI (p0 * 4)))]) hx hb dX3_indexHas_28 hl (k := 4) rfl (zinc k 1) (by decide) rfl (fun ls hl => ?_)
        refine lv_goto (tgt := 7) hx hb dX3_indexHas_31 (by decide) ?_
        exact ih (k + 1) ls (by omega) (by exact j2.trans (zany_f (by simp [c_12_3, c_23_4]))) (lv_sub hl [1, 2, 3, 4, 0] rfl)
      · refine lv_iconst (v := 1) hx hb dX3_indexHas_26 (by decide) ?_
        exact zr_z hx hb hr hlk (by rw [j2.trans (zany_t (by simp [c_12_3, c_23_4]))]; rfl) dX3_indexHas_27
  exact loop_0 4 (p0 * 4) ls (by omega) (by rfl) (lv_sub hl [2, 3, 4, 1, 0] rfl)
set_option maxHeartbeats 4000000 in
set_option maxRecDepth 100000 in
theorem c_X3_cost (l : Launch) (D : va_G) (ca : Nat → ClassId) (a : Nat → Nat) (T : zTb) (t v : Int32) (w : Nat) (hw : w < 3) : zMr l yX3_cost cX3_cost 7 (some .int) 1 24 D ca [(a 1, .inr (3, [.ref (a 2), .ref (a 3), .ref (a 4), .ref (a 5), .int T.2.2.2.2.1, .int T.2.2.2.2.2])), (a 2, .inl (ca 0, 24, .inl T.1)), (a 3, .inl (ca 0, 24, .inl T.2.1)), (a 4, .inl (ca 0, 24, .inl T.2.2.1)), (a 5, .inl (ca 0, 6, .inl T.2.2.2.1))] [.ref (a 1), .int t, .int v, .int (nI w)] (.int (zCost T t v w)) := by
  refine zMr_of (own := RX3) (by decide) rfl (Nat.le_of_ble_eq_true rfl) ?_
  intro p e s m args below meth c ls S hr hlk hP hK hl
  have hx := S.1
  have hb := S.2.1
  have hl : lv_has ls 7 [(0, .ref (a 1)), (1, .int t), (2, .int v), (3, .int (nI w))] := hl
  refine lv_iload_n hx hb dX3_cost_0 rfl (lv_at hl 3 rfl) ?_
  refine zn_ne0 hx hb (x := w) (by omega) (tgt := 7) dX3_cost_1 (by decide) (fun c_1_1 => ?_) (fun c_1_1 => ?_)
  · have cut_25_1 : W p l e { frames := 1, cells := 0, slots := 0, locals := 24 } s m args below meth c s.heap [] 0 0 (MQ below (zQr (.int (zCost T t v w))) args s 0 0 (fun _ => False)) (F0 m 25 ls [.int (zb (zBm T t w))]) := by
      refine lv_istore (lv' := [(4, .int (zb (zBm T t w))), (0, .ref (a 1)), (1, .int t), (2, .int v), (3, .int (nI w))]) hx hb dX3_cost_25 hl (by decide) rfl (fun ls hl => ?_)
      refine lv_iconst (v := 0) hx hb dX3_cost_27 (by decide) ?_
      refine lv_istore (lv' := [(5, .int 0), (4, .int (zb (zBm T t w))), (0, .ref (a 1)), (1, .int t), (2, .int v), (3, .int (nI w))]) hx hb dX3_cost_28 hl (by decide) rfl (fun ls hl => ?_)
      refine lv_iconst (v := 0) hx hb dX3_cost_30 (by decide) ?_
      refine lv_istore (lv' := [(6, .int 0), (5, .int 0), (4, .int (zb (zBm T t w))), (0, .ref (a 1)), (1, .int t), (2, .int v), (3, .int (nI w))]) hx hb dX3_cost_31 hl (by decide) rfl (fun ls hl => ?_)
      have loop_2 : ∀ (f : Nat) (k : Nat) (x : Int32) (ls : Array Slot), k + f = 6 → zcnt (fun p => zHas T p v && !(zBm T t w && zMk T p)) 6 0 0 = zcnt (fun p => zHas T p v && !(zBm T t w && zMk T p)) f k x → lv_has ls 7 [(0, .ref (a 1)), (1, .int t), (2, .int v), (3, .int (nI w)), (4, .int (zb (zBm T t w))), (5, .int x), (6, .int (nI k))] → W p l e { frames := 1, cells := 0, slots := 0, locals := 24 } s m args below meth c s.heap [] 0 0 (MQ below (zQr (.int (zCost T t v w))) args s 0 0 (fun _ => False)) (F0 m 33 ls []) := by
        intro f
        induction f with
        | zero =>
          intro k x ls j1 j2 hl
          refine lv_iload hx hb dX3_cost_33 (lv_at hl 6 rfl) ?_
          refine lv_bipush (v := 6) hx hb dX3_cost_35 (by decide) ?_
          refine zn_ge hx hb (x := k) (y := 6) (by omega) (by omega) (tgt := 73) dX3_cost_37 (by decide) (fun c_37_4 => ?_) (fun h => False.elim (by omega))
          refine lv_iload hx hb dX3_cost_73 (lv_at hl 5 rfl) ?_
          exact zr_i hx hb hr hlk (by rw [zCost, if_neg (by omega)]; exact j2.symm) dX3_cost_75
        | succ f ih =>
          intro k x ls j1 j2 hl
          refine lv_iload hx hb dX3_cost_33 (lv_at hl 6 rfl) ?_
          refine lv_bipush (v := 6) hx hb dX3_cost_35 (by decide) ?_
          refine zn_ge hx hb (x := k) (y := 6) (by omega) (by omega) (tgt := 73) dX3_cost_37 (by decide) (fun h => False.elim (by omega)) (fun c_37_5 => ?_)
          refine lv_aload_n hx hb dX3_cost_40 rfl (lv_at hl 0 rfl) ?_
          refine lv_iload hx hb dX3_cost_41 (lv_at hl 6 rfl) ?_
          refine lv_iload_n hx hb dX3_cost_43 rfl (lv_at hl 2 rfl) ?_
          refine zcr (As := [.int (nI k), .int v]) (rest := []) (q0 := 0) S (c_X3_indexHas l D ca a T k (by omega) v) ml_X3_78 zy_X3_indexHas im_X3_indexHas se_X3_indexHas ⟨Nat.le_of_ble_eq_true rfl, Nat.le_of_ble_eq_true rfl⟩ hK hP [0, 1, 2, 3, 4] rfl rfl rfl rfl rfl hl.1 rfl (Nat.le_of_ble_eq_true rfl) ⟨Nat.zero_le _, Nat.zero_le _⟩ dX3_cost_44 ?_
          refine zz_eq (tgt := 67) hx hb dX3_cost_47 (by decide) (fun c_47_6 => ?_) (fun c_47_6 => ?_)
          · refine lv_iinc (v := nI (k + 1)) (lv' := [(6, .int (nI (k + 1))), (0, .ref (a 1)), (1, .int t), (2, .int v), (3, .int (nI w)), (4, .int (zb (zBm T t w))), (5, .int x)]) hx hb dX3_cost_67 hl (k := 6) rfl (zinc k 1) (by decide) rfl (fun ls hl => ?_)
            refine lv_goto (tgt := 33) hx hb dX3_cost_70 (by decide) ?_
            exact ih (k + 1) x ls (by omega) (by first | exact j2.trans (zcnt_t (by simp [c_1_1, c_37_5, c_47_6])) | exact j2.trans (zcnt_f (by simp [c_1_1, c_37_5, c_47_6]))) (lv_sub hl [1, 2, 3, 4, 5, 6, 0] rfl)
          · refine lv_iload hx hb dX3_cost_50 (lv_at hl 4 rfl) ?_
            refine zz_eq (tgt := 64) hx hb dX3_cost_52 (by decide) (fun c_52_7 => ?_) (fun c_52_7 => ?_)
            · refine lv_iinc (v := x + 1) (lv' := [(5, .int (x + 1)), (0, .ref (a 1)), (1, .int t), (2, .int v), (3, .int (nI w)), (4, .int (zb (zBm T t w))), (6, .int (nI k))]) hx hb dX3_cost_64 hl (k := 5) rfl (rfl) (by decide) rfl (fun ls hl => ?_)
              refine lv_iinc (v := nI (k + 1)) (lv' := [(6, .int (nI (k + 1))), (5, .int (x + 1)), (0, .ref (a 1)), (1, .int t), (2, .int v), (3, .int (nI w)), (4, .int (zb (zBm T t w)))]) hx hb dX3_cost_67 hl (k := 6) rfl (zinc k 1) (by decide) rfl (fun ls hl => ?_)
              refine lv_goto (tgt := 33) hx hb dX3_cost_70 (by decide) ?_
              exact ih (k + 1) (x + 1) ls (by omega) (by first | exact j2.trans (zcnt_t (by simp [c_1_1, c_37_5, c_47_6, c_52_7])) | exact j2.trans (zcnt_f (by simp [c_1_1, c_37_5, c_47_6, c_52_7]))) (lv_sub hl [2, 3, 4, 5, 6, 1, 0] rfl)
            · refine lv_aload_n hx hb dX3_cost_55 rfl (lv_at hl 0 rfl) ?_
              refine lv_iload hx hb dX3_cost_56 (lv_at hl 6 rfl) ?_
              refine zcr (As := [.int (nI k)]) (rest := []) (q0 := 0) S (c_X3_isMarked l D ca a T k (by omega)) ml_X3_72 zy_X3_isMarked im_X3_isMarked se_X3_isMarked ⟨Nat.le_of_ble_eq_true rfl, Nat.le_of_ble_eq_true rfl⟩ hK hP [0, 1, 2, 3, 4] rfl rfl rfl rfl rfl hl.1 rfl (Nat.le_of_ble_eq_true rfl) ⟨Nat.zero_le _, Nat.zero_le _⟩ dX3_cost_58 ?_
              refine zz_ne (tgt := 67) hx hb dX3_cost_61 (by decide) (fun c_61_8 => ?_) (fun c_61_8 => ?_)
              · refine lv_iinc (v := nI (k + 1)) (lv' := [(6, .int (nI (k + 1))), (0, .ref (a 1)), (1, .int t), (2, .int v), (3, .int (nI w)), (4, .int (zb (zBm T t w))), (5, .int x)]) hx hb dX3_cost_67 hl (k := 6) rfl (zinc k 1) (by decide) rfl (fun ls hl => ?_)
                refine lv_goto (tgt := 33) hx hb dX3_cost_70 (by decide) ?_
                exact ih (k + 1) x ls (by omega) (by first | exact j2.trans (zcnt_t (by simp [c_1_1, c_37_5, c_47_6, c_52_7, c_61_8])) | exact j2.trans (zcnt_f (by simp [c_1_1, c_37_5, c_47_6, c_52_7, c_61_8]))) (lv_sub hl [1, 2, 3, 4, 5, 6, 0] rfl)
              · refine lv_iinc (v := x + 1) (lv' := [(5, .int (x + 1)), (0, .ref (a 1)), (1, .int t), (2, .int v), (3, .int (nI w)), (4, .int (zb (zBm T t w))), (6, .int (nI k))]) hx hb dX3_cost_64 hl (k := 5) rfl (rfl) (by decide) rfl (fun ls hl => ?_)
                refine lv_iinc (v := nI (k + 1)) (lv' := [(6, .int (nI (k + 1))), (5, .int (x + 1)), (0, .ref (a 1)), (1, .int t), (2, .int v), (3, .int (nI w)), (4, .int (zb (zBm T t w)))]) hx hb dX3_cost_67 hl (k := 6) rfl (zinc k 1) (by decide) rfl (fun ls hl => ?_)
                refine lv_goto (tgt := 33) hx hb dX3_cost_70 (by decide) ?_
                exact ih (k + 1) (x + 1) ls (by omega) (by first | exact j2.trans (zcnt_t (by simp [c_1_1, c_37_5, c_47_6, c_52_7, c_61_8])) | exact j2.trans (zcnt_f (by simp [c_1_1, c_37_5, c_47_6, c_52_7, c_61_8]))) (lv_sub hl [2, 3, 4, 5, 6, 1, 0] rfl)
      exact loop_2 6 0 0 ls (by omega) (by rfl) (lv_sub hl [3, 4, 5, 6, 2, 1, 0] rfl)
    refine lv_iload_n hx hb dX3_cost_7 rfl (lv_at hl 3 rfl) ?_
    refine lv_iconst (v := 2) hx hb dX3_cost_8 (by decide) ?_
    refine zn_ne hx hb (x := w) (y := 2) (by omega) (by omega) (tgt := 24) dX3_cost_9 (by decide) (fun c_9_9 => ?_) (fun c_9_9 => ?_)
    · refine lv_iconst (v := 0) hx hb dX3_cost_24 (by decide) ?_
      exact W.eq (congrArg (fun z => F0 m 25 ls [.int z]) (by simp [zBm, zb, c_1_1, c_9_9] : (0 : Int32) = zb (zBm T t w))) cut_25_1
    · refine lv_aload_n hx hb dX3_cost_12 rfl (lv_at hl 0 rfl) ?_
      refine lv_iload_n hx hb dX3_cost_13 rfl (lv_at hl 1 rfl) ?_
      refine zcr (As := [.int t]) (rest := []) (q0 := 0) S (c_X3_mayTrustMarks l D ca a T t) ml_X3_75 zy_X3_mayTrustMarks im_X3_mayTrustMarks se_X3_mayTrustMarks ⟨Nat.le_of_ble_eq_true rfl, Nat.le_of_ble_eq_true rfl⟩ hK hP [0, 1, 2, 3, 4] rfl rfl rfl rfl rfl hl.1 rfl (Nat.le_of_ble_eq_true rfl) ⟨Nat.zero_le _, Nat.zero_le _⟩ dX3_cost_14 ?_
      refine zz_eq (tgt := 24) hx hb dX3_cost_17 (by decide) (fun c_17_10 => ?_) (fun c_17_10 => ?_)
      · refine lv_iconst (v := 0) hx hb dX3_cost_24 (by decide) ?_
        exact W.eq (congrArg (fun z => F0 m 25 ls [.int z]) (by simp [zBm, zb, c_1_1, c_9_9, c_17_10] : (0 : Int32) = zb (zBm T t w))) cut_25_1
      · refine lv_iconst (v := 1) hx hb dX3_cost_20 (by decide) ?_
        refine lv_goto (tgt := 25) hx hb dX3_cost_21 (by decide) ?_
        exact W.eq (congrArg (fun z => F0 m 25 ls [.int z]) (by simp [zBm, zb, c_1_1, c_9_9, c_17_10] : (1 : Int32) = zb (zBm T t w))) cut_25_1
  · refine lv_bipush (v := 6) hx hb dX3_cost_4 (by decide) ?_
    exact zr_i hx hb hr hlk (by simp [zCost, c_1_1]) dX3_cost_6
set_option maxHeartbeats 4000000 in
set_option maxRecDepth 100000 in
theorem c_X3_wronglyTold (l : Launch) (D : va_G) (ca : Nat → ClassId) (a : Nat → Nat) (T : zTb) (v : Int32) : zMr l yX3_wronglyTold cX3_wronglyTold 4 (some .int) 2 43 D ca [(a 1, .inr (3, [.ref (a 2), .ref (a 3), .ref (a 4), .ref (a 5), .int T.2.2.2.2.1, .int T.2.2.2.2.2])), (a 2, .inl (ca 0, 24, .inl T.1)), (a 3, .inl (ca 0, 24, .inl T.2.1)), (a 4, .inl (ca 0, 24, .inl T.2.2.1)), (a 5, .inl (ca 0, 6, .inl T.2.2.2.1))] [.ref (a 1), .int v] (.int (zWr T v)) := by
  refine zMr_of (own := RX3) (by decide) rfl (Nat.le_of_ble_eq_true rfl) ?_
  intro p e s m args below meth c ls S hr hlk hP hK hl
  have hx := S.1
  have hb := S.2.1
  have hl : lv_has ls 4 [(0, .ref (a 1)), (1, .int v)] := hl
  refine lv_iconst (v := 0) hx hb dX3_wronglyTold_0 (by decide) ?_
  refine lv_istore_n (lv' := [(2, .int 0), (0, .ref (a 1)), (1, .int v)]) hx hb dX3_wronglyTold_1 rfl hl (by decide) rfl (fun ls hl => ?_)
  refine lv_iconst (v := 0) hx hb dX3_wronglyTold_2 (by decide) ?_
  refine lv_istore_n (lv' := [(3, .int 0), (2, .int 0), (0, .ref (a 1)), (1, .int v)]) hx hb dX3_wronglyTold_3 rfl hl (by decide) rfl (fun ls hl => ?_)
  have loop_0 : ∀ (f : Nat) (k : Nat) (x : Int32) (ls : Array Slot), k + f = 24 → zcnt (fun k => decide (T.1 k = v) && !zSeen T k T.2.2.2.2.1) 24 0 0 = zcnt (fun k => decide (T.1 k = v) && !zSeen T k T.2.2.2.2.1) f k x → lv_has ls 4 [(0, .ref (a 1)), (1, .int v), (2, .int x), (3, .int (nI k))] → W p l e { frames := 2, cells := 0, slots := 0, locals := 43 } s m args below meth c s.heap [] 0 0 (MQ below (zQr (.int (zWr T v))) args s 0 0 (fun _ => False)) (F0 m 4 ls []) := by
    intro f
    induction f with
    | zero =>
      intro k x ls j1 j2 hl
      refine lv_iload_n hx hb dX3_wronglyTold_4 rfl (lv_at hl 3 rfl) ?_
      refine lv_bipush (v := 24) hx hb dX3_wronglyTold_5 (by decide) ?_
      refine zn_ge hx hb (x := k) (y := 24) (by omega) (by omega) (tgt := 37) dX3_wronglyTold_7 (by decide) (fun c_7_2 => ?_) (fun h => False.elim (by omega))
      refine lv_iload_n hx hb dX3_wronglyTold_37 rfl (lv_at hl 2 rfl) ?_
      exact zr_i hx hb hr hlk (by exact j2.symm) dX3_wronglyTold_38
    | succ f ih =>
      intro k x ls j1 j2 hl
      refine lv_iload_n hx hb dX3_wronglyTold_4 rfl (lv_at hl 3 rfl) ?_
      refine lv_bipush (v := 24) hx hb dX3_wronglyTold_5 (by decide) ?_
      refine zn_ge hx hb (x := k) (y := 24) (by omega) (by omega) (tgt := 37) dX3_wronglyTold_7 (by decide) (fun h => False.elim (by omega)) (fun c_7_3 => ?_)
      refine lv_aload_n hx hb dX3_wronglyTold_10 rfl (lv_at hl 0 rfl) ?_
      refine z_get S in_lay_X3 hK hP rfl 0 rfl 0 (by decide) fl_X3_9 rfl rfl dX3_wronglyTold_11 ?_
      refine lv_iload_n hx hb dX3_wronglyTold_14 rfl (lv_at hl 3 rfl) ?_
      refine z_iald S hK hP 1 rfl (j := k) (by omega) (by decide) dX3_wronglyTold_15 ?_
      refine lv_iload_n hx hb dX3_wronglyTold_16 rfl (lv_at hl 1 rfl) ?_
      refine lv_icmp_ne (tgt := 31) hx hb dX3_wronglyTold_17 (by decide) (fun c_17_4 => ?_) (fun c_17_4 => ?_)
      · refine lv_iinc (v := nI (k + 1)) (lv' := [(3, .int (nI (k + 1))), (0, .ref (a 1)), (1, .int v), (2, .int x)]) hx hb dX3_wronglyTold_31 hl (k := 3) rfl (zinc k 1) (by decide) rfl (fun ls hl => ?_)
        refine lv_goto (tgt := 4) hx hb dX3_wronglyTold_34 (by decide) ?_
        exact ih (k + 1) x ls (by omega) (by first | exact j2.trans (zcnt_t (by simp [c_7_3, c_17_4])) | exact j2.trans (zcnt_f (by simp [c_7_3, c_17_4]))) (lv_sub hl [1, 2, 3, 0] rfl)
      · refine lv_aload_n hx hb dX3_wronglyTold_20 rfl (lv_at hl 0 rfl) ?_
        refine lv_iload_n hx hb dX3_wronglyTold_21 rfl (lv_at hl 3 rfl) ?_
        refine zcr (As := [.int (nI k)]) (rest := []) (q0 := 0) S (c_X3_isSeenNow l D ca a T k (by omega)) ml_X3_55 zy_X3_isSeenNow im_X3_isSeenNow se_X3_isSeenNow ⟨Nat.le_of_ble_eq_true rfl, Nat.le_of_ble_eq_true rfl⟩ hK hP [0, 1, 2, 3, 4] rfl rfl rfl rfl rfl hl.1 rfl (Nat.le_of_ble_eq_true rfl) ⟨Nat.zero_le _, Nat.zero_le _⟩ dX3_wronglyTold_22 ?_
        refine zz_ne (tgt := 31) hx hb dX3_wronglyTold_25 (by decide) (fun c_25_5 => ?_) (fun c_25_5 => ?_)
        · refine lv_iinc (v := nI (k + 1)) (lv' := [(3, .int (nI (k + 1))), (0, .ref (a 1)), (1, .int v), (2, .int x)]) hx hb dX3_wronglyTold_31 hl (k := 3) rfl (zinc k 1) (by decide) rfl (fun ls hl => ?_)
          refine lv_goto (tgt := 4) hx hb dX3_wronglyTold_34 (by decide) ?_
          exact ih (k + 1) x ls (by omega) (by first | exact j2.trans (zcnt_t (by simp [c_7_3, c_17_4, c_25_5])) | exact j2.trans (zcnt_f (by simp [c_7_3, c_17_4, c_25_5]))) (lv_sub hl [1, 2, 3, 0] rfl)
        · refine lv_iinc (v := x + 1) (lv' := [(2, .int (x + 1)), (0, .ref (a 1)), (1, .int v), (3, .int (nI k))]) hx hb dX3_wronglyTold_28 hl (k := 2) rfl (rfl) (by decide) rfl (fun ls hl => ?_)
          refine lv_iinc (v := nI (k + 1)) (lv' := [(3, .int (nI (k + 1))), (2, .int (x + 1)), (0, .ref (a 1)), (1, .int v)]) hx hb dX3_wronglyTold_31 hl (k := 3) rfl (zinc k 1) (by decide) rfl (fun ls hl => ?_)
          refine lv_goto (tgt := 4) hx hb dX3_wronglyTold_34 (by decide) ?_
          exact ih (k + 1) (x + 1) ls (by omega) (by first | exact j2.trans (zcnt_t (by simp [c_7_3, c_17_4, c_25_5])) | exact j2.trans (zcnt_f (by simp [c_7_3, c_17_4, c_25_5]))) (lv_sub hl [2, 3, 1, 0] rfl)
  exact loop_0 24 0 0 ls (by omega) (by rfl) (lv_sub hl [2, 3, 1, 0] rfl)
set_option maxHeartbeats 4000000 in
set_option maxRecDepth 100000 in
theorem c_X3_leastCostWay (l : Launch) (D : va_G) (ca : Nat → ClassId) (a : Nat → Nat) (T : zTb) (v : Int32) : zMr l yX3_leastCostWay cX3_leastCostWay 4 (some .int) 2 50 D ca [(a 1, .inr (3, [.ref (a 2), .ref (a 3), .ref (a 4), .ref (a 5), .int T.2.2.2.2.1, .int T.2.2.2.2.2])), (a 2, .inl (ca 0, 24, .inl T.1)), (a 3, .inl (ca 0, 24, .inl T.2.1)), (a 4, .inl (ca 0, 24, .inl T.2.2.1)), (a 5, .inl (ca 0, 6, .inl T.2.2.2.1))] [.ref (a 1), .int v] (.int (nI (zLc T v))) := by
  refine zMr_of (own := RX3) (by decide) rfl (Nat.le_of_ble_eq_true rfl) ?_
  intro p e s m args below meth c ls S hr hlk hP hK hl
  have hx := S.1
  have hb := S.2.1
  have hl : lv_has ls 4 [(0, .ref (a 1)), (1, .int v)] := hl
  refine lv_iconst (v := 0) hx hb dX3_leastCostWay_0 (by decide) ?_
  refine lv_istore_n (lv' := [(2, .int 0), (0, .ref (a 1)), (1, .int v)]) hx hb dX3_leastCostWay_1 rfl hl (by decide) rfl (fun ls hl => ?_)
  refine lv_iconst (v := 1) hx hb dX3_leastCostWay_2 (by decide) ?_
  refine lv_istore_n (lv' := [(3, .int 1), (2, .int 0), (0, .ref (a 1)), (1, .int v)]) hx hb dX3_leastCostWay_3 rfl hl (by decide) rfl (fun ls hl => ?_)
  have loop_0 : ∀ (f : Nat) (k : Nat) (b : Nat) (ls : Array Slot), k + f = 3 → b < 3 → zLc T v = zlcF (zCost T T.2.2.2.2.1 v) f k b → lv_has ls 4 [(0, .ref (a 1)), (1, .int v), (2, .int (nI b)), (3, .int (nI k))] → W p l e { frames := 2, cells := 0, slots := 0, locals := 50 } s m args below meth c s.heap [] 0 0 (MQ below (zQr (.int (nI (zLc T v)))) args s 0 0 (fun _ => False)) (F0 m 4 ls []) := by
    intro f
    induction f with
    | zero =>
      intro k b ls j1 j3 j2 hl
      refine lv_iload_n hx hb dX3_leastCostWay_4 rfl (lv_at hl 3 rfl) ?_
      refine lv_iconst (v := 3) hx hb dX3_leastCostWay_5 (by decide) ?_
      refine zn_ge hx hb (x := k) (y := 3) (by omega) (by omega) (tgt := 40) dX3_leastCostWay_6 (by decide) (fun c_6_2 => ?_) (fun h => False.elim (by omega))
      refine lv_iload_n hx hb dX3_leastCostWay_40 rfl (lv_at hl 2 rfl) ?_
      exact zr_i hx hb hr hlk (by exact congrArg nI j2.symm) dX3_leastCostWay_41
    | succ f ih =>
      intro k b ls j1 j3 j2 hl
      refine lv_iload_n hx hb dX3_leastCostWay_4 rfl (lv_at hl 3 rfl) ?_
      refine lv_iconst (v := 3) hx hb dX3_leastCostWay_5 (by decide) ?_
      refine zn_ge hx hb (x := k) (y := 3) (by omega) (by omega) (tgt := 40) dX3_leastCostWay_6 (by decide) (fun h => False.elim (by omega)) (fun c_6_3 => ?_)
      refine lv_aload_n hx hb dX3_leastCostWay_9 rfl (lv_at hl 0 rfl) ?_
      refine lv_aload_n hx hb dX3_leastCostWay_10 rfl (lv_at hl 0 rfl) ?_
      refine z_get S in_lay_X3 hK hP rfl 0 rfl 4 (by decide) fl_X3_36 rfl rfl dX3_leastCostWay_11 ?_
      refine lv_iload_n hx hb dX3_leastCostWay_14 rfl (lv_at hl 1 rfl) ?_
      refine lv_iload_n hx hb dX3_leastCostWay_15 rfl (lv_at hl 3 rfl) ?_
      refine zcr (As := [.int T.2.2.2.2.1, .int v, .int (nI k)]) (rest := []) (q0 := 0) S (c_X3_cost l D ca a T T.2.2.2.2.1 v k (by omega)) ml_X3_81 zy_X3_cost im_X3_cost se_X3_cost ⟨Nat.le_of_ble_eq_true rfl, Nat.le_of_ble_eq_true rfl⟩ hK hP [0, 1, 2, 3, 4] rfl rfl rfl rfl rfl hl.1 rfl (Nat.le_of_ble_eq_true rfl) ⟨Nat.zero_le _, Nat.zero_le _⟩ dX3_leastCostWay_16 ?_
      refine lv_aload_n hx hb dX3_leastCostWay_19 rfl (lv_at hl 0 rfl) ?_
      refine lv_aload_n hx hb dX3_leastCostWay_20 rfl (lv_at hl 0 rfl) ?_
      refine z_get S in_lay_X3 hK hP rfl 0 rfl 4 (by decide) fl_X3_36 rfl rfl dX3_leastCostWay_21 ?_
      refine lv_iload_n hx hb dX3_leastCostWay_24 rfl (lv_at hl 1 rfl) ?_
      refine lv_iload_n hx hb dX3_leastCostWay_25 rfl (lv_at hl 2 rfl) ?_
      refine zcr (As := [.int T.2.2.2.2.1, .int v, .int (nI b)]) (rest := [.int (zCost T T.2.2.2.2.1 v k)]) (q0 := 0) S (c_X3_cost l D ca a T T.2.2.2.2.1 v b (by omega)) ml_X3_81 zy_X3_cost im_X3_cost se_X3_cost ⟨Nat.le_of_ble_eq_true rfl, Nat.le_of_ble_eq_true rfl⟩ hK hP [0, 1, 2, 3, 4] rfl rfl rfl rfl rfl hl.1 rfl (Nat.le_of_ble_eq_true rfl) ⟨Nat.zero_le _, Nat.zero_le _⟩ dX3_leastCostWay_26 ?_
      refine lv_icmp_gt (tgt := 34) hx hb dX3_leastCostWay_29 (by decide) (fun c_29_4 => ?_) (fun c_29_4 => ?_)
      · refine lv_iinc (v := nI (k + 1)) (lv' := [(3, .int (nI (k + 1))), (0, .ref (a 1)), (1, .int v), (2, .int (nI b))]) hx hb dX3_leastCostWay_34 hl (k := 3) rfl (zinc k 1) (by decide) rfl (fun ls hl => ?_)
        refine lv_goto (tgt := 4) hx hb dX3_leastCostWay_37 (by decide) ?_
        exact ih (k + 1) b ls (by omega) (by omega) (by first | (rw [j2]; simp [zlcF, c_6_3, c_29_4]; done) | simp [zlcF, j2, c_6_3, c_29_4]) (lv_sub hl [1, 2, 3, 0] rfl)
      · refine lv_iload_n hx hb dX3_leastCostWay_32 rfl (lv_at hl 3 rfl) ?_
        refine lv_istore_n (lv' := [(2, .int (nI k)), (0, .ref (a 1)), (1, .int v), (3, .int (nI k))]) hx hb dX3_leastCostWay_33 rfl hl (by decide) rfl (fun ls hl => ?_)
        refine lv_iinc (v := nI (k + 1)) (lv' := [(3, .int (nI (k + 1))), (2, .int (nI k)), (0, .ref (a 1)), (1, .int v)]) hx hb dX3_leastCostWay_34 hl (k := 3) rfl (zinc k 1) (by decide) rfl (fun ls hl => ?_)
        refine lv_goto (tgt := 4) hx hb dX3_leastCostWay_37 (by decide) ?_
        exact ih (k + 1) k ls (by omega) (by omega) (by first | (rw [j2]; simp [zlcF, c_6_3, c_29_4]; done) | simp [zlcF, j2, c_6_3, c_29_4]) (lv_sub hl [2, 3, 1, 0] rfl)
  exact loop_0 2 1 0 ls (by omega) (by omega) (by rfl) (lv_sub hl [2, 3, 1, 0] rfl)
set_option maxHeartbeats 4000000 in
set_option maxRecDepth 100000 in
theorem c_X3_come (l : Launch) (D : va_G) (ca : Nat → ClassId) (a : Nat → Nat) (T : zTb) (k : Nat) (hk : k < 24) (v : Int32) (hN : [a 1, a 2, a 3, a 4, a 5].Nodup) : zMw l yX3_come cX3_come 3 none 0 0 D ca [(a 1, .inr (3, [.ref (a 2), .ref (a 3), .ref (a 4), .ref (a 5), .int T.2.2.2.2.1, .int T.2.2.2.2.2])), (a 2, .inl (ca 0, 24, .inl T.1)), (a 3, .inl (ca 0, 24, .inl T.2.1)), (a 4, .inl (ca 0, 24, .inl T.2.2.1)), (a 5, .inl (ca 0, 6, .inl T.2.2.2.1))] ([(a 1, .inr (3, [.ref (a 2), .ref (a 3), .ref (a 4), .ref (a 5), .int ((zCome T k v).2.2.2.2.1), .int ((zCome T k v).2.2.2.2.2)])), (a 2, .inl (ca 0, 24, .inl ((zCome T k v).1))), (a 3, .inl (ca 0, 24, .inl ((zCome T k v).2.1))), (a 4, .inl (ca 0, 24, .inl ((zCome T k v).2.2.1))), (a 5, .inl (ca 0, 6, .inl ((zCome T k v).2.2.2.1)))]) [.ref (a 1), .int (nI k), .int v] none := by
  refine zMw_of (own := RX3) (by decide) rfl (Nat.le_of_ble_eq_true rfl) ?_
  intro p e s m args below meth c ls S hr hlk hP hK hl hS
  have hP : va_P D vwCl [(a 1, .inr (3, [.ref (a 2), .ref (a 3), .ref (a 4), .ref (a 5), .int T.2.2.2.2.1, .int T.2.2.2.2.2])), (a 2, .inl (ca 0, 24, .inl T.1)), (a 3, .inl (ca 0, 24, .inl T.2.1)), (a 4, .inl (ca 0, 24, .inl T.2.2.1)), (a 5, .inl (ca 0, 6, .inl T.2.2.2.1))] s.heap := hP
  have hS : va_S (zA [a 1, a 2, a 3, a 4, a 5]) s.heap s.heap [] := hS
  have hA : ∀ q ∈ [a 1, a 2, a 3, a 4, a 5], zA [a 1, a 2, a 3, a 4, a 5] q := fun _ h => h
  have hD := zDto (ws := [(a 1, .inr (3, [.ref (a 2), .ref (a 3), .ref (a 4), .ref (a 5), .int T.2.2.2.2.1, .int T.2.2.2.2.2])), (a 2, .inl (ca 0, 24, .inl T.1)), (a 3, .inl (ca 0, 24, .inl T.2.1)), (a 4, .inl (ca 0, 24, .inl T.2.2.1)), (a 5, .inl (ca 0, 6, .inl T.2.2.2.1))]) hN hA rfl
  have hx := S.1
  have hb := S.2.1
  have hl : lv_has ls 3 [(0, .ref (a 1)), (1, .int (nI k)), (2, .int v)] := hl
  refine lv_aload_n hx hb dX3_come_0 rfl (lv_at hl 0 rfl) ?_
  refine z_get S in_lay_X3 hK hP rfl 0 rfl 0 (by decide) fl_X3_9 rfl rfl dX3_come_1 ?_
  refine lv_iload_n hx hb dX3_come_4 rfl (lv_at hl 1 rfl) ?_
  refine lv_iload_n hx hb dX3_come_5 rfl (lv_at hl 2 rfl) ?_
  refine z_iast S hK hP hD hS 1 rfl (j := k) (by omega) (by decide) dX3_come_6 (fun H locs hP hS => ?_)
  have hP : va_P D vwCl [(a 1, .inr (3, [.ref (a 2), .ref (a 3), .ref (a 4), .ref (a 5), .int T.2.2.2.2.1, .int T.2.2.2.2.2])), (a 2, .inl (ca 0, 24, .inl (upd T.1 k v))), (a 3, .inl (ca 0, 24, .inl T.2.1)), (a 4, .inl (ca 0, 24, .inl T.2.2.1)), (a 5, .inl (ca 0, 6, .inl T.2.2.2.1))] H := hP
  have hD := zDto (ws := [(a 1, .inr (3, [.ref (a 2), .ref (a 3), .ref (a 4), .ref (a 5), .int T.2.2.2.2.1, .int T.2.2.2.2.2])), (a 2, .inl (ca 0, 24, .inl (upd T.1 k v))), (a 3, .inl (ca 0, 24, .inl T.2.1)), (a 4, .inl (ca 0, 24, .inl T.2.2.1)), (a 5, .inl (ca 0, 6, .inl T.2.2.2.1))]) hN hA rfl
  refine lv_aload_n hx hb dX3_come_7 rfl (lv_at hl 0 rfl) ?_
  refine z_get S in_lay_X3 hK hP rfl 0 rfl 1 (by decide) fl_X3_15 rfl rfl dX3_come_8 ?_
  refine lv_iload_n hx hb dX3_come_11 rfl (lv_at hl 1 rfl) ?_
  refine lv_aload_n hx hb dX3_come_12 rfl (lv_at hl 0 rfl) ?_
  refine z_get S in_lay_X3 hK hP rfl 0 rfl 4 (by decide) fl_X3_36 rfl rfl dX3_come_13 ?_
  refine z_iast S hK hP hD hS 2 rfl (j := k) (by omega) (by decide) dX3_come_16 (fun H locs hP hS => ?_)
  have hP : va_P D vwCl [(a 1, .inr (3, [.ref (a 2), .ref (a 3), .ref (a 4), .ref (a 5), .int T.2.2.2.2.1, .int T.2.2.2.2.2])), (a 2, .inl (ca 0, 24, .inl (upd T.1 k v))), (a 3, .inl (ca 0, 24, .inl (upd T.2.1 k T.2.2.2.2.1))), (a 4, .inl (ca 0, 24, .inl T.2.2.1)), (a 5, .inl (ca 0, 6, .inl T.2.2.2.1))] H := hP
  have hD := zDto (ws := [(a 1, .inr (3, [.ref (a 2), .ref (a 3), .ref (a 4), .ref (a 5), .int T.2.2.2.2.1, .int T.2.2.2.2.2])), (a 2, .inl (ca 0, 24, .inl (upd T.1 k v))), (a 3, .inl (ca 0, 24, .inl (upd T.2.1 k T.2.2.2.2.1))), (a 4, .inl (ca 0, 24, .inl T.2.2.1)), (a 5, .inl (ca 0, 6, .inl T.2.2.2.1))]) hN hA rfl
  refine lv_aload_n hx hb dX3_come_17 rfl (lv_at hl 0 rfl) ?_
  refine z_get S in_lay_X3 hK hP rfl 0 rfl 2 (by decide) fl_X3_18 rfl rfl dX3_come_18 ?_
  refine lv_iload_n hx hb dX3_come_21 rfl (lv_at hl 1 rfl) ?_
  refine lv_iconst (v := 0) hx hb dX3_come_22 (by decide) ?_
  refine z_iast S hK hP hD hS 3 rfl (j := k) (by omega) (by decide) dX3_come_23 (fun H locs hP hS => ?_)
  have hP : va_P D vwCl [(a 1, .inr (3, [.ref (a 2), .ref (a 3), .ref (a 4), .ref (a 5), .int T.2.2.2.2.1, .int T.2.2.2.2.2])), (a 2, .inl (ca 0, 24, .inl (upd T.1 k v))), (a 3, .inl (ca 0, 24, .inl (upd T.2.1 k T.2.2.2.2.1))), (a 4, .inl (ca 0, 24, .inl (upd T.2.2.1 k 0))), (a 5, .inl (ca 0, 6, .inl T.2.2.2.1))] H := hP
  have hD := zDto (ws := [(a 1, .inr (3, [.ref (a 2), .ref (a 3), .ref (a 4), .ref (a 5), .int T.2.2.2.2.1, .int T.2.2.2.2.2])), (a 2, .inl (ca 0, 24, .inl (upd T.1 k v))), (a 3, .inl (ca 0, 24, .inl (upd T.2.1 k T.2.2.2.2.1))), (a 4, .inl (ca 0, 24, .inl (upd T.2.2.1 k 0))), (a 5, .inl (ca 0, 6, .inl T.2.2.2.1))]) hN hA rfl
  refine lv_aload_n hx hb dX3_come_24 rfl (lv_at hl 0 rfl) ?_
  refine z_get S in_lay_X3 hK hP rfl 0 rfl 3 (by decide) fl_X3_21 rfl rfl dX3_come_25 ?_
  refine lv_iload_n hx hb dX3_come_28 rfl (lv_at hl 1 rfl) ?_
  refine lv_iconst (v := 4) hx hb dX3_come_29 (by decide) ?_
  refine zn_div hx hb (x := k) (y := 4) (z := k / 4) (by omega) (by omega) (by omega) (by first | rfl | omega) dX3_come_30 ?_
  refine lv_iconst (v := (-1)) hx hb dX3_come_31 (by decide) ?_
  refine z_iast S hK hP hD hS 4 rfl (j := k / 4) (by omega) (by decide) dX3_come_32 (fun H locs hP hS => ?_)
  have hP : va_P D vwCl [(a 1, .inr (3, [.ref (a 2), .ref (a 3), .ref (a 4), .ref (a 5), .int T.2.2.2.2.1, .int T.2.2.2.2.2])), (a 2, .inl (ca 0, 24, .inl (upd T.1 k v))), (a 3, .inl (ca 0, 24, .inl (upd T.2.1 k T.2.2.2.2.1))), (a 4, .inl (ca 0, 24, .inl (upd T.2.2.1 k 0))), (a 5, .inl (ca 0, 6, .inl (upd T.2.2.2.1 (k / 4) (-1))))] H := hP
  have hD := zDto (ws := [(a 1, .inr (3, [.ref (a 2), .ref (a 3), .ref (a 4), .ref (a 5), .int T.2.2.2.2.1, .int T.2.2.2.2.2])), (a 2, .inl (ca 0, 24, .inl (upd T.1 k v))), (a 3, .inl (ca 0, 24, .inl (upd T.2.1 k T.2.2.2.2.1))), (a 4, .inl (ca 0, 24, .inl (upd T.2.2.1 k 0))), (a 5, .inl (ca 0, 6, .inl (upd T.2.2.2.1 (k / 4) (-1))))]) hN hA rfl
  have hz : zCome T k v = (upd T.1 k v, upd T.2.1 k T.2.2.2.2.1, upd T.2.2.1 k 0, upd T.2.2.2.1 (k / 4) (-1), T.2.2.2.2.1, T.2.2.2.2.2) := by rfl
  exact zw_v hx hb hr hlk hP hS (by rw [hz] <;> rfl) dX3_come_33
set_option maxHeartbeats 4000000 in
set_option maxRecDepth 100000 in
theorem c_X3_go (l : Launch) (D : va_G) (ca : Nat → ClassId) (a : Nat → Nat) (T : zTb) (k : Nat) (hk : k < 24) (hN : [a 1, a 2, a 3, a 4, a 5].Nodup) : zMw l yX3_go cX3_go 2 none 0 0 D ca [(a 1, .inr (3, [.ref (a 2), .ref (a 3), .ref (a 4), .ref (a 5), .int T.2.2.2.2.1, .int T.2.2.2.2.2])), (a 2, .inl (ca 0, 24, .inl T.1)), (a 3, .inl (ca 0, 24, .inl T.2.1)), (a 4, .inl (ca 0, 24, .inl T.2.2.1)), (a 5, .inl (ca 0, 6, .inl T.2.2.2.1))] ([(a 1, .inr (3, [.ref (a 2), .ref (a 3), .ref (a 4), .ref (a 5), .int ((zGo T k).2.2.2.2.1), .int ((zGo T k).2.2.2.2.2)])), (a 2, .inl (ca 0, 24, .inl ((zGo T k).1))), (a 3, .inl (ca 0, 24, .inl ((zGo T k).2.1))), (a 4, .inl (ca 0, 24, .inl ((zGo T k).2.2.1))), (a 5, .inl (ca 0, 6, .inl ((zGo T k).2.2.2.1)))]) [.ref (a 1), .int (nI k)] none := by
  refine zMw_of (own := RX3) (by decide) rfl (Nat.le_of_ble_eq_true rfl) ?_
  intro p e s m args below meth c ls S hr hlk hP hK hl hS
  have hP : va_P D vwCl [(a 1, .inr (3, [.ref (a 2), .ref (a 3), .ref (a 4), .ref (a 5), .int T.2.2.2.2.1, .int T.2.2.2.2.2])), (a 2, .inl (ca 0, 24, .inl T.1)), (a 3, .inl (ca 0, 24, .inl T.2.1)), (a 4, .inl (ca 0, 24, .inl T.2.2.1)), (a 5, .inl (ca 0, 6, .inl T.2.2.2.1))] s.heap := hP
  have hS : va_S (zA [a 1, a 2, a 3, a 4, a 5]) s.heap s.heap [] := hS
  have hA : ∀ q ∈ [a 1, a 2, a 3, a 4, a 5], zA [a 1, a 2, a 3, a 4, a 5] q := fun _ h => h
  have hD := zDto (ws := [(a 1, .inr (3, [.ref (a 2), .ref (a 3), .ref (a 4), .ref (a 5), .int T.2.2.2.2.1, .int T.2.2.2.2.2])), (a 2, .inl (ca 0, 24, .inl T.1)), (a 3, .inl (ca 0, 24, .inl T.2.1)), (a 4, .inl (ca 0, 24, .inl T.2.2.1)), (a 5, .inl (ca 0, 6, .inl T.2.2.2.1))]) hN hA rfl
  have hx := S.1
  have hb := S.2.1
  have hl : lv_has ls 2 [(0, .ref (a 1)), (1, .int (nI k))] := hl
  refine lv_aload_n hx hb dX3_go_0 rfl (lv_at hl 0 rfl) ?_
  refine z_get S in_lay_X3 hK hP rfl 0 rfl 2 (by decide) fl_X3_18 rfl rfl dX3_go_1 ?_
  refine lv_iload_n hx hb dX3_go_4 rfl (lv_at hl 1 rfl) ?_
  refine lv_aload_n hx hb dX3_go_5 rfl (lv_at hl 0 rfl) ?_
  refine z_get S in_lay_X3 hK hP rfl 0 rfl 4 (by decide) fl_X3_36 rfl rfl dX3_go_6 ?_
  refine z_iast S hK hP hD hS 3 rfl (j := k) (by omega) (by decide) dX3_go_9 (fun H locs hP hS => ?_)
  have hP : va_P D vwCl [(a 1, .inr (3, [.ref (a 2), .ref (a 3), .ref (a 4), .ref (a 5), .int T.2.2.2.2.1, .int T.2.2.2.2.2])), (a 2, .inl (ca 0, 24, .inl T.1)), (a 3, .inl (ca 0, 24, .inl T.2.1)), (a 4, .inl (ca 0, 24, .inl (upd T.2.2.1 k T.2.2.2.2.1))), (a 5, .inl (ca 0, 6, .inl T.2.2.2.1))] H := hP
  have hD := zDto (ws := [(a 1, .inr (3, [.ref (a 2), .ref (a 3), .ref (a 4), .ref (a 5), .int T.2.2.2.2.1, .int T.2.2.2.2.2])), (a 2, .inl (ca 0, 24, .inl T.1)), (a 3, .inl (ca 0, 24, .inl T.2.1)), (a 4, .inl (ca 0, 24, .inl (upd T.2.2.1 k T.2.2.2.2.1))), (a 5, .inl (ca 0, 6, .inl T.2.2.2.1))]) hN hA rfl
  refine lv_aload_n hx hb dX3_go_10 rfl (lv_at hl 0 rfl) ?_
  refine z_get S in_lay_X3 hK hP rfl 0 rfl 3 (by decide) fl_X3_21 rfl rfl dX3_go_11 ?_
  refine lv_iload_n hx hb dX3_go_14 rfl (lv_at hl 1 rfl) ?_
  refine lv_iconst (v := 4) hx hb dX3_go_15 (by decide) ?_
  refine zn_div hx hb (x := k) (y := 4) (z := k / 4) (by omega) (by omega) (by omega) (by first | rfl | omega) dX3_go_16 ?_
  refine lv_iconst (v := (-1)) hx hb dX3_go_17 (by decide) ?_
  refine z_iast S hK hP hD hS 4 rfl (j := k / 4) (by omega) (by decide) dX3_go_18 (fun H locs hP hS => ?_)
  have hP : va_P D vwCl [(a 1, .inr (3, [.ref (a 2), .ref (a 3), .ref (a 4), .ref (a 5), .int T.2.2.2.2.1, .int T.2.2.2.2.2])), (a 2, .inl (ca 0, 24, .inl T.1)), (a 3, .inl (ca 0, 24, .inl T.2.1)), (a 4, .inl (ca 0, 24, .inl (upd T.2.2.1 k T.2.2.2.2.1))), (a 5, .inl (ca 0, 6, .inl (upd T.2.2.2.1 (k / 4) (-1))))] H := hP
  have hD := zDto (ws := [(a 1, .inr (3, [.ref (a 2), .ref (a 3), .ref (a 4), .ref (a 5), .int T.2.2.2.2.1, .int T.2.2.2.2.2])), (a 2, .inl (ca 0, 24, .inl T.1)), (a 3, .inl (ca 0, 24, .inl T.2.1)), (a 4, .inl (ca 0, 24, .inl (upd T.2.2.1 k T.2.2.2.2.1))), (a 5, .inl (ca 0, 6, .inl (upd T.2.2.2.1 (k / 4) (-1))))]) hN hA rfl
  have hz : zGo T k = (T.1, T.2.1, upd T.2.2.1 k T.2.2.2.2.1, upd T.2.2.2.1 (k / 4) (-1), T.2.2.2.2.1, T.2.2.2.2.2) := by rfl
  exact zw_v hx hb hr hlk hP hS (by rw [hz] <;> rfl) dX3_go_19
set_option maxHeartbeats 4000000 in
set_option maxRecDepth 100000 in
theorem c_X3_empty (l : Launch) (D : va_G) (ca : Nat → ClassId) (a : Nat → Nat) (T : zTb) (k : Nat) (hk : k < 24) (hN : [a 1, a 2, a 3, a 4, a 5].Nodup) : zMw l yX3_empty cX3_empty 2 none 0 0 D ca [(a 1, .inr (3, [.ref (a 2), .ref (a 3), .ref (a 4), .ref (a 5), .int T.2.2.2.2.1, .int T.2.2.2.2.2])), (a 2, .inl (ca 0, 24, .inl T.1)), (a 3, .inl (ca 0, 24, .inl T.2.1)), (a 4, .inl (ca 0, 24, .inl T.2.2.1)), (a 5, .inl (ca 0, 6, .inl T.2.2.2.1))] ([(a 1, .inr (3, [.ref (a 2), .ref (a 3), .ref (a 4), .ref (a 5), .int ((zEmp T k).2.2.2.2.1), .int ((zEmp T k).2.2.2.2.2)])), (a 2, .inl (ca 0, 24, .inl ((zEmp T k).1))), (a 3, .inl (ca 0, 24, .inl ((zEmp T k).2.1))), (a 4, .inl (ca 0, 24, .inl ((zEmp T k).2.2.1))), (a 5, .inl (ca 0, 6, .inl ((zEmp T k).2.2.2.1)))]) [.ref (a 1), .int (nI k)] none := by
  refine zMw_of (own := RX3) (by decide) rfl (Nat.le_of_ble_eq_true rfl) ?_
  intro p e s m args below meth c ls S hr hlk hP hK hl hS
  have hP : va_P D vwCl [(a 1, .inr (3, [.ref (a 2), .ref (a 3), .ref (a 4), .ref (a 5), .int T.2.2.2.2.1, .int T.2.2.2.2.2])), (a 2, .inl (ca 0, 24, .inl T.1)), (a 3, .inl (ca 0, 24, .inl T.2.1)), (a 4, .inl (ca 0, 24, .inl T.2.2.1)), (a 5, .inl (ca 0, 6, .inl T.2.2.2.1))] s.heap := hP
  have hS : va_S (zA [a 1, a 2, a 3, a 4, a 5]) s.heap s.heap [] := hS
  have hA : ∀ q ∈ [a 1, a 2, a 3, a 4, a 5], zA [a 1, a 2, a 3, a 4, a 5] q := fun _ h => h
  have hD := zDto (ws := [(a 1, .inr (3, [.ref (a 2), .ref (a 3), .ref (a 4), .ref (a 5), .int T.2.2.2.2.1, .int T.2.2.2.2.2])), (a 2, .inl (ca 0, 24, .inl T.1)), (a 3, .inl (ca 0, 24, .inl T.2.1)), (a 4, .inl (ca 0, 24, .inl T.2.2.1)), (a 5, .inl (ca 0, 6, .inl T.2.2.2.1))]) hN hA rfl
  have hx := S.1
  have hb := S.2.1
  have hl : lv_has ls 2 [(0, .ref (a 1)), (1, .int (nI k))] := hl
  refine lv_aload_n hx hb dX3_empty_0 rfl (lv_at hl 0 rfl) ?_
  refine z_get S in_lay_X3 hK hP rfl 0 rfl 0 (by decide) fl_X3_9 rfl rfl dX3_empty_1 ?_
  refine lv_iload_n hx hb dX3_empty_4 rfl (lv_at hl 1 rfl) ?_
  refine lv_iconst (v := (-1)) hx hb dX3_empty_5 (by decide) ?_
  refine z_iast S hK hP hD hS 1 rfl (j := k) (by omega) (by decide) dX3_empty_6 (fun H locs hP hS => ?_)
  have hP : va_P D vwCl [(a 1, .inr (3, [.ref (a 2), .ref (a 3), .ref (a 4), .ref (a 5), .int T.2.2.2.2.1, .int T.2.2.2.2.2])), (a 2, .inl (ca 0, 24, .inl (upd T.1 k (-1)))), (a 3, .inl (ca 0, 24, .inl T.2.1)), (a 4, .inl (ca 0, 24, .inl T.2.2.1)), (a 5, .inl (ca 0, 6, .inl T.2.2.2.1))] H := hP
  have hD := zDto (ws := [(a 1, .inr (3, [.ref (a 2), .ref (a 3), .ref (a 4), .ref (a 5), .int T.2.2.2.2.1, .int T.2.2.2.2.2])), (a 2, .inl (ca 0, 24, .inl (upd T.1 k (-1)))), (a 3, .inl (ca 0, 24, .inl T.2.1)), (a 4, .inl (ca 0, 24, .inl T.2.2.1)), (a 5, .inl (ca 0, 6, .inl T.2.2.2.1))]) hN hA rfl
  refine lv_aload_n hx hb dX3_empty_7 rfl (lv_at hl 0 rfl) ?_
  refine z_get S in_lay_X3 hK hP rfl 0 rfl 1 (by decide) fl_X3_15 rfl rfl dX3_empty_8 ?_
  refine lv_iload_n hx hb dX3_empty_11 rfl (lv_at hl 1 rfl) ?_
  refine lv_iconst (v := (-1)) hx hb dX3_empty_12 (by decide) ?_
  refine z_iast S hK hP hD hS 2 rfl (j := k) (by omega) (by decide) dX3_empty_13 (fun H locs hP hS => ?_)
  have hP : va_P D vwCl [(a 1, .inr (3, [.ref (a 2), .ref (a 3), .ref (a 4), .ref (a 5), .int T.2.2.2.2.1, .int T.2.2.2.2.2])), (a 2, .inl (ca 0, 24, .inl (upd T.1 k (-1)))), (a 3, .inl (ca 0, 24, .inl (upd T.2.1 k (-1)))), (a 4, .inl (ca 0, 24, .inl T.2.2.1)), (a 5, .inl (ca 0, 6, .inl T.2.2.2.1))] H := hP
  have hD := zDto (ws := [(a 1, .inr (3, [.ref (a 2), .ref (a 3), .ref (a 4), .ref (a 5), .int T.2.2.2.2.1, .int T.2.2.2.2.2])), (a 2, .inl (ca 0, 24, .inl (upd T.1 k (-1)))), (a 3, .inl (ca 0, 24, .inl (upd T.2.1 k (-1)))), (a 4, .inl (ca 0, 24, .inl T.2.2.1)), (a 5, .inl (ca 0, 6, .inl T.2.2.2.1))]) hN hA rfl
  refine lv_aload_n hx hb dX3_empty_14 rfl (lv_at hl 0 rfl) ?_
  refine z_get S in_lay_X3 hK hP rfl 0 rfl 2 (by decide) fl_X3_18 rfl rfl dX3_empty_15 ?_
  refine lv_iload_n hx hb dX3_empty_18 rfl (lv_at hl 1 rfl) ?_
  refine lv_iconst (v := (-1)) hx hb dX3_empty_19 (by decide) ?_
  refine z_iast S hK hP hD hS 3 rfl (j := k) (by omega) (by decide) dX3_empty_20 (fun H locs hP hS => ?_)
  have hP : va_P D vwCl [(a 1, .inr (3, [.ref (a 2), .ref (a 3), .ref (a 4), .ref (a 5), .int T.2.2.2.2.1, .int T.2.2.2.2.2])), (a 2, .inl (ca 0, 24, .inl (upd T.1 k (-1)))), (a 3, .inl (ca 0, 24, .inl (upd T.2.1 k (-1)))), (a 4, .inl (ca 0, 24, .inl (upd T.2.2.1 k (-1)))), (a 5, .inl (ca 0, 6, .inl T.2.2.2.1))] H := hP
  have hD := zDto (ws := [(a 1, .inr (3, [.ref (a 2), .ref (a 3), .ref (a 4), .ref (a 5), .int T.2.2.2.2.1, .int T.2.2.2.2.2])), (a 2, .inl (ca 0, 24, .inl (upd T.1 k (-1)))), (a 3, .inl (ca 0, 24, .inl (upd T.2.1 k (-1)))), (a 4, .inl (ca 0, 24, .inl (upd T.2.2.1 k (-1)))), (a 5, .inl (ca 0, 6, .inl T.2.2.2.1))]) hN hA rfl
  have hz : zEmp T k = (upd T.1 k (-1), upd T.2.1 k (-1), upd T.2.2.1 k (-1), T.2.2.2.1, T.2.2.2.2.1, T.2.2.2.2.2) := by rfl
  exact zw_v hx hb hr hlk hP hS (by rw [hz] <;> rfl) dX3_empty_21
set_option maxHeartbeats 4000000 in
set_option maxRecDepth 100000 in
theorem c_X3_putValue (l : Launch) (D : va_G) (ca : Nat → ClassId) (a : Nat → Nat) (T : zTb) (v : Int32) (hN : [a 1, a 2, a 3, a 4, a 5].Nodup) : zMw l yX3_putValue cX3_putValue 3 (some .int) 1 22 D ca [(a 1, .inr (3, [.ref (a 2), .ref (a 3), .ref (a 4), .ref (a 5), .int T.2.2.2.2.1, .int T.2.2.2.2.2])), (a 2, .inl (ca 0, 24, .inl T.1)), (a 3, .inl (ca 0, 24, .inl T.2.1)), (a 4, .inl (ca 0, 24, .inl T.2.2.1)), (a 5, .inl (ca 0, 6, .inl T.2.2.2.1))] ([(a 1, .inr (3, [.ref (a 2), .ref (a 3), .ref (a 4), .ref (a 5), .int (((zPut T v).2).2.2.2.2.1), .int (((zPut T v).2).2.2.2.2.2)])), (a 2, .inl (ca 0, 24, .inl (((zPut T v).2).1))), (a 3, .inl (ca 0, 24, .inl (((zPut T v).2).2.1))), (a 4, .inl (ca 0, 24, .inl (((zPut T v).2).2.2.1))), (a 5, .inl (ca 0, 6, .inl (((zPut T v).2).2.2.2.1)))]) [.ref (a 1), .int v] (some (.int ((zPut T v).1))) := by
  refine zMw_of (own := RX3) (by decide) rfl (Nat.le_of_ble_eq_true rfl) ?_
  intro p e s m args below meth c ls S hr hlk hP hK hl hS
  have hP : va_P D vwCl [(a 1, .inr (3, [.ref (a 2), .ref (a 3), .ref (a 4), .ref (a 5), .int T.2.2.2.2.1, .int T.2.2.2.2.2])), (a 2, .inl (ca 0, 24, .inl T.1)), (a 3, .inl (ca 0, 24, .inl T.2.1)), (a 4, .inl (ca 0, 24, .inl T.2.2.1)), (a 5, .inl (ca 0, 6, .inl T.2.2.2.1))] s.heap := hP
  have hS : va_S (zA [a 1, a 2, a 3, a 4, a 5]) s.heap s.heap [] := hS
  have hA : ∀ q ∈ [a 1, a 2, a 3, a 4, a 5], zA [a 1, a 2, a 3, a 4, a 5] q := fun _ h => h
  have hD := zDto (ws := [(a 1, .inr (3, [.ref (a 2), .ref (a 3), .ref (a 4), .ref (a 5), .int T.2.2.2.2.1, .int T.2.2.2.2.2])), (a 2, .inl (ca 0, 24, .inl T.1)), (a 3, .inl (ca 0, 24, .inl T.2.1)), (a 4, .inl (ca 0, 24, .inl T.2.2.1)), (a 5, .inl (ca 0, 6, .inl T.2.2.2.1))]) hN hA rfl
  have hx := S.1
  have hb := S.2.1
  have hl : lv_has ls 3 [(0, .ref (a 1)), (1, .int v)] := hl
  refine lv_aload_n hx hb dX3_putValue_0 rfl (lv_at hl 0 rfl) ?_
  refine zcr (As := []) (rest := []) (q0 := 0) S (c_X3_lowestEmptySlot l D ca a T ) ml_X3_47 zy_X3_lowestEmptySlot im_X3_lowestEmptySlot se_X3_lowestEmptySlot ⟨Nat.le_of_ble_eq_true rfl, Nat.le_of_ble_eq_true rfl⟩ hK hP [0, 1, 2, 3, 4] rfl rfl rfl rfl rfl hl.1 rfl (Nat.le_of_ble_eq_true rfl) ⟨Nat.zero_le _, Nat.zero_le _⟩ dX3_putValue_1 ?_
  refine zNo_c (fun c_1_1 => ?_) (fun c_1_1 => ?_)
  · refine lv_istore_n (lv' := [(2, .int (nI (zLow T))), (0, .ref (a 1)), (1, .int v)]) hx hb dX3_putValue_4 rfl hl (by decide) rfl (fun ls hl => ?_)
    refine lv_iload_n hx hb dX3_putValue_5 rfl (lv_at hl 0 rfl) ?_
    refine lv_iconst (v := (-1)) hx hb dX3_putValue_6 (by decide) ?_
    refine lv_icmp_ne (tgt := 12) hx hb dX3_putValue_7 (by decide) (fun _ => ?_) (fun h => absurd h (nI_nem1 (by omega)))
    refine lv_aload_n hx hb dX3_putValue_12 rfl (lv_at hl 1 rfl) ?_
    refine lv_dup hx hb dX3_putValue_13 rfl ?_
    refine z_get S in_lay_X3 hK hP rfl 0 rfl 4 (by decide) fl_X3_36 rfl rfl dX3_putValue_14 ?_
    refine lv_iconst (v := 1) hx hb dX3_putValue_17 (by decide) ?_
    refine lv_iadd hx hb dX3_putValue_18 ?_
    refine z_put S in_lay_X3 tyX3_ok nmX3 hK hP hD hS rfl 0 rfl 4 (by decide) fl_X3_36 rfl rfl rfl rfl (Nat.le_of_ble_eq_true rfl) dX3_putValue_19 (fun H locs hP hS => ?_)
    have hP : va_P D vwCl [(a 1, .inr (3, [.ref (a 2), .ref (a 3), .ref (a 4), .ref (a 5), .int (T.2.2.2.2.1 + 1), .int T.2.2.2.2.2])), (a 2, .inl (ca 0, 24, .inl T.1)), (a 3, .inl (ca 0, 24, .inl T.2.1)), (a 4, .inl (ca 0, 24, .inl T.2.2.1)), (a 5, .inl (ca 0, 6, .inl T.2.2.2.1))] H := hP
    have hD := zDto (ws := [(a 1, .inr (3, [.ref (a 2), .ref (a 3), .ref (a 4), .ref (a 5), .int (T.2.2.2.2.1 + 1), .int T.2.2.2.2.2])), (a 2, .inl (ca 0, 24, .inl T.1)), (a 3, .inl (ca 0, 24, .inl T.2.1)), (a 4, .inl (ca 0, 24, .inl T.2.2.1)), (a 5, .inl (ca 0, 6, .inl T.2.2.2.1))]) hN hA rfl
    refine lv_aload_n hx hb dX3_putValue_22 rfl (lv_at hl 1 rfl) ?_
    refine lv_iload_n hx hb dX3_putValue_23 rfl (lv_at hl 0 rfl) ?_
    refine lv_iload_n hx hb dX3_putValue_24 rfl (lv_at hl 2 rfl) ?_
    refine zcw (As := [.int (nI (zLow T)), .int v]) (rest := []) (st1 := []) (q0 := 0) S (c_X3_come l D ca a (T.1, T.2.1, T.2.2.1, T.2.2.2.1, T.2.2.2.2.1 + 1, T.2.2.2.2.2) (zLow T) (by omega) v (znd_pick hN [0, 1, 2, 3, 4] rfl rfl)) ml_X3_51 zy_X3_come im_X3_come se_X3_come ⟨Nat.le_of_ble_eq_true rfl, Nat.le_of_ble_eq_true rfl⟩ hK hP hD hS [0, 1, 2, 3, 4] rfl rfl rfl rfl rfl rfl hl.1 rfl rfl (Nat.le_of_ble_eq_true rfl) ⟨Nat.zero_le _, Nat.zero_le _⟩ dX3_putValue_25 (fun H locs hP hS => ?_)
    have hP : va_P D vwCl [(a 1, .inr (3, [.ref (a 2), .ref (a 3), .ref (a 4), .ref (a 5), .int ((zCome (T.1, T.2.1, T.2.2.1, T.2.2.2.1, T.2.2.2.2.1 + 1, T.2.2.2.2.2) (zLow T) v).2.2.2.2.1), .int ((zCome (T.1, T.2.1, T.2.2.1, T.2.2.2.1, T.2.2.2.2.1 + 1, T.2.2.2.2.2) (zLow T) v).2.2.2.2.2)])), (a 2, .inl (ca 0, 24, .inl ((zCome (T.1, T.2.1, T.2.2.1, T.2.2.2.1, T.2.2.2.2.1 + 1, T.2.2.2.2.2) (zLow T) v).1))), (a 3, .inl (ca 0, 24, .inl ((zCome (T.1, T.2.1, T.2.2.1, T.2.2.2.1, T.2.2.2.2.1 + 1, T.2.2.2.2.2) (zLow T) v).2.1))), (a 4, .inl (ca 0, 24, .inl ((zCome (T.1, T.2.1, T.2.2.1, T.2.2.2.1, T.2.2.2.2.1 + 1, T.2.2.2.2.2) (zLow T) v).2.2.1))), (a 5, .inl (ca 0, 6, .inl ((zCome (T.1, T.2.1, T.2.2.1, T.2.2.2.1, T.2.2.2.2.1 + 1, T.2.2.2.2.2) (zLow T) v).2.2.2.1)))] H := hP
    have hD := zDto (ws := [(a 1, .inr (3, [.ref (a 2), .ref (a 3), .ref (a 4), .ref (a 5), .int ((zCome (T.1, T.2.1, T.2.2.1, T.2.2.2.1, T.2.2.2.2.1 + 1, T.2.2.2.2.2) (zLow T) v).2.2.2.2.1), .int ((zCome (T.1, T.2.1, T.2.2.1, T.2.2.2.1, T.2.2.2.2.1 + 1, T.2.2.2.2.2) (zLow T) v).2.2.2.2.2)])), (a 2, .inl (ca 0, 24, .inl ((zCome (T.1, T.2.1, T.2.2.1, T.2.2.2.1, T.2.2.2.2.1 + 1, T.2.2.2.2.2) (zLow T) v).1))), (a 3, .inl (ca 0, 24, .inl ((zCome (T.1, T.2.1, T.2.2.1, T.2.2.2.1, T.2.2.2.2.1 + 1, T.2.2.2.2.2) (zLow T) v).2.1))), (a 4, .inl (ca 0, 24, .inl ((zCome (T.1, T.2.1, T.2.2.1, T.2.2.2.1, T.2.2.2.2.1 + 1, T.2.2.2.2.2) (zLow T) v).2.2.1))), (a 5, .inl (ca 0, 6, .inl ((zCome (T.1, T.2.1, T.2.2.1, T.2.2.2.1, T.2.2.2.2.1 + 1, T.2.2.2.2.2) (zLow T) v).2.2.2.1)))]) hN hA rfl
    refine lv_iload_n hx hb dX3_putValue_28 rfl (lv_at hl 0 rfl) ?_
    have hz : zPut T v = (nI (zLow T), (zCome (T.1, T.2.1, T.2.2.1, T.2.2.2.1, T.2.2.2.2.1 + 1, T.2.2.2.2.2) (zLow T) v)) := by simp [zPut, zTick, c_1_1]
    exact zw_i hx hb hr hlk hP hS ⟨by rw [hz] <;> rfl, by rw [hz] <;> rfl⟩ dX3_putValue_29
  · refine lv_istore_n (lv' := [(2, .int (-1)), (0, .ref (a 1)), (1, .int v)]) hx hb dX3_putValue_4 rfl hl (by decide) rfl (fun ls hl => ?_)
    refine lv_iload_n hx hb dX3_putValue_5 rfl (lv_at hl 0 rfl) ?_
    refine lv_iconst (v := (-1)) hx hb dX3_putValue_6 (by decide) ?_
    refine lv_icmp_ne (tgt := 12) hx hb dX3_putValue_7 (by decide) (fun h => absurd (by decide) h) (fun _ => ?_)
    refine lv_iconst (v := (-1)) hx hb dX3_putValue_10 (by decide) ?_
    have hz : zPut T v = ((-1), T) := by simp [zPut, zTick, c_1_1]
    exact zw_i hx hb hr hlk hP hS ⟨by rw [hz] <;> rfl, by rw [hz] <;> rfl⟩ dX3_putValue_11
set_option maxHeartbeats 4000000 in
set_option maxRecDepth 100000 in
theorem c_X3_takeAway (l : Launch) (D : va_G) (ca : Nat → ClassId) (a : Nat → Nat) (T : zTb) (k : Nat) (hk : k < 24) (hN : [a 1, a 2, a 3, a 4, a 5].Nodup) : zMw l yX3_takeAway cX3_takeAway 2 (some .boolean) 2 43 D ca [(a 1, .inr (3, [.ref (a 2), .ref (a 3), .ref (a 4), .ref (a 5), .int T.2.2.2.2.1, .int T.2.2.2.2.2])), (a 2, .inl (ca 0, 24, .inl T.1)), (a 3, .inl (ca 0, 24, .inl T.2.1)), (a 4, .inl (ca 0, 24, .inl T.2.2.1)), (a 5, .inl (ca 0, 6, .inl T.2.2.2.1))] ([(a 1, .inr (3, [.ref (a 2), .ref (a 3), .ref (a 4), .ref (a 5), .int (((zTake T k).2).2.2.2.2.1), .int (((zTake T k).2).2.2.2.2.2)])), (a 2, .inl (ca 0, 24, .inl (((zTake T k).2).1))), (a 3, .inl (ca 0, 24, .inl (((zTake T k).2).2.1))), (a 4, .inl (ca 0, 24, .inl (((zTake T k).2).2.2.1))), (a 5, .inl (ca 0, 6, .inl (((zTake T k).2).2.2.2.1)))]) [.ref (a 1), .int (nI k)] (some (.int (zb ((zTake T k).1)))) := by
  refine zMw_of (own := RX3) (by decide) rfl (Nat.le_of_ble_eq_true rfl) ?_
  intro p e s m args below meth c ls S hr hlk hP hK hl hS
  have hP : va_P D vwCl [(a 1, .inr (3, [.ref (a 2), .ref (a 3), .ref (a 4), .ref (a 5), .int T.2.2.2.2.1, .int T.2.2.2.2.2])), (a 2, .inl (ca 0, 24, .inl T.1)), (a 3, .inl (ca 0, 24, .inl T.2.1)), (a 4, .inl (ca 0, 24, .inl T.2.2.1)), (a 5, .inl (ca 0, 6, .inl T.2.2.2.1))] s.heap := hP
  have hS : va_S (zA [a 1, a 2, a 3, a 4, a 5]) s.heap s.heap [] := hS
  have hA : ∀ q ∈ [a 1, a 2, a 3, a 4, a 5], zA [a 1, a 2, a 3, a 4, a 5] q := fun _ h => h
  have hD := zDto (ws := [(a 1, .inr (3, [.ref (a 2), .ref (a 3), .ref (a 4), .ref (a 5), .int T.2.2.2.2.1, .int T.2.2.2.2.2])), (a 2, .inl (ca 0, 24, .inl T.1)), (a 3, .inl (ca 0, 24, .inl T.2.1)), (a 4, .inl (ca 0, 24, .inl T.2.2.1)), (a 5, .inl (ca 0, 6, .inl T.2.2.2.1))]) hN hA rfl
  have hx := S.1
  have hb := S.2.1
  have hl : lv_has ls 2 [(0, .ref (a 1)), (1, .int (nI k))] := hl
  refine lv_aload_n hx hb dX3_takeAway_0 rfl (lv_at hl 0 rfl) ?_
  refine lv_iload_n hx hb dX3_takeAway_1 rfl (lv_at hl 1 rfl) ?_
  refine zcr (As := [.int (nI k)]) (rest := []) (q0 := 0) S (c_X3_isSeenNow l D ca a T k (by omega)) ml_X3_55 zy_X3_isSeenNow im_X3_isSeenNow se_X3_isSeenNow ⟨Nat.le_of_ble_eq_true rfl, Nat.le_of_ble_eq_true rfl⟩ hK hP [0, 1, 2, 3, 4] rfl rfl rfl rfl rfl hl.1 rfl (Nat.le_of_ble_eq_true rfl) ⟨Nat.zero_le _, Nat.zero_le _⟩ dX3_takeAway_2 ?_
  refine zz_ne (tgt := 10) hx hb dX3_takeAway_5 (by decide) (fun c_5_1 => ?_) (fun c_5_1 => ?_)
  · refine lv_aload_n hx hb dX3_takeAway_10 rfl (lv_at hl 0 rfl) ?_
    refine lv_dup hx hb dX3_takeAway_11 rfl ?_
    refine z_get S in_lay_X3 hK hP rfl 0 rfl 4 (by decide) fl_X3_36 rfl rfl dX3_takeAway_12 ?_
    refine lv_iconst (v := 1) hx hb dX3_takeAway_15 (by decide) ?_
    refine lv_iadd hx hb dX3_takeAway_16 ?_
    refine z_put S in_lay_X3 tyX3_ok nmX3 hK hP hD hS rfl 0 rfl 4 (by decide) fl_X3_36 rfl rfl rfl rfl (Nat.le_of_ble_eq_true rfl) dX3_takeAway_17 (fun H locs hP hS => ?_)
    have hP : va_P D vwCl [(a 1, .inr (3, [.ref (a 2), .ref (a 3), .ref (a 4), .ref (a 5), .int (T.2.2.2.2.1 + 1), .int T.2.2.2.2.2])), (a 2, .inl (ca 0, 24, .inl T.1)), (a 3, .inl (ca 0, 24, .inl T.2.1)), (a 4, .inl (ca 0, 24, .inl T.2.2.1)), (a 5, .inl (ca 0, 6, .inl T.2.2.2.1))] H := hP
    have hD := zDto (ws := [(a 1, .inr (3, [.ref (a 2), .ref (a 3), .ref (a 4), .ref (a 5), .int (T.2.2.2.2.1 + 1), .int T.2.2.2.2.2])), (a 2, .inl (ca 0, 24, .inl T.1)), (a 3, .inl (ca 0, 24, .inl T.2.1)), (a 4, .inl (ca 0, 24, .inl T.2.2.1)), (a 5, .inl (ca 0, 6, .inl T.2.2.2.1))]) hN hA rfl
    refine lv_aload_n hx hb dX3_takeAway_20 rfl (lv_at hl 0 rfl) ?_
    refine lv_iload_n hx hb dX3_takeAway_21 rfl (lv_at hl 1 rfl) ?_
    refine zcw (As := [.int (nI k)]) (rest := []) (st1 := []) (q0 := 0) S (c_X3_go l D ca a (T.1, T.2.1, T.2.2.1, T.2.2.2.1, T.2.2.2.2.1 + 1, T.2.2.2.2.2) k (by omega) (znd_pick hN [0, 1, 2, 3, 4] rfl rfl)) ml_X3_59 zy_X3_go im_X3_go se_X3_go ⟨Nat.le_of_ble_eq_true rfl, Nat.le_of_ble_eq_true rfl⟩ hK hP hD hS [0, 1, 2, 3, 4] rfl rfl rfl rfl rfl rfl hl.1 rfl rfl (Nat.le_of_ble_eq_true rfl) ⟨Nat.zero_le _, Nat.zero_le _⟩ dX3_takeAway_22 (fun H locs hP hS => ?_)
    have hP : va_P D vwCl [(a 1, .inr (3, [.ref (a 2), .ref (a 3), .ref (a 4), .ref (a 5), .int ((zGo (T.1, T.2.1, T.2.2.1, T.2.2.2.1, T.2.2.2.2.1 + 1, T.2.2.2.2.2) k).2.2.2.2.1), .int ((zGo (T.1, T.2.1, T.2.2.1, T.2.2.2.1, T.2.2.2.2.1 + 1, T.2.2.2.2.2) k).2.2.2.2.2)])), (a 2, .inl (ca 0, 24, .inl ((zGo (T.1, T.2.1, T.2.2.1, T.2.2.2.1, T.2.2.2.2.1 + 1, T.2.2.2.2.2) k).1))), (a 3, .inl (ca 0, 24, .inl ((zGo (T.1, T.2.1, T.2.2.1, T.2.2.2.1, T.2.2.2.2.1 + 1, T.2.2.2.2.2) k).2.1))), (a 4, .inl (ca 0, 24, .inl ((zGo (T.1, T.2.1, T.2.2.1, T.2.2.2.1, T.2.2.2.2.1 + 1, T.2.2.2.2.2) k).2.2.1))), (a 5, .inl (ca 0, 6, .inl ((zGo (T.1, T.2.1, T.2.2.1, T.2.2.2.1, T.2.2.2.2.1 + 1, T.2.2.2.2.2) k).2.2.2.1)))] H := hP
    have hD := zDto (ws := [(a 1, .inr (3, [.ref (a 2), .ref (a 3), .ref (a 4), .ref (a 5), .int ((zGo (T.1, T.2.1, T.2.2.1, T.2.2.2.1, T.2.2.2.2.1 + 1, T.2.2.2.2.2) k).2.2.2.2.1), .int ((zGo (T.1, T.2.1, T.2.2.1, T.2.2.2.1, T.2.2.2.2.1 + 1, T.2.2.2.2.2) k).2.2.2.2.2)])), (a 2, .inl (ca 0, 24, .inl ((zGo (T.1, T.2.1, T.2.2.1, T.2.2.2.1, T.2.2.2.2.1 + 1, T.2.2.2.2.2) k).1))), (a 3, .inl (ca 0, 24, .inl ((zGo (T.1, T.2.1, T.2.2.1, T.2.2.2.1, T.2.2.2.2.1 + 1, T.2.2.2.2.2) k).2.1))), (a 4, .inl (ca 0, 24, .inl ((zGo (T.1, T.2.1, T.2.2.1, T.2.2.2.1, T.2.2.2.2.1 + 1, T.2.2.2.2.2) k).2.2.1))), (a 5, .inl (ca 0, 6, .inl ((zGo (T.1, T.2.1, T.2.2.1, T.2.2.2.1, T.2.2.2.2.1 + 1, T.2.2.2.2.2) k).2.2.2.1)))]) hN hA rfl
    refine lv_iconst (v := 1) hx hb dX3_takeAway_25 (by decide) ?_
    have hz : zTake T k = (true, (zGo (T.1, T.2.1, T.2.2.1, T.2.2.2.1, T.2.2.2.2.1 + 1, T.2.2.2.2.2) k)) := by simp [zTake, zTick, c_5_1]
    exact zw_z hx hb hr hlk hP hS ⟨by rw [hz] <;> rfl, by rw [hz] <;> rfl⟩ dX3_takeAway_26
  · refine lv_iconst (v := 0) hx hb dX3_takeAway_8 (by decide) ?_
    have hz : zTake T k = (false, T) := by simp [zTake, zTick, c_5_1]
    exact zw_z hx hb hr hlk hP hS ⟨by rw [hz] <;> rfl, by rw [hz] <;> rfl⟩ dX3_takeAway_9
set_option maxHeartbeats 4000000 in
set_option maxRecDepth 100000 in
theorem c_X3_changeTo (l : Launch) (D : va_G) (ca : Nat → ClassId) (a : Nat → Nat) (T : zTb) (k : Nat) (hk : k < 24) (v : Int32) (hN : [a 1, a 2, a 3, a 4, a 5].Nodup) : zMw l yX3_changeTo cX3_changeTo 4 (some .int) 2 43 D ca [(a 1, .inr (3, [.ref (a 2), .ref (a 3), .ref (a 4), .ref (a 5), .int T.2.2.2.2.1, .int T.2.2.2.2.2])), (a 2, .inl (ca 0, 24, .inl T.1)), (a 3, .inl (ca 0, 24, .inl T.2.1)), (a 4, .inl (ca 0, 24, .inl T.2.2.1)), (a 5, .inl (ca 0, 6, .inl T.2.2.2.1))] ([(a 1, .inr (3, [.ref (a 2), .ref (a 3), .ref (a 4), .ref (a 5), .int (((zChg T k v).2).2.2.2.2.1), .int (((zChg T k v).2).2.2.2.2.2)])), (a 2, .inl (ca 0, 24, .inl (((zChg T k v).2).1))), (a 3, .inl (ca 0, 24, .inl (((zChg T k v).2).2.1))), (a 4, .inl (ca 0, 24, .inl (((zChg T k v).2).2.2.1))), (a 5, .inl (ca 0, 6, .inl (((zChg T k v).2).2.2.2.1)))]) [.ref (a 1), .int (nI k), .int v] (some (.int ((zChg T k v).1))) := by
  refine zMw_of (own := RX3) (by decide) rfl (Nat.le_of_ble_eq_true rfl) ?_
  intro p e s m args below meth c ls S hr hlk hP hK hl hS
  have hP : va_P D vwCl [(a 1, .inr (3, [.ref (a 2), .ref (a 3), .ref (a 4), .ref (a 5), .int T.2.2.2.2.1, .int T.2.2.2.2.2])), (a 2, .inl (ca 0, 24, .inl T.1)), (a 3, .inl (ca 0, 24, .inl T.2.1)), (a 4, .inl (ca 0, 24, .inl T.2.2.1)), (a 5, .inl (ca 0, 6, .inl T.2.2.2.1))] s.heap := hP
  have hS : va_S (zA [a 1, a 2, a 3, a 4, a 5]) s.heap s.heap [] := hS
  have hA : ∀ q ∈ [a 1, a 2, a 3, a 4, a 5], zA [a 1, a 2, a 3, a 4, a 5] q := fun _ h => h
  have hD := zDto (ws := [(a 1, .inr (3, [.ref (a 2), .ref (a 3), .ref (a 4), .ref (a 5), .int T.2.2.2.2.1, .int T.2.2.2.2.2])), (a 2, .inl (ca 0, 24, .inl T.1)), (a 3, .inl (ca 0, 24, .inl T.2.1)), (a 4, .inl (ca 0, 24, .inl T.2.2.1)), (a 5, .inl (ca 0, 6, .inl T.2.2.2.1))]) hN hA rfl
  have hx := S.1
  have hb := S.2.1
  have hl : lv_has ls 4 [(0, .ref (a 1)), (1, .int (nI k)), (2, .int v)] := hl
  refine lv_aload_n hx hb dX3_changeTo_0 rfl (lv_at hl 0 rfl) ?_
  refine zcr (As := []) (rest := []) (q0 := 0) S (c_X3_lowestEmptySlot l D ca a T ) ml_X3_47 zy_X3_lowestEmptySlot im_X3_lowestEmptySlot se_X3_lowestEmptySlot ⟨Nat.le_of_ble_eq_true rfl, Nat.le_of_ble_eq_true rfl⟩ hK hP [0, 1, 2, 3, 4] rfl rfl rfl rfl rfl hl.1 rfl (Nat.le_of_ble_eq_true rfl) ⟨Nat.zero_le _, Nat.zero_le _⟩ dX3_changeTo_1 ?_
  refine zNo_c (fun c_1_1 => ?_) (fun c_1_1 => ?_)
  · refine lv_istore_n (lv' := [(3, .int (nI (zLow T))), (0, .ref (a 1)), (1, .int (nI k)), (2, .int v)]) hx hb dX3_changeTo_4 rfl hl (by decide) rfl (fun ls hl => ?_)
    refine lv_iload_n hx hb dX3_changeTo_5 rfl (lv_at hl 0 rfl) ?_
    refine lv_iconst (v := (-1)) hx hb dX3_changeTo_6 (by decide) ?_
    refine lv_icmp_eq (tgt := 18) hx hb dX3_changeTo_7 (by decide) (fun h => absurd h (nI_nem1 (by omega))) (fun _ => ?_)
    refine lv_aload_n hx hb dX3_changeTo_10 rfl (lv_at hl 1 rfl) ?_
    refine lv_iload_n hx hb dX3_changeTo_11 rfl (lv_at hl 2 rfl) ?_
    refine zcr (As := [.int (nI k)]) (rest := []) (q0 := 0) S (c_X3_isSeenNow l D ca a T k (by omega)) ml_X3_55 zy_X3_isSeenNow im_X3_isSeenNow se_X3_isSeenNow ⟨Nat.le_of_ble_eq_true rfl, Nat.le_of_ble_eq_true rfl⟩ hK hP [0, 1, 2, 3, 4] rfl rfl rfl rfl rfl hl.1 rfl (Nat.le_of_ble_eq_true rfl) ⟨Nat.zero_le _, Nat.zero_le _⟩ dX3_changeTo_12 ?_
    refine zz_ne (tgt := 20) hx hb dX3_changeTo_15 (by decide) (fun c_15_2 => ?_) (fun c_15_2 => ?_)
    · refine lv_aload_n hx hb dX3_changeTo_20 rfl (lv_at hl 1 rfl) ?_
      refine lv_dup hx hb dX3_changeTo_21 rfl ?_
      refine z_get S in_lay_X3 hK hP rfl 0 rfl 4 (by decide) fl_X3_36 rfl rfl dX3_changeTo_22 ?_
      refine lv_iconst (v := 1) hx hb dX3_changeTo_25 (by decide) ?_
      refine lv_iadd hx hb dX3_changeTo_26 ?_
      refine z_put S in_lay_X3 tyX3_ok nmX3 hK hP hD hS rfl 0 rfl 4 (by decide) fl_X3_36 rfl rfl rfl rfl (Nat.le_of_ble_eq_true rfl) dX3_changeTo_27 (fun H locs hP hS => ?_)
      have hP : va_P D vwCl [(a 1, .inr (3, [.ref (a 2), .ref (a 3), .ref (a 4), .ref (a 5), .int (T.2.2.2.2.1 + 1), .int T.2.2.2.2.2])), (a 2, .inl (ca 0, 24, .inl T.1)), (a 3, .inl (ca 0, 24, .inl T.2.1)), (a 4, .inl (ca 0, 24, .inl T.2.2.1)), (a 5, .inl (ca 0, 6, .inl T.2.2.2.1))] H := hP
      have hD := zDto (ws := [(a 1, .inr (3, [.ref (a 2), .ref (a 3), .ref (a 4), .ref (a 5), .int (T.2.2.2.2.1 + 1), .int T.2.2.2.2.2])), (a 2, .inl (ca 0, 24, .inl T.1)), (a 3, .inl (ca 0, 24, .inl T.2.1)), (a 4, .inl (ca 0, 24, .inl T.2.2.1)), (a 5, .inl (ca 0, 6, .inl T.2.2.2.1))]) hN hA rfl
      refine lv_aload_n hx hb dX3_changeTo_30 rfl (lv_at hl 1 rfl) ?_
      refine lv_iload_n hx hb dX3_changeTo_31 rfl (lv_at hl 2 rfl) ?_
      refine zcw (As := [.int (nI k)]) (rest := []) (st1 := []) (q0 := 0) S (c_X3_go l D ca a (T.1, T.2.1, T.2.2.1, T.2.2.2.1, T.2.2.2.2.1 + 1, T.2.2.2.2.2) k (by omega) (znd_pick hN [0, 1, 2, 3, 4] rfl rfl)) ml_X3_59 zy_X3_go im_X3_go se_X3_go ⟨Nat.le_of_ble_eq_true rfl, Nat.le_of_ble_eq_true rfl⟩ hK hP hD hS [0, 1, 2, 3, 4] rfl rfl rfl rfl rfl rfl hl.1 rfl rfl (Nat.le_of_ble_eq_true rfl) ⟨Nat.zero_le _, Nat.zero_le _⟩ dX3_changeTo_32 (fun H locs hP hS => ?_)
      have hP : va_P D vwCl [(a 1, .inr (3, [.ref (a 2), .ref (a 3), .ref (a 4), .ref (a 5), .int ((zGo (T.1, T.2.1, T.2.2.1, T.2.2.2.1, T.2.2.2.2.1 + 1, T.2.2.2.2.2) k).2.2.2.2.1), .int ((zGo (T.1, T.2.1, T.2.2.1, T.2.2.2.1, T.2.2.2.2.1 + 1, T.2.2.2.2.2) k).2.2.2.2.2)])), (a 2, .inl (ca 0, 24, .inl ((zGo (T.1, T.2.1, T.2.2.1, T.2.2.2.1, T.2.2.2.2.1 + 1, T.2.2.2.2.2) k).1))), (a 3, .inl (ca 0, 24, .inl ((zGo (T.1, T.2.1, T.2.2.1, T.2.2.2.1, T.2.2.2.2.1 + 1, T.2.2.2.2.2) k).2.1))), (a 4, .inl (ca 0, 24, .inl ((zGo (T.1, T.2.1, T.2.2.1, T.2.2.2.1, T.2.2.2.2.1 + 1, T.2.2.2.2.2) k).2.2.1))), (a 5, .inl (ca 0, 6, .inl ((zGo (T.1, T.2.1, T.2.2.1, T.2.2.2.1, T.2.2.2.2.1 + 1, T.2.2.2.2.2) k).2.2.2.1)))] H := hP
      have hD := zDto (ws := [(a 1, .inr (3, [.ref (a 2), .ref (a 3), .ref (a 4), .ref (a 5), .int ((zGo (T.1, T.2.1, T.2.2.1, T.2.2.2.1, T.2.2.2.2.1 + 1, T.2.2.2.2.2) k).2.2.2.2.1), .int ((zGo (T.1, T.2.1, T.2.2.1, T.2.2.2.1, T.2.2.2.2.1 + 1, T.2.2.2.2.2) k).2.2.2.2.2)])), (a 2, .inl (ca 0, 24, .inl ((zGo (T.1, T.2.1, T.2.2.1, T.2.2.2.1, T.2.2.2.2.1 + 1, T.2.2.2.2.2) k).1))), (a 3, .inl (ca 0, 24, .inl ((zGo (T.1, T.2.1, T.2.2.1, T.2.2.2.1, T.2.2.2.2.1 + 1, T.2.2.2.2.2) k).2.1))), (a 4, .inl (ca 0, 24, .inl ((zGo (T.1, T.2.1, T.2.2.1, T.2.2.2.1, T.2.2.2.2.1 + 1, T.2.2.2.2.2) k).2.2.1))), (a 5, .inl (ca 0, 6, .inl ((zGo (T.1, T.2.1, T.2.2.1, T.2.2.2.1, T.2.2.2.2.1 + 1, T.2.2.2.2.2) k).2.2.2.1)))]) hN hA rfl
      refine lv_aload_n hx hb dX3_changeTo_35 rfl (lv_at hl 1 rfl) ?_
      refine lv_iload_n hx hb dX3_changeTo_36 rfl (lv_at hl 0 rfl) ?_
      refine lv_iload_n hx hb dX3_changeTo_37 rfl (lv_at hl 3 rfl) ?_
      refine zcw (As := [.int (nI (zLow T)), .int v]) (rest := []) (st1 := []) (q0 := 0) S (c_X3_come l D ca a (zGo (T.1, T.2.1, T.2.2.1, T.2.2.2.1, T.2.2.2.2.1 + 1, T.2.2.2.2.2) k) (zLow T) (by omega) v (znd_pick hN [0, 1, 2, 3, 4] rfl rfl)) ml_X3_51 zy_X3_come im_X3_come se_X3_come ⟨Nat.le_of_ble_eq_true rfl, Nat.le_of_ble_eq_true rfl⟩ hK hP hD hS [0, 1, 2, 3, 4] rfl rfl rfl rfl rfl rfl hl.1 rfl rfl (Nat.le_of_ble_eq_true rfl) ⟨Nat.zero_le _, Nat.zero_le _⟩ dX3_changeTo_38 (fun H locs hP hS => ?_)
      have hP : va_P D vwCl [(a 1, .inr (3, [.ref (a 2), .ref (a 3), .ref (a 4), .ref (a 5), .int ((zCome (zGo (T.1, T.2.1, T.2.2.1, T.2.2.2.1, T.2.2.2.2.1 + 1, T.2.2.2.2.2) k) (zLow T) v).2.2.2.2.1), .int ((zCome (zGo (T.1, T.2.1, T.2.2.1, T.2.2.2.1, T.2.2.2.2.1 + 1, T.2.2.2.2.2) k) (zLow T) v).2.2.2.2.2)])), (a 2, .inl (ca 0, 24, .inl ((zCome (zGo (T.1, T.2.1, T.2.2.1, T.2.2.2.1, T.2.2.2.2.1 + 1, T.2.2.2.2.2) k) (zLow T) v).1))), (a 3, .inl (ca 0, 24, .inl ((zCome (zGo (T.1, T.2.1, T.2.2.1, T.2.2.2.1, T.2.2.2.2.1 + 1, T.2.2.2.2.2) k) (zLow T) v).2.1))), (a 4, .inl (ca 0, 24, .inl ((zCome (zGo (T.1, T.2.1, T.2.2.1, T.2.2.2.1, T.2.2.2.2.1 + 1, T.2.2.2.2.2) k) (zLow T) v).2.2.1))), (a 5, .inl (ca 0, 6, .inl ((zCome (zGo (T.1, T.2.1, T.2.2.1, T.2.2.2.1, T.2.2.2.2.1 + 1, T.2.2.2.2.2) k) (zLow T) v).2.2.2.1)))] H := hP
      have hD := zDto (ws := [(a 1, .inr (3, [.ref (a 2), .ref (a 3), .ref (a 4), .ref (a 5), .int ((zCome (zGo (T.1, T.2.1, T.2.2.1, T.2.2.2.1, T.2.2.2.2.1 + 1, T.2.2.2.2.2) k) (zLow T) v).2.2.2.2.1), .int ((zCome (zGo (T.1, T.2.1, T.2.2.1, T.2.2.2.1, T.2.2.2.2.1 + 1, T.2.2.2.2.2) k) (zLow T) v).2.2.2.2.2)])), (a 2, .inl (ca 0, 24, .inl ((zCome (zGo (T.1, T.2.1, T.2.2.1, T.2.2.2.1, T.2.2.2.2.1 + 1, T.2.2.2.2.2) k) (zLow T) v).1))), (a 3, .inl (ca 0, 24, .inl ((zCome (zGo (T.1, T.2.1, T.2.2.1, T.2.2.2.1, T.2.2.2.2.1 + 1, T.2.2.2.2.2) k) (zLow T) v).2.1))), (a 4, .inl (ca 0, 24, .inl ((zCome (zGo (T.1, T.2.1, T.2.2.1, T.2.2.2.1, T.2.2.2.2.1 + 1, T.2.2.2.2.2) k) (zLow T) v).2.2.1))), (a 5, .inl (ca 0, 6, .inl ((zCome (zGo (T.1, T.2.1, T.2.2.1, T.2.2.2.1, T.2.2.2.2.1 + 1, T.2.2.2.2.2) k) (zLow T) v).2.2.2.1)))]) hN hA rfl
      refine lv_iload_n hx hb dX3_changeTo_41 rfl (lv_at hl 0 rfl) ?_
      have hz : zChg T k v = (nI (zLow T), (zCome (zGo (T.1, T.2.1, T.2.2.1, T.2.2.2.1, T.2.2.2.2.1 + 1, T.2.2.2.2.2) k) (zLow T) v)) := by simp [zChg, zTick, c_1_1, c_15_2]
      exact zw_i hx hb hr hlk hP hS ⟨by rw [hz] <;> rfl, by rw [hz] <;> rfl⟩ dX3_changeTo_42
    · refine lv_iconst (v := (-1)) hx hb dX3_changeTo_18 (by decide) ?_
      have hz : zChg T k v = ((-1), T) := by simp [zChg, zTick, c_1_1, c_15_2]
      exact zw_i hx hb hr hlk hP hS ⟨by rw [hz] <;> rfl, by rw [hz] <;> rfl⟩ dX3_changeTo_19
  · refine lv_istore_n (lv' := [(3, .int (-1)), (0, .ref (a 1)), (1, .int (nI k)), (2, .int v)]) hx hb dX3_changeTo_4 rfl hl (by decide) rfl (fun ls hl => ?_)
    refine lv_iload_n hx hb dX3_changeTo_5 rfl (lv_at hl 0 rfl) ?_
    refine lv_iconst (v := (-1)) hx hb dX3_changeTo_6 (by decide) ?_
    refine lv_icmp_eq (tgt := 18) hx hb dX3_changeTo_7 (by decide) (fun _ => ?_) (fun h => absurd (by decide) h)
    refine lv_iconst (v := (-1)) hx hb dX3_changeTo_18 (by decide) ?_
    have hz : zChg T k v = ((-1), T) := by simp [zChg, zTick, c_1_1]
    exact zw_i hx hb hr hlk hP hS ⟨by rw [hz] <;> rfl, by rw [hz] <;> rfl⟩ dX3_changeTo_19
set_option maxHeartbeats 4000000 in
set_option maxRecDepth 100000 in
theorem c_X3_sweepPage (l : Launch) (D : va_G) (ca : Nat → ClassId) (a : Nat → Nat) (T : zTb) (p0 : Nat) (hp : p0 < 6) (t : Int32) (hN : [a 1, a 2, a 3, a 4, a 5].Nodup) : zMw l yX3_sweepPage cX3_sweepPage 7 (some .int) 1 22 D ca [(a 1, .inr (3, [.ref (a 2), .ref (a 3), .ref (a 4), .ref (a 5), .int T.2.2.2.2.1, .int T.2.2.2.2.2])), (a 2, .inl (ca 0, 24, .inl T.1)), (a 3, .inl (ca 0, 24, .inl T.2.1)), (a 4, .inl (ca 0, 24, .inl T.2.2.1)), (a 5, .inl (ca 0, 6, .inl T.2.2.2.1))] ([(a 1, .inr (3, [.ref (a 2), .ref (a 3), .ref (a 4), .ref (a 5), .int (((zSweep T p0 t).2).2.2.2.2.1), .int (((zSweep T p0 t).2).2.2.2.2.2)])), (a 2, .inl (ca 0, 24, .inl (((zSweep T p0 t).2).1))), (a 3, .inl (ca 0, 24, .inl (((zSweep T p0 t).2).2.1))), (a 4, .inl (ca 0, 24, .inl (((zSweep T p0 t).2).2.2.1))), (a 5, .inl (ca 0, 6, .inl (((zSweep T p0 t).2).2.2.2.1)))]) [.ref (a 1), .int (nI p0), .int t] (some (.int ((zSweep T p0 t).1))) := by
  refine zMw_of (own := RX3) (by decide) rfl (Nat.le_of_ble_eq_true rfl) ?_
  intro p e s m args below meth c ls S hr hlk hP hK hl hS
  have hP : va_P D vwCl [(a 1, .inr (3, [.ref (a 2), .ref (a 3), .ref (a 4), .ref (a 5), .int T.2.2.2.2.1, .int T.2.2.2.2.2])), (a 2, .inl (ca 0, 24, .inl T.1)), (a 3, .inl (ca 0, 24, .inl T.2.1)), (a 4, .inl (ca 0, 24, .inl T.2.2.1)), (a 5, .inl (ca 0, 6, .inl T.2.2.2.1))] s.heap := hP
  have hS : va_S (zA [a 1, a 2, a 3, a 4, a 5]) s.heap s.heap [] := hS
  have hA : ∀ q ∈ [a 1, a 2, a 3, a 4, a 5], zA [a 1, a 2, a 3, a 4, a 5] q := fun _ h => h
  have hD := zDto (ws := [(a 1, .inr (3, [.ref (a 2), .ref (a 3), .ref (a 4), .ref (a 5), .int T.2.2.2.2.1, .int T.2.2.2.2.2])), (a 2, .inl (ca 0, 24, .inl T.1)), (a 3, .inl (ca 0, 24, .inl T.2.1)), (a 4, .inl (ca 0, 24, .inl T.2.2.1)), (a 5, .inl (ca 0, 6, .inl T.2.2.2.1))]) hN hA rfl
  have hx := S.1
  have hb := S.2.1
  have hl : lv_has ls 7 [(0, .ref (a 1)), (1, .int (nI p0)), (2, .int t)] := hl
  refine lv_iconst (v := 0) hx hb dX3_sweepPage_0 (by decide) ?_
  refine lv_istore_n (lv' := [(3, .int 0), (0, .ref (a 1)), (1, .int (nI p0)), (2, .int t)]) hx hb dX3_sweepPage_1 rfl hl (by decide) rfl (fun ls hl => ?_)
  refine lv_iconst (v := 1) hx hb dX3_sweepPage_2 (by decide) ?_
  refine lv_istore (lv' := [(4, .int 1), (3, .int 0), (0, .ref (a 1)), (1, .int (nI p0)), (2, .int t)]) hx hb dX3_sweepPage_3 hl (by decide) rfl (fun ls hl => ?_)
  refine lv_iload_n hx hb dX3_sweepPage_5 rfl (lv_at hl 3 rfl) ?_
  refine lv_iconst (v := 4) hx hb dX3_sweepPage_6 (by decide) ?_
  refine zn_mul hx hb (x := p0) (y := 4) (z := p0 * 4) (by first | rfl | omega) dX3_sweepPage_7 ?_
  refine lv_istore (lv' := [(5, .int (nI (p0 * 4))), (4, .int 1), (3, .int 0), (0, .ref (a 1)), (1, .int (nI p0)), (2, .int t)]) hx hb dX3_sweepPage_8 hl (by decide) rfl (fun ls hl => ?_)
  refine lv_iload hx hb dX3_sweepPage_10 (lv_at hl 0 rfl) ?_
  refine lv_istore (lv' := [(6, .int (nI (p0 * 4))), (5, .int (nI (p0 * 4))), (4, .int 1), (3, .int 0), (0, .ref (a 1)), (1, .int (nI p0)), (2, .int t)]) hx hb dX3_sweepPage_12 hl (by decide) rfl (fun ls hl => ?_)
  have loop_0 : ∀ (f : Nat) (k : Nat) (U : zTb) (n : Int32) (b : Bool) (H : Heap) (locs : List Loc) (ls : Array Slot), k + f = p0 * 4 + 4 → zsw t 4 (p0 * 4) T 0 true = zsw t f k U n b → lv_has ls 7 [(0, .ref (a 1)), (1, .int (nI p0)), (2, .int t), (3, .int n), (4, .int (zb b)), (5, .int (nI (p0 * 4))), (6, .int (nI k))] → va_P D vwCl [(a 1, .inr (3, [.ref (a 2), .ref (a 3), .ref (a 4), .ref (a 5), .int U.2.2.2.2.1, .int U.2.2.2.2.2])), (a 2, .inl (ca 0, 24, .inl U.1)), (a 3, .inl (ca 0, 24, .inl U.2.1)), (a 4, .inl (ca 0, 24, .inl U.2.2.1)), (a 5, .inl (ca 0, 6, .inl U.2.2.2.1))] H → va_S (zA [a 1, a 2, a 3, a 4, a 5]) s.heap H locs → W p l e { frames := 1, cells := 0, slots := 0, locals := 22 } s m args below meth c H locs 0 0 (MQ below (zQw D [a 1, a 2, a 3, a 4, a 5] ([(a 1, .inr (3, [.ref (a 2), .ref (a 3), .ref (a 4), .ref (a 5), .int (((zSweep T p0 t).2).2.2.2.2.1), .int (((zSweep T p0 t).2).2.2.2.2.2)])), (a 2, .inl (ca 0, 24, .inl (((zSweep T p0 t).2).1))), (a 3, .inl (ca 0, 24, .inl (((zSweep T p0 t).2).2.1))), (a 4, .inl (ca 0, 24, .inl (((zSweep T p0 t).2).2.2.1))), (a 5, .inl (ca 0, 6, .inl (((zSweep T p0 t).2).2.2.2.1)))]) (some (.int ((zSweep T p0 t).1)))) args s 0 0 (zA [a 1, a 2, a 3, a 4, a 5])) (F0 m 14 ls []) := by
    intro f
    induction f with
    | zero =>
      intro k U n b H locs ls j1 j2 hl hP hS
      have hD := zDto (ws := [(a 1, .inr (3, [.ref (a 2), .ref (a 3), .ref (a 4), .ref (a 5), .int U.2.2.2.2.1, .int U.2.2.2.2.2])), (a 2, .inl (ca 0, 24, .inl U.1)), (a 3, .inl (ca 0, 24, .inl U.2.1)), (a 4, .inl (ca 0, 24, .inl U.2.2.1)), (a 5, .inl (ca 0, 6, .inl U.2.2.2.1))]) hN hA rfl
      refine lv_iload hx hb dX3_sweepPage_14 (lv_at hl 6 rfl) ?_
      refine lv_iload hx hb dX3_sweepPage_16 (lv_at hl 5 rfl) ?_
      refine lv_iconst (v := 4) hx hb dX3_sweepPage_18 (by decide) ?_
      refine zn_add hx hb (x := p0 * 4) (y := 4) (z := (p0 * 4) + 4) (by omega) dX3_sweepPage_19 ?_
      refine zn_ge hx hb (x := k) (y := (p0 * 4) + 4) (by omega) (by omega) (tgt := 75) dX3_sweepPage_20 (by decide) (fun c_20_2 => ?_) (fun h => False.elim (by omega))
      refine lv_iload hx hb dX3_sweepPage_75 (lv_at hl 4 rfl) ?_
      refine zz_eq (tgt := 87) hx hb dX3_sweepPage_77 (by decide) (fun c_77_3 => ?_) (fun c_77_3 => ?_)
      · refine lv_aload_n hx hb dX3_sweepPage_87 rfl (lv_at hl 0 rfl) ?_
        refine lv_dup hx hb dX3_sweepPage_88 rfl ?_
        refine z_get S in_lay_X3 hK hP rfl 0 rfl 5 (by decide) fl_X3_40 rfl rfl dX3_sweepPage_89 ?_
        refine lv_iload_n hx hb dX3_sweepPage_92 rfl (lv_at hl 3 rfl) ?_
        refine lv_iadd hx hb dX3_sweepPage_93 ?_
        refine z_put S in_lay_X3 tyX3_ok nmX3 hK hP hD hS rfl 0 rfl 5 (by decide) fl_X3_40 rfl rfl rfl rfl (Nat.le_of_ble_eq_true rfl) dX3_sweepPage_94 (fun H locs hP hS => ?_)
        have hP : va_P D vwCl [(a 1, .inr (3, [.ref (a 2), .ref (a 3), .ref (a 4), .ref (a 5), .int U.2.2.2.2.1, .int (U.2.2.2.2.2 + n)])), (a 2, .inl (ca 0, 24, .inl U.1)), (a 3, .inl (ca 0, 24, .inl U.2.1)), (a 4, .inl (ca 0, 24, .inl U.2.2.1)), (a 5, .inl (ca 0, 6, .inl U.2.2.2.1))] H := hP
        have hD := zDto (ws := [(a 1, .inr (3, [.ref (a 2), .ref (a 3), .ref (a 4), .ref (a 5), .int U.2.2.2.2.1, .int (U.2.2.2.2.2 + n)])), (a 2, .inl (ca 0, 24, .inl U.1)), (a 3, .inl (ca 0, 24, .inl U.2.1)), (a 4, .inl (ca 0, 24, .inl U.2.2.1)), (a 5, .inl (ca 0, 6, .inl U.2.2.2.1))]) hN hA rfl
        refine lv_iload_n hx hb dX3_sweepPage_97 rfl (lv_at hl 3 rfl) ?_
        have hz : zSweep T p0 t = (n, (U.1, U.2.1, U.2.2.1, U.2.2.2.1, U.2.2.2.2.1, U.2.2.2.2.2 + n)) := by rw [zSweep, j2]; simp [zsw, zswE, c_20_2, c_77_3]
        exact zw_i hx hb hr hlk hP hS ⟨by rw [hz] <;> rfl, by rw [hz] <;> rfl⟩ dX3_sweepPage_98
      · refine lv_aload_n hx hb dX3_sweepPage_80 rfl (lv_at hl 0 rfl) ?_
        refine z_get S in_lay_X3 hK hP rfl 0 rfl 3 (by decide) fl_X3_21 rfl rfl dX3_sweepPage_81 ?_
        refine lv_iload_n hx hb dX3_sweepPage_84 rfl (lv_at hl 1 rfl) ?_
        refine lv_iload_n hx hb dX3_sweepPage_85 rfl (lv_at hl 2 rfl) ?_
        refine z_iast S hK hP hD hS 4 rfl (j := p0) (by omega) (by decide) dX3_sweepPage_86 (fun H locs hP hS => ?_)
        have hP : va_P D vwCl [(a 1, .inr (3, [.ref (a 2), .ref (a 3), .ref (a 4), .ref (a 5), .int U.2.2.2.2.1, .int U.2.2.2.2.2])), (a 2, .inl (ca 0, 24, .inl U.1)), (a 3, .inl (ca 0, 24, .inl U.2.1)), (a 4, .inl (ca 0, 24, .inl U.2.2.1)), (a 5, .inl (ca 0, 6, .inl (upd U.2.2.2.1 p0 t)))] H := hP
        have hD := zDto (ws := [(a 1, .inr (3, [.ref (a 2), .ref (a 3), .ref (a 4), .ref (a 5), .int U.2.2.2.2.1, .int U.2.2.2.2.2])), (a 2, .inl (ca 0, 24, .inl U.1)), (a 3, .inl (ca 0, 24, .inl U.2.1)), (a 4, .inl (ca 0, 24, .inl U.2.2.1)), (a 5, .inl (ca 0, 6, .inl (upd U.2.2.2.1 p0 t)))]) hN hA rfl
        refine lv_aload_n hx hb dX3_sweepPage_87 rfl (lv_at hl 0 rfl) ?_
        refine lv_dup hx hb dX3_sweepPage_88 rfl ?_
        refine z_get S in_lay_X3 hK hP rfl 0 rfl 5 (by decide) fl_X3_40 rfl rfl dX3_sweepPage_89 ?_
        refine lv_iload_n hx hb dX3_sweepPage_92 rfl (lv_at hl 3 rfl) ?_
        refine lv_iadd hx hb dX3_sweepPage_93 ?_
        refine z_put S in_lay_X3 tyX3_ok nmX3 hK hP hD hS rfl 0 rfl 5 (by decide) fl_X3_40 rfl rfl rfl rfl (Nat.le_of_ble_eq_true rfl) dX3_sweepPage_94 (fun H locs hP hS => ?_)
        have hP : va_P D vwCl [(a 1, .inr (3, [.ref (a 2), .ref (a 3), .ref (a 4), .ref (a 5), .int U.2.2.2.2.1, .int (U.2.2.2.2.2 + n)])), (a 2, .inl (ca 0, 24, .inl U.1)), (a 3, .inl (ca 0, 24, .inl U.2.1)), (a 4, .inl (ca 0, 24, .inl U.2.2.1)), (a 5, .inl (ca 0, 6, .inl (upd U.2.2.2.1 p0 t)))] H := hP
        have hD := zDto (ws := [(a 1, .inr (3, [.ref (a 2), .ref (a 3), .ref (a 4), .ref (a 5), .int U.2.2.2.2.1, .int (U.2.2.2.2.2 + n)])), (a 2, .inl (ca 0, 24, .inl U.1)), (a 3, .inl (ca 0, 24, .inl U.2.1)), (a 4, .inl (ca 0, 24, .inl U.2.2.1)), (a 5, .inl (ca 0, 6, .inl (upd U.2.2.2.1 p0 t)))]) hN hA rfl
        refine lv_iload_n hx hb dX3_sweepPage_97 rfl (lv_at hl 3 rfl) ?_
        have hz : zSweep T p0 t = (n, (U.1, U.2.1, U.2.2.1, upd U.2.2.2.1 p0 t, U.2.2.2.2.1, U.2.2.2.2.2 + n)) := by rw [zSweep, j2]; simp [zsw, zswE, c_20_2, c_77_3]
        exact zw_i hx hb hr hlk hP hS ⟨by rw [hz] <;> rfl, by rw [hz] <;> rfl⟩ dX3_sweepPage_98
    | succ f ih =>
      intro k U n b H locs ls j1 j2 hl hP hS
      have hD := zDto (ws := [(a 1, .inr (3, [.ref (a 2), .ref (a 3), .ref (a 4), .ref (a 5), .int U.2.2.2.2.1, .int U.2.2.2.2.2])), (a 2, .inl (ca 0, 24, .inl U.1)), (a 3, .inl (ca 0, 24, .inl U.2.1)), (a 4, .inl (ca 0, 24, .inl U.2.2.1)), (a 5, .inl (ca 0, 6, .inl U.2.2.2.1))]) hN hA rfl
      refine lv_iload hx hb dX3_sweepPage_14 (lv_at hl 6 rfl) ?_
      refine lv_iload hx hb dX3_sweepPage_16 (lv_at hl 5 rfl) ?_
      refine lv_iconst (v := 4) hx hb dX3_sweepPage_18 (by decide) ?_
      refine zn_add hx hb (x := p0 * 4) (y := 4) (z := (p0 * 4) + 4) (by omega) dX3_sweepPage_19 ?_
      refine zn_ge hx hb (x := k) (y := (p0 * 4) + 4) (by omega) (by omega) (tgt := 75) dX3_sweepPage_20 (by decide) (fun h => False.elim (by omega)) (fun c_20_4 => ?_)
      refine lv_aload_n hx hb dX3_sweepPage_23 rfl (lv_at hl 0 rfl) ?_
      refine lv_iload hx hb dX3_sweepPage_24 (lv_at hl 6 rfl) ?_
      refine lv_iload_n hx hb dX3_sweepPage_26 rfl (lv_at hl 2 rfl) ?_
      refine zcr (As := [.int (nI k), .int t]) (rest := []) (q0 := 0) S (c_X3_isToTakeOut l D ca a U k (by omega) t) ml_X3_63 zy_X3_isToTakeOut im_X3_isToTakeOut se_X3_isToTakeOut ⟨Nat.le_of_ble_eq_true rfl, Nat.le_of_ble_eq_true rfl⟩ hK hP [0, 1, 2, 3, 4] rfl rfl rfl rfl rfl hl.1 rfl (Nat.le_of_ble_eq_true rfl) ⟨Nat.zero_le _, Nat.zero_le _⟩ dX3_sweepPage_27 ?_
      refine zz_eq (tgt := 45) hx hb dX3_sweepPage_30 (by decide) (fun c_30_5 => ?_) (fun c_30_5 => ?_)
      · refine lv_aload_n hx hb dX3_sweepPage_45 rfl (lv_at hl 0 rfl) ?_
        refine z_get S in_lay_X3 hK hP rfl 0 rfl 0 (by decide) fl_X3_9 rfl rfl dX3_sweepPage_46 ?_
        refine lv_iload hx hb dX3_sweepPage_49 (lv_at hl 6 rfl) ?_
        refine z_iald S hK hP 1 rfl (j := k) (by omega) (by decide) dX3_sweepPage_51 ?_
        refine lv_iconst (v := (-1)) hx hb dX3_sweepPage_52 (by decide) ?_
        refine lv_icmp_eq (tgt := 69) hx hb dX3_sweepPage_53 (by decide) (fun c_53_6 => ?_) (fun c_53_6 => ?_)
        · refine lv_iinc (v := nI (k + 1)) (lv' := [(6, .int (nI (k + 1))), (0, .ref (a 1)), (1, .int (nI p0)), (2, .int t), (3, .int n), (4, .int (zb b)), (5, .int (nI (p0 * 4)))]) hx hb dX3_sweepPage_69 hl (k := 6) rfl (zinc k 1) (by decide) rfl (fun ls hl => ?_)
          refine lv_goto (tgt := 14) hx hb dX3_sweepPage_72 (by decide) ?_
          exact ih (k + 1) U n b _ _ ls (by omega) (by rw [j2]; simp only [zsw, c_20_4, c_30_5, c_53_6, if_true, if_false, Bool.false_eq_true]) (lv_sub hl [1, 2, 3, 4, 5, 6, 0] rfl) hP hS
        · refine lv_aload_n hx hb dX3_sweepPage_56 rfl (lv_at hl 0 rfl) ?_
          refine lv_iload hx hb dX3_sweepPage_57 (lv_at hl 6 rfl) ?_
          refine lv_iload_n hx hb dX3_sweepPage_59 rfl (lv_at hl 2 rfl) ?_
          refine zcr (As := [.int (nI k), .int t]) (rest := []) (q0 := 0) S (c_X3_isSeenByAll l D ca a U k (by omega) t) ml_X3_69 zy_X3_isSeenByAll im_X3_isSeenByAll se_X3_isSeenByAll ⟨Nat.le_of_ble_eq_true rfl, Nat.le_of_ble_eq_true rfl⟩ hK hP [0, 1, 2, 3, 4] rfl rfl rfl rfl rfl hl.1 rfl (Nat.le_of_ble_eq_true rfl) ⟨Nat.zero_le _, Nat.zero_le _⟩ dX3_sweepPage_60 ?_
          refine zz_ne (tgt := 69) hx hb dX3_sweepPage_63 (by decide) (fun c_63_7 => ?_) (fun c_63_7 => ?_)
          · refine lv_iinc (v := nI (k + 1)) (lv' := [(6, .int (nI (k + 1))), (0, .ref (a 1)), (1, .int (nI p0)), (2, .int t), (3, .int n), (4, .int (zb b)), (5, .int (nI (p0 * 4)))]) hx hb dX3_sweepPage_69 hl (k := 6) rfl (zinc k 1) (by decide) rfl (fun ls hl => ?_)
            refine lv_goto (tgt := 14) hx hb dX3_sweepPage_72 (by decide) ?_
            exact ih (k + 1) U n b _ _ ls (by omega) (by rw [j2]; simp only [zsw, c_20_4, c_30_5, c_53_6, c_63_7, if_true, if_false, Bool.false_eq_true]) (lv_sub hl [1, 2, 3, 4, 5, 6, 0] rfl) hP hS
          · refine lv_iconst (v := 0) hx hb dX3_sweepPage_66 (by decide) ?_
            refine lv_istore (lv' := [(4, .int 0), (0, .ref (a 1)), (1, .int (nI p0)), (2, .int t), (3, .int n), (5, .int (nI (p0 * 4))), (6, .int (nI k))]) hx hb dX3_sweepPage_67 hl (by decide) rfl (fun ls hl => ?_)
            refine lv_iinc (v := nI (k + 1)) (lv' := [(6, .int (nI (k + 1))), (4, .int 0), (0, .ref (a 1)), (1, .int (nI p0)), (2, .int t), (3, .int n), (5, .int (nI (p0 * 4)))]) hx hb dX3_sweepPage_69 hl (k := 6) rfl (zinc k 1) (by decide) rfl (fun ls hl => ?_)
            refine lv_goto (tgt := 14) hx hb dX3_sweepPage_72 (by decide) ?_
            exact ih (k + 1) U n false _ _ ls (by omega) (by rw [j2]; simp only [zsw, c_20_4, c_30_5, c_53_6, c_63_7, if_true, if_false, Bool.false_eq_true]) (lv_sub hl [2, 3, 4, 5, 1, 6, 0] rfl) hP hS
      · refine lv_aload_n hx hb dX3_sweepPage_33 rfl (lv_at hl 0 rfl) ?_
        refine lv_iload hx hb dX3_sweepPage_34 (lv_at hl 6 rfl) ?_
        refine zcw (As := [.int (nI k)]) (rest := []) (st1 := []) (q0 := 0) S (c_X3_empty l D ca a U k (by omega) (znd_pick hN [0, 1, 2, 3, 4] rfl rfl)) ml_X3_66 zy_X3_empty im_X3_empty se_X3_empty ⟨Nat.le_of_ble_eq_true rfl, Nat.le_of_ble_eq_true rfl⟩ hK hP hD hS [0, 1, 2, 3, 4] rfl rfl rfl rfl rfl rfl hl.1 rfl rfl (Nat.le_of_ble_eq_true rfl) ⟨Nat.zero_le _, Nat.zero_le _⟩ dX3_sweepPage_36 (fun H locs hP hS => ?_)
        have hP : va_P D vwCl [(a 1, .inr (3, [.ref (a 2), .ref (a 3), .ref (a 4), .ref (a 5), .int ((zEmp U k).2.2.2.2.1), .int ((zEmp U k).2.2.2.2.2)])), (a 2, .inl (ca 0, 24, .inl ((zEmp U k).1))), (a 3, .inl (ca 0, 24, .inl ((zEmp U k).2.1))), (a 4, .inl (ca 0, 24, .inl ((zEmp U k).2.2.1))), (a 5, .inl (ca 0, 6, .inl ((zEmp U k).2.2.2.1)))] H := hP
        have hD := zDto (ws := [(a 1, .inr (3, [.ref (a 2), .ref (a 3), .ref (a 4), .ref (a 5), .int ((zEmp U k).2.2.2.2.1), .int ((zEmp U k).2.2.2.2.2)])), (a 2, .inl (ca 0, 24, .inl ((zEmp U k).1))), (a 3, .inl (ca 0, 24, .inl ((zEmp U k).2.1))), (a 4, .inl (ca 0, 24, .inl ((zEmp U k).2.2.1))), (a 5, .inl (ca 0, 6, .inl ((zEmp U k).2.2.2.1)))]) hN hA rfl
        refine lv_iinc (v := n + 1) (lv' := [(3, .int (n + 1)), (0, .ref (a 1)), (1, .int (nI p0)), (2, .int t), (4, .int (zb b)), (5, .int (nI (p0 * 4))), (6, .int (nI k))]) hx hb dX3_sweepPage_39 hl (k := 3) rfl (rfl) (by decide) rfl (fun ls hl => ?_)
        refine lv_goto (tgt := 69) hx hb dX3_sweepPage_42 (by decide) ?_
        refine lv_iinc (v := nI (k + 1)) (lv' := [(6, .int (nI (k + 1))), (3, .int (n + 1)), (0, .ref (a 1)), (1, .int (nI p0)), (2, .int t), (4, .int (zb b)), (5, .int (nI (p0 * 4)))]) hx hb dX3_sweepPage_69 hl (k := 6) rfl (zinc k 1) (by decide) rfl (fun ls hl => ?_)
        refine lv_goto (tgt := 14) hx hb dX3_sweepPage_72 (by decide) ?_
        exact ih (k + 1) (zEmp U k) (n + 1) b _ _ ls (by omega) (by rw [j2]; simp only [zsw, c_20_4, c_30_5, if_true, if_false, Bool.false_eq_true]) (lv_sub hl [2, 3, 4, 1, 5, 6, 0] rfl) hP hS
  exact loop_0 4 (p0 * 4) T 0 true _ _ ls (by omega) (by rfl) (lv_sub hl [4, 5, 6, 3, 2, 1, 0] rfl) hP hS
end
