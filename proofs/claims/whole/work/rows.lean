section
-- ===== PART A: goes FIRST, ahead of the names: the tables' words, and 'selects' of the private methods out of them =====
/-- a private method of a class that the tables say can be made, by its rows of tables_1 -/
def lw_okq (q : MethodName × Nat) : Prop := (q.1.cls ≠ "java/lang/invoke/MethodHandle" ∧ q.1.cls ≠ "java/lang/invoke/VarHandle") ∧ Cond.instantiable q.1.cls q.2 ∈ tables_1 ∧ Cond.privateMethod q.1 ∈ tables_1 ∧ Cond.instanceMethod q.1 ∈ tables_1
theorem lw_p0 : lw_okq (⟨"SeenPages$Table", "isToTakeOut", "(II)Z"⟩, 6) := ⟨⟨by decide +kernel, by decide +kernel⟩, List.mem_of_getElem? (i := 34) (by decide +kernel), List.mem_of_getElem? (i := 220) (by decide +kernel), List.mem_of_getElem? (i := 221) (by decide +kernel)⟩
theorem lw_p1 : lw_okq (⟨"SeenPages$Table", "empty", "(I)V"⟩, 6) := ⟨⟨by decide +kernel, by decide +kernel⟩, List.mem_of_getElem? (i := 34) (by decide +kernel), List.mem_of_getElem? (i := 224) (by decide +kernel), List.mem_of_getElem? (i := 225) (by decide +kernel)⟩
theorem lw_p2 : lw_okq (⟨"SeenPages$Table", "isSeenByAll", "(II)Z"⟩, 6) := ⟨⟨by decide +kernel, by decide +kernel⟩, List.mem_of_getElem? (i := 34) (by decide +kernel), List.mem_of_getElem? (i := 228) (by decide +kernel), List.mem_of_getElem? (i := 229) (by decide +kernel)⟩
theorem lw_p3 : lw_okq (⟨"SeenPages$Text", "readSign", "(C)Z"⟩, 6) := ⟨⟨by decide +kernel, by decide +kernel⟩, List.mem_of_getElem? (i := 138) (by decide +kernel), List.mem_of_getElem? (i := 264) (by decide +kernel), List.mem_of_getElem? (i := 265) (by decide +kernel)⟩
theorem lw_p4 : lw_okq (⟨"SeenPages$Text", "readDigit", "(I)Z"⟩, 6) := ⟨⟨by decide +kernel, by decide +kernel⟩, List.mem_of_getElem? (i := 138) (by decide +kernel), List.mem_of_getElem? (i := 272) (by decide +kernel), List.mem_of_getElem? (i := 273) (by decide +kernel)⟩
theorem lw_p5 : lw_okq (⟨"SeenPages$Text", "digitHere", "()I"⟩, 6) := ⟨⟨by decide +kernel, by decide +kernel⟩, List.mem_of_getElem? (i := 138) (by decide +kernel), List.mem_of_getElem? (i := 276) (by decide +kernel), List.mem_of_getElem? (i := 277) (by decide +kernel)⟩
theorem lw_p6 : lw_okq (⟨"SeenPages$Text", "readPlace", "()Z"⟩, 6) := ⟨⟨by decide +kernel, by decide +kernel⟩, List.mem_of_getElem? (i := 138) (by decide +kernel), List.mem_of_getElem? (i := 280) (by decide +kernel), List.mem_of_getElem? (i := 281) (by decide +kernel)⟩
theorem lw_p7 : lw_okq (⟨"SeenPages", "mostHolding", "()I"⟩, 3) := ⟨⟨by decide +kernel, by decide +kernel⟩, List.mem_of_getElem? (i := 20) (by decide +kernel), List.mem_of_getElem? (i := 288) (by decide +kernel), List.mem_of_getElem? (i := 289) (by decide +kernel)⟩
theorem lw_p8 : lw_okq (⟨"SeenPages", "markedShare", "()D"⟩, 3) := ⟨⟨by decide +kernel, by decide +kernel⟩, List.mem_of_getElem? (i := 20) (by decide +kernel), List.mem_of_getElem? (i := 301) (by decide +kernel), List.mem_of_getElem? (i := 302) (by decide +kernel)⟩
theorem lw_p9 : lw_okq (⟨"SeenPages", "countNumber", "(I)I"⟩, 3) := ⟨⟨by decide +kernel, by decide +kernel⟩, List.mem_of_getElem? (i := 20) (by decide +kernel), List.mem_of_getElem? (i := 311) (by decide +kernel), List.mem_of_getElem? (i := 312) (by decide +kernel)⟩
theorem lw_p10 : lw_okq (⟨"SeenPages", "mixParts", "(J)J"⟩, 3) := ⟨⟨by decide +kernel, by decide +kernel⟩, List.mem_of_getElem? (i := 20) (by decide +kernel), List.mem_of_getElem? (i := 331) (by decide +kernel), List.mem_of_getElem? (i := 332) (by decide +kernel)⟩
theorem lw_p11 : lw_okq (⟨"SeenPages", "slotNumber", "(II)I"⟩, 3) := ⟨⟨by decide +kernel, by decide +kernel⟩, List.mem_of_getElem? (i := 20) (by decide +kernel), List.mem_of_getElem? (i := 335) (by decide +kernel), List.mem_of_getElem? (i := 336) (by decide +kernel)⟩
theorem lw_p12 : lw_okq (⟨"SeenPages", "pageNumber", "(II)I"⟩, 3) := ⟨⟨by decide +kernel, by decide +kernel⟩, List.mem_of_getElem? (i := 20) (by decide +kernel), List.mem_of_getElem? (i := 343) (by decide +kernel), List.mem_of_getElem? (i := 344) (by decide +kernel)⟩
theorem lw_p13 : lw_okq (⟨"SeenPages", "askerNumber", "(II)I"⟩, 3) := ⟨⟨by decide +kernel, by decide +kernel⟩, List.mem_of_getElem? (i := 20) (by decide +kernel), List.mem_of_getElem? (i := 348) (by decide +kernel), List.mem_of_getElem? (i := 349) (by decide +kernel)⟩
theorem lw_p14 : lw_okq (⟨"SeenPages", "mixValue", "(JI)J"⟩, 3) := ⟨⟨by decide +kernel, by decide +kernel⟩, List.mem_of_getElem? (i := 20) (by decide +kernel), List.mem_of_getElem? (i := 352) (by decide +kernel), List.mem_of_getElem? (i := 353) (by decide +kernel)⟩
theorem lw_p15 : lw_okq (⟨"SeenPages$Table", "indexHas", "(II)Z"⟩, 6) := ⟨⟨by decide +kernel, by decide +kernel⟩, List.mem_of_getElem? (i := 34) (by decide +kernel), List.mem_of_getElem? (i := 368) (by decide +kernel), List.mem_of_getElem? (i := 369) (by decide +kernel)⟩
def lw_privs_1 : List (MethodName × Nat) := [(⟨"SeenPages$Table", "isToTakeOut", "(II)Z"⟩, 6), (⟨"SeenPages$Table", "empty", "(I)V"⟩, 6), (⟨"SeenPages$Table", "isSeenByAll", "(II)Z"⟩, 6), (⟨"SeenPages$Text", "readSign", "(C)Z"⟩, 6), (⟨"SeenPages$Text", "readDigit", "(I)Z"⟩, 6), (⟨"SeenPages$Text", "digitHere", "()I"⟩, 6), (⟨"SeenPages$Text", "readPlace", "()Z"⟩, 6), (⟨"SeenPages", "mostHolding", "()I"⟩, 3), (⟨"SeenPages", "markedShare", "()D"⟩, 3), (⟨"SeenPages", "countNumber", "(I)I"⟩, 3), (⟨"SeenPages", "mixParts", "(J)J"⟩, 3), (⟨"SeenPages", "slotNumber", "(II)I"⟩, 3), (⟨"SeenPages", "pageNumber", "(II)I"⟩, 3), (⟨"SeenPages", "askerNumber", "(II)I"⟩, 3), (⟨"SeenPages", "mixValue", "(JI)J"⟩, 3), (⟨"SeenPages$Table", "indexHas", "(II)Z"⟩, 6)]
theorem lw_r1 : ∀ q ∈ lw_privs_1, lw_okq q := List.forall_mem_cons.mpr ⟨lw_p0, List.forall_mem_cons.mpr ⟨lw_p1, List.forall_mem_cons.mpr ⟨lw_p2, List.forall_mem_cons.mpr ⟨lw_p3, List.forall_mem_cons.mpr ⟨lw_p4, List.forall_mem_cons.mpr ⟨lw_p5, List.forall_mem_cons.mpr ⟨lw_p6, List.forall_mem_cons.mpr ⟨lw_p7, List.forall_mem_cons.mpr ⟨lw_p8, List.forall_mem_cons.mpr ⟨lw_p9, List.forall_mem_cons.mpr ⟨lw_p10, List.forall_mem_cons.mpr ⟨lw_p11, List.forall_mem_cons.mpr ⟨lw_p12, List.forall_mem_cons.mpr ⟨lw_p13, List.forall_mem_cons.mpr ⟨lw_p14, List.forall_mem_cons.mpr ⟨lw_p15, fun _ h => absurd h List.not_mem_nil⟩⟩⟩⟩⟩⟩⟩⟩⟩⟩⟩⟩⟩⟩⟩⟩
theorem lw_p16 : lw_okq (⟨"java/lang/Throwable", "fillInStackTrace", "(I)Ljava/lang/Throwable;"⟩, 6) := ⟨⟨by decide +kernel, by decide +kernel⟩, List.mem_of_getElem? (i := 438) (by decide +kernel), List.mem_of_getElem? (i := 436) (by decide +kernel), List.mem_of_getElem? (i := 437) (by decide +kernel)⟩
theorem lw_p17 : lw_okq (⟨"SeenPages$Table", "come", "(II)V"⟩, 6) := ⟨⟨by decide +kernel, by decide +kernel⟩, List.mem_of_getElem? (i := 34) (by decide +kernel), List.mem_of_getElem? (i := 496) (by decide +kernel), List.mem_of_getElem? (i := 497) (by decide +kernel)⟩
theorem lw_p18 : lw_okq (⟨"SeenPages$Table", "go", "(I)V"⟩, 6) := ⟨⟨by decide +kernel, by decide +kernel⟩, List.mem_of_getElem? (i := 34) (by decide +kernel), List.mem_of_getElem? (i := 529) (by decide +kernel), List.mem_of_getElem? (i := 530) (by decide +kernel)⟩
theorem lw_p19 : lw_okq (⟨"SeenPages", "makeParts", "()I"⟩, 3) := ⟨⟨by decide +kernel, by decide +kernel⟩, List.mem_of_getElem? (i := 20) (by decide +kernel), List.mem_of_getElem? (i := 603) (by decide +kernel), List.mem_of_getElem? (i := 604) (by decide +kernel)⟩
theorem lw_p20 : lw_okq (⟨"SeenPagesModel", "fails", "(I)I"⟩, 11) := ⟨⟨by decide +kernel, by decide +kernel⟩, List.mem_of_getElem? (i := 685) (by decide +kernel), List.mem_of_getElem? (i := 736) (by decide +kernel), List.mem_of_getElem? (i := 737) (by decide +kernel)⟩
theorem lw_p21 : lw_okq (⟨"SeenPagesModel", "canChange", "(II)Z"⟩, 11) := ⟨⟨by decide +kernel, by decide +kernel⟩, List.mem_of_getElem? (i := 685) (by decide +kernel), List.mem_of_getElem? (i := 740) (by decide +kernel), List.mem_of_getElem? (i := 741) (by decide +kernel)⟩
theorem lw_p22 : lw_okq (⟨"SeenPagesModel", "isSeen", "(II)Z"⟩, 11) := ⟨⟨by decide +kernel, by decide +kernel⟩, List.mem_of_getElem? (i := 685) (by decide +kernel), List.mem_of_getElem? (i := 747) (by decide +kernel), List.mem_of_getElem? (i := 748) (by decide +kernel)⟩
theorem lw_p23 : lw_okq (⟨"SeenPagesModel", "isFull", "(I)Z"⟩, 11) := ⟨⟨by decide +kernel, by decide +kernel⟩, List.mem_of_getElem? (i := 685) (by decide +kernel), List.mem_of_getElem? (i := 751) (by decide +kernel), List.mem_of_getElem? (i := 752) (by decide +kernel)⟩
theorem lw_p24 : lw_okq (⟨"SeenPagesModel", "of", "(II)I"⟩, 11) := ⟨⟨by decide +kernel, by decide +kernel⟩, List.mem_of_getElem? (i := 685) (by decide +kernel), List.mem_of_getElem? (i := 755) (by decide +kernel), List.mem_of_getElem? (i := 756) (by decide +kernel)⟩
theorem lw_p25 : lw_okq (⟨"SeenPagesModel", "lowestEmpty", "()I"⟩, 11) := ⟨⟨by decide +kernel, by decide +kernel⟩, List.mem_of_getElem? (i := 685) (by decide +kernel), List.mem_of_getElem? (i := 759) (by decide +kernel), List.mem_of_getElem? (i := 760) (by decide +kernel)⟩
theorem lw_p26 : lw_okq (⟨"SeenPagesModel", "saves", "()V"⟩, 11) := ⟨⟨by decide +kernel, by decide +kernel⟩, List.mem_of_getElem? (i := 685) (by decide +kernel), List.mem_of_getElem? (i := 763) (by decide +kernel), List.mem_of_getElem? (i := 764) (by decide +kernel)⟩
theorem lw_p27 : lw_okq (⟨"SeenPagesModel", "changes", "(III)I"⟩, 11) := ⟨⟨by decide +kernel, by decide +kernel⟩, List.mem_of_getElem? (i := 685) (by decide +kernel), List.mem_of_getElem? (i := 767) (by decide +kernel), List.mem_of_getElem? (i := 768) (by decide +kernel)⟩
theorem lw_p28 : lw_okq (⟨"SeenPagesModel", "goes", "(I)V"⟩, 11) := ⟨⟨by decide +kernel, by decide +kernel⟩, List.mem_of_getElem? (i := 685) (by decide +kernel), List.mem_of_getElem? (i := 771) (by decide +kernel), List.mem_of_getElem? (i := 772) (by decide +kernel)⟩
theorem lw_p29 : lw_okq (⟨"SeenPagesModel", "unmarks", "(I)V"⟩, 11) := ⟨⟨by decide +kernel, by decide +kernel⟩, List.mem_of_getElem? (i := 685) (by decide +kernel), List.mem_of_getElem? (i := 775) (by decide +kernel), List.mem_of_getElem? (i := 776) (by decide +kernel)⟩
theorem lw_p30 : lw_okq (⟨"SeenPagesModel", "comes", "(II)V"⟩, 11) := ⟨⟨by decide +kernel, by decide +kernel⟩, List.mem_of_getElem? (i := 685) (by decide +kernel), List.mem_of_getElem? (i := 779) (by decide +kernel), List.mem_of_getElem? (i := 780) (by decide +kernel)⟩
theorem lw_p31 : lw_okq (⟨"SeenPagesModel", "lay", "(IIII)V"⟩, 11) := ⟨⟨by decide +kernel, by decide +kernel⟩, List.mem_of_getElem? (i := 685) (by decide +kernel), List.mem_of_getElem? (i := 783) (by decide +kernel), List.mem_of_getElem? (i := 784) (by decide +kernel)⟩
def lw_privs_2 : List (MethodName × Nat) := [(⟨"java/lang/Throwable", "fillInStackTrace", "(I)Ljava/lang/Throwable;"⟩, 6), (⟨"SeenPages$Table", "come", "(II)V"⟩, 6), (⟨"SeenPages$Table", "go", "(I)V"⟩, 6), (⟨"SeenPages", "makeParts", "()I"⟩, 3), (⟨"SeenPagesModel", "fails", "(I)I"⟩, 11), (⟨"SeenPagesModel", "canChange", "(II)Z"⟩, 11), (⟨"SeenPagesModel", "isSeen", "(II)Z"⟩, 11), (⟨"SeenPagesModel", "isFull", "(I)Z"⟩, 11), (⟨"SeenPagesModel", "of", "(II)I"⟩, 11), (⟨"SeenPagesModel", "lowestEmpty", "()I"⟩, 11), (⟨"SeenPagesModel", "saves", "()V"⟩, 11), (⟨"SeenPagesModel", "changes", "(III)I"⟩, 11), (⟨"SeenPagesModel", "goes", "(I)V"⟩, 11), (⟨"SeenPagesModel", "unmarks", "(I)V"⟩, 11), (⟨"SeenPagesModel", "comes", "(II)V"⟩, 11), (⟨"SeenPagesModel", "lay", "(IIII)V"⟩, 11)]
theorem lw_r2 : ∀ q ∈ lw_privs_2, lw_okq q := List.forall_mem_cons.mpr ⟨lw_p16, List.forall_mem_cons.mpr ⟨lw_p17, List.forall_mem_cons.mpr ⟨lw_p18, List.forall_mem_cons.mpr ⟨lw_p19, List.forall_mem_cons.mpr ⟨lw_p20, List.forall_mem_cons.mpr ⟨lw_p21, List.forall_mem_cons.mpr ⟨lw_p22, List.forall_mem_cons.mpr ⟨lw_p23, List.forall_mem_cons.mpr ⟨lw_p24, List.forall_mem_cons.mpr ⟨lw_p25, List.forall_mem_cons.mpr ⟨lw_p26, List.forall_mem_cons.mpr ⟨lw_p27, List.forall_mem_cons.mpr ⟨lw_p28, List.forall_mem_cons.mpr ⟨lw_p29, List.forall_mem_cons.mpr ⟨lw_p30, List.forall_mem_cons.mpr ⟨lw_p31, fun _ h => absurd h List.not_mem_nil⟩⟩⟩⟩⟩⟩⟩⟩⟩⟩⟩⟩⟩⟩⟩⟩
theorem lw_p32 : lw_okq (⟨"SeenPagesModel", "snapshotOf", "(I)I"⟩, 11) := ⟨⟨by decide +kernel, by decide +kernel⟩, List.mem_of_getElem? (i := 685) (by decide +kernel), List.mem_of_getElem? (i := 806) (by decide +kernel), List.mem_of_getElem? (i := 807) (by decide +kernel)⟩
theorem lw_p33 : lw_okq (⟨"SeenPagesModel", "sweeps", "(I)I"⟩, 11) := ⟨⟨by decide +kernel, by decide +kernel⟩, List.mem_of_getElem? (i := 685) (by decide +kernel), List.mem_of_getElem? (i := 817) (by decide +kernel), List.mem_of_getElem? (i := 818) (by decide +kernel)⟩
theorem lw_p34 : lw_okq (⟨"SeenPagesModel", "horizon", "()I"⟩, 11) := ⟨⟨by decide +kernel, by decide +kernel⟩, List.mem_of_getElem? (i := 685) (by decide +kernel), List.mem_of_getElem? (i := 821) (by decide +kernel), List.mem_of_getElem? (i := 822) (by decide +kernel)⟩
theorem lw_p35 : lw_okq (⟨"SeenPagesModel", "horizonBut", "(I)I"⟩, 11) := ⟨⟨by decide +kernel, by decide +kernel⟩, List.mem_of_getElem? (i := 685) (by decide +kernel), List.mem_of_getElem? (i := 825) (by decide +kernel), List.mem_of_getElem? (i := 826) (by decide +kernel)⟩
theorem lw_p36 : lw_okq (⟨"SeenPagesModel", "oldIn", "(II)I"⟩, 11) := ⟨⟨by decide +kernel, by decide +kernel⟩, List.mem_of_getElem? (i := 685) (by decide +kernel), List.mem_of_getElem? (i := 829) (by decide +kernel), List.mem_of_getElem? (i := 830) (by decide +kernel)⟩
theorem lw_p37 : lw_okq (⟨"SeenPagesModel", "isOld", "(II)Z"⟩, 11) := ⟨⟨by decide +kernel, by decide +kernel⟩, List.mem_of_getElem? (i := 685) (by decide +kernel), List.mem_of_getElem? (i := 833) (by decide +kernel), List.mem_of_getElem? (i := 834) (by decide +kernel)⟩
theorem lw_p38 : lw_okq (⟨"SeenPagesModel", "markedPages", "()I"⟩, 11) := ⟨⟨by decide +kernel, by decide +kernel⟩, List.mem_of_getElem? (i := 685) (by decide +kernel), List.mem_of_getElem? (i := 841) (by decide +kernel), List.mem_of_getElem? (i := 842) (by decide +kernel)⟩
theorem lw_p39 : lw_okq (⟨"SeenPagesModel", "ofPage", "(II)I"⟩, 11) := ⟨⟨by decide +kernel, by decide +kernel⟩, List.mem_of_getElem? (i := 685) (by decide +kernel), List.mem_of_getElem? (i := 845) (by decide +kernel), List.mem_of_getElem? (i := 846) (by decide +kernel)⟩
theorem lw_p40 : lw_okq (⟨"SeenPagesModel", "truly", "(II)I"⟩, 11) := ⟨⟨by decide +kernel, by decide +kernel⟩, List.mem_of_getElem? (i := 685) (by decide +kernel), List.mem_of_getElem? (i := 853) (by decide +kernel), List.mem_of_getElem? (i := 854) (by decide +kernel)⟩
theorem lw_p41 : lw_okq (⟨"SeenPagesModel", "greatestMark", "()I"⟩, 11) := ⟨⟨by decide +kernel, by decide +kernel⟩, List.mem_of_getElem? (i := 685) (by decide +kernel), List.mem_of_getElem? (i := 857) (by decide +kernel), List.mem_of_getElem? (i := 858) (by decide +kernel)⟩
theorem lw_p42 : lw_okq (⟨"SeenPagesModel", "costs", "(III)I"⟩, 11) := ⟨⟨by decide +kernel, by decide +kernel⟩, List.mem_of_getElem? (i := 685) (by decide +kernel), List.mem_of_getElem? (i := 861) (by decide +kernel), List.mem_of_getElem? (i := 862) (by decide +kernel)⟩
theorem lw_p43 : lw_okq (⟨"SeenPagesModel", "hasIn", "(II)Z"⟩, 11) := ⟨⟨by decide +kernel, by decide +kernel⟩, List.mem_of_getElem? (i := 685) (by decide +kernel), List.mem_of_getElem? (i := 865) (by decide +kernel), List.mem_of_getElem? (i := 866) (by decide +kernel)⟩
theorem lw_p44 : lw_okq (⟨"SeenPagesModel", "hasValue", "(II)Z"⟩, 11) := ⟨⟨by decide +kernel, by decide +kernel⟩, List.mem_of_getElem? (i := 685) (by decide +kernel), List.mem_of_getElem? (i := 869) (by decide +kernel), List.mem_of_getElem? (i := 870) (by decide +kernel)⟩
theorem lw_p45 : lw_okq (⟨"SeenPagesModel", "answers", "(III)I"⟩, 11) := ⟨⟨by decide +kernel, by decide +kernel⟩, List.mem_of_getElem? (i := 685) (by decide +kernel), List.mem_of_getElem? (i := 873) (by decide +kernel), List.mem_of_getElem? (i := 874) (by decide +kernel)⟩
theorem lw_p46 : lw_okq (⟨"SeenPagesModel", "readsAll", "()V"⟩, 11) := ⟨⟨by decide +kernel, by decide +kernel⟩, List.mem_of_getElem? (i := 685) (by decide +kernel), List.mem_of_getElem? (i := 889) (by decide +kernel), List.mem_of_getElem? (i := 890) (by decide +kernel)⟩
theorem lw_p47 : lw_okq (⟨"SeenPagesModel", "readsChange", "()V"⟩, 11) := ⟨⟨by decide +kernel, by decide +kernel⟩, List.mem_of_getElem? (i := 685) (by decide +kernel), List.mem_of_getElem? (i := 893) (by decide +kernel), List.mem_of_getElem? (i := 894) (by decide +kernel)⟩
def lw_privs_3 : List (MethodName × Nat) := [(⟨"SeenPagesModel", "snapshotOf", "(I)I"⟩, 11), (⟨"SeenPagesModel", "sweeps", "(I)I"⟩, 11), (⟨"SeenPagesModel", "horizon", "()I"⟩, 11), (⟨"SeenPagesModel", "horizonBut", "(I)I"⟩, 11), (⟨"SeenPagesModel", "oldIn", "(II)I"⟩, 11), (⟨"SeenPagesModel", "isOld", "(II)Z"⟩, 11), (⟨"SeenPagesModel", "markedPages", "()I"⟩, 11), (⟨"SeenPagesModel", "ofPage", "(II)I"⟩, 11), (⟨"SeenPagesModel", "truly", "(II)I"⟩, 11), (⟨"SeenPagesModel", "greatestMark", "()I"⟩, 11), (⟨"SeenPagesModel", "costs", "(III)I"⟩, 11), (⟨"SeenPagesModel", "hasIn", "(II)Z"⟩, 11), (⟨"SeenPagesModel", "hasValue", "(II)Z"⟩, 11), (⟨"SeenPagesModel", "answers", "(III)I"⟩, 11), (⟨"SeenPagesModel", "readsAll", "()V"⟩, 11), (⟨"SeenPagesModel", "readsChange", "()V"⟩, 11)]
theorem lw_r3 : ∀ q ∈ lw_privs_3, lw_okq q := List.forall_mem_cons.mpr ⟨lw_p32, List.forall_mem_cons.mpr ⟨lw_p33, List.forall_mem_cons.mpr ⟨lw_p34, List.forall_mem_cons.mpr ⟨lw_p35, List.forall_mem_cons.mpr ⟨lw_p36, List.forall_mem_cons.mpr ⟨lw_p37, List.forall_mem_cons.mpr ⟨lw_p38, List.forall_mem_cons.mpr ⟨lw_p39, List.forall_mem_cons.mpr ⟨lw_p40, List.forall_mem_cons.mpr ⟨lw_p41, List.forall_mem_cons.mpr ⟨lw_p42, List.forall_mem_cons.mpr ⟨lw_p43, List.forall_mem_cons.mpr ⟨lw_p44, List.forall_mem_cons.mpr ⟨lw_p45, List.forall_mem_cons.mpr ⟨lw_p46, List.forall_mem_cons.mpr ⟨lw_p47, fun _ h => absurd h List.not_mem_nil⟩⟩⟩⟩⟩⟩⟩⟩⟩⟩⟩⟩⟩⟩⟩⟩
theorem lw_p48 : lw_okq (⟨"SeenPagesModel", "sign", "()I"⟩, 11) := ⟨⟨by decide +kernel, by decide +kernel⟩, List.mem_of_getElem? (i := 685) (by decide +kernel), List.mem_of_getElem? (i := 897) (by decide +kernel), List.mem_of_getElem? (i := 898) (by decide +kernel)⟩
theorem lw_p49 : lw_okq (⟨"SeenPagesModel", "digit", "(I)I"⟩, 11) := ⟨⟨by decide +kernel, by decide +kernel⟩, List.mem_of_getElem? (i := 685) (by decide +kernel), List.mem_of_getElem? (i := 901) (by decide +kernel), List.mem_of_getElem? (i := 902) (by decide +kernel)⟩
theorem lw_p50 : lw_okq (⟨"SeenPagesModel", "placeRead", "()I"⟩, 11) := ⟨⟨by decide +kernel, by decide +kernel⟩, List.mem_of_getElem? (i := 685) (by decide +kernel), List.mem_of_getElem? (i := 905) (by decide +kernel), List.mem_of_getElem? (i := 906) (by decide +kernel)⟩
theorem lw_p51 : lw_okq (⟨"SeenPagesModel", "makes", "(I)Z"⟩, 11) := ⟨⟨by decide +kernel, by decide +kernel⟩, List.mem_of_getElem? (i := 685) (by decide +kernel), List.mem_of_getElem? (i := 913) (by decide +kernel), List.mem_of_getElem? (i := 914) (by decide +kernel)⟩
theorem lw_p52 : lw_okq (⟨"SeenPagesModel", "tellsSlot", "(II)I"⟩, 11) := ⟨⟨by decide +kernel, by decide +kernel⟩, List.mem_of_getElem? (i := 685) (by decide +kernel), List.mem_of_getElem? (i := 925) (by decide +kernel), List.mem_of_getElem? (i := 926) (by decide +kernel)⟩
theorem lw_p53 : lw_okq (⟨"SeenPagesModel", "tellsPage", "(II)I"⟩, 11) := ⟨⟨by decide +kernel, by decide +kernel⟩, List.mem_of_getElem? (i := 685) (by decide +kernel), List.mem_of_getElem? (i := 933) (by decide +kernel), List.mem_of_getElem? (i := 934) (by decide +kernel)⟩
theorem lw_p54 : lw_okq (⟨"SeenPagesModel", "versions", "(IIZI)I"⟩, 11) := ⟨⟨by decide +kernel, by decide +kernel⟩, List.mem_of_getElem? (i := 685) (by decide +kernel), List.mem_of_getElem? (i := 937) (by decide +kernel), List.mem_of_getElem? (i := 938) (by decide +kernel)⟩
theorem lw_p55 : lw_okq (⟨"SeenPagesModel", "tellsAsker", "(II)I"⟩, 11) := ⟨⟨by decide +kernel, by decide +kernel⟩, List.mem_of_getElem? (i := 685) (by decide +kernel), List.mem_of_getElem? (i := 945) (by decide +kernel), List.mem_of_getElem? (i := 946) (by decide +kernel)⟩
theorem lw_p56 : lw_okq (⟨"SeenPagesModel", "tellsCount", "(I)I"⟩, 11) := ⟨⟨by decide +kernel, by decide +kernel⟩, List.mem_of_getElem? (i := 685) (by decide +kernel), List.mem_of_getElem? (i := 953) (by decide +kernel), List.mem_of_getElem? (i := 954) (by decide +kernel)⟩
theorem lw_p57 : lw_okq (⟨"SeenPagesModel", "tellsLies", "(I)I"⟩, 11) := ⟨⟨by decide +kernel, by decide +kernel⟩, List.mem_of_getElem? (i := 685) (by decide +kernel), List.mem_of_getElem? (i := 965) (by decide +kernel), List.mem_of_getElem? (i := 966) (by decide +kernel)⟩
theorem lw_p58 : lw_okq (⟨"SeenPagesModel", "cheapestWay", "(I)I"⟩, 11) := ⟨⟨by decide +kernel, by decide +kernel⟩, List.mem_of_getElem? (i := 685) (by decide +kernel), List.mem_of_getElem? (i := 973) (by decide +kernel), List.mem_of_getElem? (i := 974) (by decide +kernel)⟩
theorem lw_p59 : lw_okq (⟨"SeenPagesModel", "holderNow", "()I"⟩, 11) := ⟨⟨by decide +kernel, by decide +kernel⟩, List.mem_of_getElem? (i := 685) (by decide +kernel), List.mem_of_getElem? (i := 981) (by decide +kernel), List.mem_of_getElem? (i := 982) (by decide +kernel)⟩
theorem lw_p60 : lw_okq (⟨"SeenPagesModel", "oldOnes", "(I)I"⟩, 11) := ⟨⟨by decide +kernel, by decide +kernel⟩, List.mem_of_getElem? (i := 685) (by decide +kernel), List.mem_of_getElem? (i := 985) (by decide +kernel), List.mem_of_getElem? (i := 986) (by decide +kernel)⟩
theorem lw_p61 : lw_okq (⟨"SeenPagesModel", "share", "()D"⟩, 11) := ⟨⟨by decide +kernel, by decide +kernel⟩, List.mem_of_getElem? (i := 685) (by decide +kernel), List.mem_of_getElem? (i := 993) (by decide +kernel), List.mem_of_getElem? (i := 994) (by decide +kernel)⟩
theorem lw_p62 : lw_okq (⟨"SeenPagesModel", "hashes", "(J)V"⟩, 11) := ⟨⟨by decide +kernel, by decide +kernel⟩, List.mem_of_getElem? (i := 685) (by decide +kernel), List.mem_of_getElem? (i := 1003) (by decide +kernel), List.mem_of_getElem? (i := 1004) (by decide +kernel)⟩
theorem lw_p63 : lw_okq (⟨"SeenPagesModel", "hashesValue", "(I)V"⟩, 11) := ⟨⟨by decide +kernel, by decide +kernel⟩, List.mem_of_getElem? (i := 685) (by decide +kernel), List.mem_of_getElem? (i := 1008) (by decide +kernel), List.mem_of_getElem? (i := 1009) (by decide +kernel)⟩
def lw_privs_4 : List (MethodName × Nat) := [(⟨"SeenPagesModel", "sign", "()I"⟩, 11), (⟨"SeenPagesModel", "digit", "(I)I"⟩, 11), (⟨"SeenPagesModel", "placeRead", "()I"⟩, 11), (⟨"SeenPagesModel", "makes", "(I)Z"⟩, 11), (⟨"SeenPagesModel", "tellsSlot", "(II)I"⟩, 11), (⟨"SeenPagesModel", "tellsPage", "(II)I"⟩, 11), (⟨"SeenPagesModel", "versions", "(IIZI)I"⟩, 11), (⟨"SeenPagesModel", "tellsAsker", "(II)I"⟩, 11), (⟨"SeenPagesModel", "tellsCount", "(I)I"⟩, 11), (⟨"SeenPagesModel", "tellsLies", "(I)I"⟩, 11), (⟨"SeenPagesModel", "cheapestWay", "(I)I"⟩, 11), (⟨"SeenPagesModel", "holderNow", "()I"⟩, 11), (⟨"SeenPagesModel", "oldOnes", "(I)I"⟩, 11), (⟨"SeenPagesModel", "share", "()D"⟩, 11), (⟨"SeenPagesModel", "hashes", "(J)V"⟩, 11), (⟨"SeenPagesModel", "hashesValue", "(I)V"⟩, 11)]
theorem lw_r4 : ∀ q ∈ lw_privs_4, lw_okq q := List.forall_mem_cons.mpr ⟨lw_p48, List.forall_mem_cons.mpr ⟨lw_p49, List.forall_mem_cons.mpr ⟨lw_p50, List.forall_mem_cons.mpr ⟨lw_p51, List.forall_mem_cons.mpr ⟨lw_p52, List.forall_mem_cons.mpr ⟨lw_p53, List.forall_mem_cons.mpr ⟨lw_p54, List.forall_mem_cons.mpr ⟨lw_p55, List.forall_mem_cons.mpr ⟨lw_p56, List.forall_mem_cons.mpr ⟨lw_p57, List.forall_mem_cons.mpr ⟨lw_p58, List.forall_mem_cons.mpr ⟨lw_p59, List.forall_mem_cons.mpr ⟨lw_p60, List.forall_mem_cons.mpr ⟨lw_p61, List.forall_mem_cons.mpr ⟨lw_p62, List.forall_mem_cons.mpr ⟨lw_p63, fun _ h => absurd h List.not_mem_nil⟩⟩⟩⟩⟩⟩⟩⟩⟩⟩⟩⟩⟩⟩⟩⟩
def lw_privs : List (MethodName × Nat) := lw_privs_1 ++ (lw_privs_2 ++ (lw_privs_3 ++ (lw_privs_4)))
def lw_tbl : List Cond := k2_sels lw_privs ++ tables_1
theorem lw_privs_ok : ∀ q ∈ lw_privs, lw_okq q := by
  show ∀ q ∈ lw_privs_1 ++ (lw_privs_2 ++ (lw_privs_3 ++ (lw_privs_4))), lw_okq q
  exact List.forall_mem_append.mpr ⟨lw_r1, List.forall_mem_append.mpr ⟨lw_r2, List.forall_mem_append.mpr ⟨lw_r3, lw_r4⟩⟩⟩
/-- the streams that the claim lets the run draw from -/
abbrev lw_cs : List Choice := [Jvm.Choice.named "NaN.bits"]
theorem lw_bits : nanBits ∈ lw_cs := by first | decide | exact List.mem_cons_self | simp [lw_cs, nanBits]
-- ===== end of PART A; then your names; then what follows =====
end
section
/-! ===== BEGIN words of one list among another's, by their places ===== -/
theorem goodIn_r {big : List Cond} (ws : List Cond) (ps : List Nat) (hp : ws = ps.filterMap (fun i => big[i]?)) (h : ws.all goodWord = true) : GoodIn big ws := by
  intro w hw
  have h1 := List.all_eq_true.mp h w hw
  rw [hp] at hw
  obtain ⟨i, -, hi⟩ := List.mem_filterMap.mp hw
  have hm : w ∈ big := by first | exact List.mem_of_getElem? hi | exact List.getElem?_mem hi
  exact ⟨hm, good_of_word h1⟩
theorem goodIn_app {big a b : List Cond} (ha : GoodIn big a) (hb : GoodIn big b) : GoodIn big (a ++ b) := fun w h => (List.mem_append.mp h).elim (ha w) (hb w)
theorem goodIn_ca {big a b : List Cond} {c : Cond} (ha : GoodIn big (c :: a)) (hb : GoodIn big b) : GoodIn big (c :: (a ++ b)) := fun w h => (List.mem_cons.mp h).elim (fun e => ha w (List.mem_cons.mpr (Or.inl e))) (fun h => (List.mem_append.mp h).elim (fun h => ha w (List.mem_cons.mpr (Or.inr h))) (hb w))
theorem goodIn_sub {big ws : List Cond} (hm : ∀ w ∈ ws, w ∈ big) (h : ws.all goodWord = true) : GoodIn big ws := fun w hw => ⟨hm w hw, good_of_word (List.all_eq_true.mp h w hw)⟩
/-! ===== END ===== -/

/-! ===== BEGIN exceptions that leave a method, and their catching by the caller (launches without stack traces) ===== -/
section VXA
/-! The laws vx_back, vx_callV, vx_callS, vx_callSW, vx_throw0, vx_throwS follow proofs of the library, with one case more: JvmDerived/Free/Laws.lean (Back.of_free), Shelf42/LK1.lean (callV, callS), Shelf/KitTraced.lean (throwNew0V, throwNewS). -/
/-- where a method has thrown q: the class by its name, the cell, what was written, the world -/
def vx_T (XC : String → State → State → Prop) (st : State) (q : Addr) (t : State) (mc ms : Nat) (free : Addr → Prop) : Prop :=
  ∃ (E : String) (ce : Cell) (L : List Loc), XC E st t ∧ t.heap[q]? = some ce ∧ ce.vm = .none ∧ st.vm.findClass E = some ce.cls ∧ st.WarmedH t.vm ∧ st.sameButNew ({ t with vm := st.vm } : State) L mc ms ∧ ∀ z ∈ L, free z.base
def vx_Q (Qc : Array Value → State → Outcome → State → Prop) (XC : String → State → State → Prop) (mc ms : Nat) (free : Addr → Prop) : Array Value → State → Outcome → State → Prop := fun a st o t =>
  (Qc a st o t ∧ ∃ L, FrameEnd st o t L mc ms ∧ ∀ q ∈ L, free q.base) ∨ ∃ q, o = .threw q ∧ vx_T XC st q t mc ms free
/-- a callee that returns or throws -/
def vx_Met (l : Launch) (y : MethodName) (ws : List Cond) (rm : Room) (Pc : Array Value → State → Prop) (Qc : Array Value → State → Outcome → State → Prop) (XC : String → State → State → Prop) (mc ms : Nat) (free : Addr → Prop) : Prop :=
  MetFree l y (headSpec ws rm) Pc (fun _ _ _ _ _ => True) (vx_Q Qc XC mc ms free)
def vx_Post (XC : String → State → State → Prop) (mc ms : Nat) (free : Addr → Prop) : Pt → Array Value → Addr → Pt → Prop := fun A a q B =>
  ∃ (g : JFrame) (mk : MethodId) (t : State) (L : List Loc) (E : String) (ce : Cell), B.U.heap = t.heap ∧ B.U.vm = t.vm ∧ XC E (A.U.calling g mk a) t ∧ t.heap[q]? = some ce ∧ ce.vm = .none ∧ A.U.vm.findClass E = some ce.cls ∧ B.locs = A.locs ++ L ∧ (∀ z ∈ L, free z.base) ∧ B.cells = A.cells + mc ∧ B.slots = A.slots + ms
def vx_Back (l : Launch) (R : Room) (p : Program) (e : Env) (below : List Frame) (s : State) (sargs : Array Value) (y : MethodName) (len W9 : Nat)
    (Pre : Pt → Array Value → Prop) (Post : Pt → Array Value → Option Value → Pt → Prop) (PostX : Pt → Array Value → Addr → Pt → Prop) : Prop :=
  ∀ (m : MethodId) (meth : Method) (c : Code) (A : Pt) (g : JFrame) (ig : Instr) (mk : MethodId) (a : Array Value),
    Stand p l e R s m sargs below meth c A.U A.locs A.cells A.slots → g.method = m → g.locals.size = c.maxLocals → decode c.code g.pc = .ok (ig, len) →
    2 * g.monitorRoom + (g.stack.map fun v => v.category).sum ≤ W9 → A.U.methodNamed? y = some mk → Pre A a →
    (∃ (v : Option Value) (B : Pt), Stand p l e R s m sargs below meth c B.U B.locs B.cells B.slots ∧ Post A a v B ∧
      Steps p.tables e below (doInvoke e (A.U.setTop g) [] mk a).1 (B.U.setTop { g with pc := g.pc + len, stack := v.toList ++ g.stack })) ∨
    (∃ (q : Addr) (B : Pt), Stand p l e R s m sargs below meth c B.U B.locs B.cells B.slots ∧ PostX A a q B ∧
      Steps p.tables e below (doInvoke e (A.U.setTop g) [] mk a).1 ((B.U.setTop g).pushFrame (.throwing q)))
section Payer
variable {l : Launch} {R : Room} {p : Program} {e : Env} {below : List Frame} {s : State} {sargs : Array Value} {y : MethodName} {len W9 : Nat}
theorem vx_back {ws : List Cond} {rm : Room} {Pc : Array Value → State → Prop} {Qc : Array Value → State → Outcome → State → Prop} {XC : String → State → State → Prop} {mc ms : Nat} {free : Addr → Prop} {bytes : ByteArray} {maxL : Nat} {ret : Option FieldType}
    (hM : vx_Met l y ws rm Pc Qc XC mc ms free) (hblind : FrameBlind Pc) (hrc : rm.cells = mc) (hrs : rm.slots = ms)
    (hframes : rm.frames + 1 ≤ R.frames) (hlocals : W9 + (maxL + 11) + rm.locals ≤ R.locals)
    (hws : ∀ w ∈ ws, ∀ a' U, s.WarmedH U.vm → w.before a' U = true) (hcode : Cond.code y bytes maxL ret ∈ ws) (hinit : ∀ a' U, s.WarmedH U.vm → (Cond.initialized y.cls).before a' U = true) :
    vx_Back l R p e below s sargs y len W9 (PreOf R mc ms Pc) (PostOf Qc mc ms free) (vx_Post XC mc ms free) := by
  intro m meth c A g ig mk a X hg hsize hdg hW hn hp
  have h1 : (headSpec ws rm).pre.before a A.U = true := atoms_intro fun w hw => hws w hw _ _ X.warmed
  have h2 : (Cond.code y bytes maxL ret).before a A.U = true := hws _ hcode _ _ X.warmed
  have h3 : (Cond.initialized y.cls).before a A.U = true := hinit _ _ X.warmed
  have h4 : A.cells + (headSpec ws rm).room.cells ≤ R.cells := by rw [show (headSpec ws rm).room.cells = mc from hrc]; exact hp.1
  have h5 : A.slots + (headSpec ws rm).room.slots ≤ R.slots := by rw [show (headSpec ws rm).room.slots = ms from hrs]; exact hp.2.1
  have hPc : Pc a (A.U.calling g mk a) := hblind _ _ _ _ hp.2.2
  obtain ⟨U, Ls, c0, s0⟩ := A
  dsimp only [Pt.U, Pt.locs, Pt.cells, Pt.slots] at h1 h2 h3 h4 h5 X hn hPc ⊢
  obtain ⟨methY, cY, hmY, hcY, -, hlY, -, -, -, -⟩ := Cond.code_spec hn h2
  obtain ⟨kY, hkY, -⟩ := className_of_methodNamed hn
  have hinitY : kY.init = .initialized := Cond.initialized_spec (findClass_of_methodNamed hn) hkY h3
  have h : At U g.method c below := by rw [hg]; exact X.here
  have hlocals9 : W9 + (maxL + 11) + (headSpec ws rm).room.locals ≤ R.locals := hlocals
  have happ : (headSpec ws rm).appliesLoose y e.platform (U.calling g mk a) = true :=
    Spec.appliesLoose_calling (g := g) h hdg hn hkY hinitY
      (X.room_calling (g := g) (R' := (headSpec ws rm).room) hsize hmY hcY hframes (by rw [hlY]; omega) h4 h5) h1
  obtain ⟨mid, hmid⟩ := h.above
  have hfr : (U.setTop g).frames = (.java g :: mid) ++ below := by rw [State.frames_setTop' g h.top, hmid]; rfl
  obtain ⟨o, s₂, hsteps, -, hend, hq⟩ := Steps.callFree hM p X.admits X.cas X.clock (acts := []) hfr happ hPc trivial
  have hq' : vx_Q Qc XC mc ms free a (U.calling g mk a) o s₂ := hq
  rw [State.frames_setTop' g h.top] at hend
  obtain ⟨g₀, hg0⟩ := Option.isSome_iff_exists.mp h.top
  obtain ⟨r, hr⟩ := State.topJava?_eq_some.mp hg0
  have hr' : (({ U with heap := s₂.heap, slotsUsed := s₂.slotsUsed } : State).setVm s₂.vm).frames = .java g₀ :: r := hr
  rcases hq' with ⟨hqc, L, hfe, hL⟩ | ⟨q, rfl, E, ce, L, hx, hce, hcv, hcl, hW₂, hsm, hL⟩
  · obtain ⟨⟨v, rfl⟩, hW₂, e2, q2, q3, q4, q5, q6⟩ := id hfe
    have e3 : s₂ = ({ (U.calling g mk a).setFrames s₂.frames with heap := s₂.heap, slotsUsed := s₂.slotsUsed } : State).setVm s₂.vm := by
      have : s₂ = ({ s₂ with vm := (U.calling g mk a).vm } : State).setVm s₂.vm := rfl
      rw [e2] at this
      exact this
    obtain ⟨c₂, i₂, len₂, hc₂, hd₂, hf₂⟩ := hend
    have hW' : U.WarmedH s₂.vm := hW₂
    have hcc : c₂ = c := by
      have h1 : s₂.code? g.method = U.code? g.method := by
        rw [State.code?_eq, State.code?_eq, hW'.alike.method?]
      exact Option.some.inj (hc₂.symm.trans (h1.trans h.code))
    subst hcc
    have hlen : len₂ = len := by rw [hdg] at hd₂; cases hd₂; rfl
    subst hlen
    have hs₂ : s₂ = (({ U with heap := s₂.heap, slotsUsed := s₂.slotsUsed } : State).setVm s₂.vm).setTop { g with pc := g.pc + len₂, stack := v.toList ++ g.stack } := by
      refine e3.trans ?_
      rw [hf₂, State.calling_eq h.top, State.setFrames_setFrames, State.setTop_of_frames _ hr', hr]
      rfl
    have hsame : U.sameButNew ({ U with heap := s₂.heap, slotsUsed := s₂.slotsUsed } : State) L mc ms := by
      refine ⟨?_, q2, q3, q4, q5, q6⟩
      obtain ⟨t, ht, -⟩ := State.frames_cons hr
      show ({ U with heap := s₂.heap, slotsUsed := s₂.slotsUsed } : State) = { U.setFrames U.frames with heap := s₂.heap, slotsUsed := s₂.slotsUsed }
      rw [State.setFrames_self ht]
    subst hg
    refine Or.inl ⟨v, ⟨(({ U with heap := s₂.heap, slotsUsed := s₂.slotsUsed } : State).setVm s₂.vm), Ls ++ L, c0 + mc, s0 + ms⟩,
      ⟨X.admits, X.cas, X.clock, X.frames, X.room, X.hears, X.method, X.code, (X.here.setHeapUsed s₂.heap s₂.slotsUsed).setVm hW'.alike, X.tail, State.WarmedH.trans X.warmed hW', X.limits, X.bytes, X.same.trans (hsame.setVm s.vm)⟩,
      ⟨g, mk, s₂, L, rfl, rfl, hqc, rfl, hL, rfl, rfl⟩, ?_⟩
    show Steps p.tables e below _ ((({ U with heap := s₂.heap, slotsUsed := s₂.slotsUsed } : State).setVm s₂.vm).setTop { g with pc := g.pc + len₂, stack := v.toList ++ g.stack })
    rw [← hs₂]
    exact hsteps
  · obtain ⟨e2, q2, q3, q4, q5, q6⟩ := id hsm
    have e3 : s₂ = ({ (U.calling g mk a).setFrames s₂.frames with heap := s₂.heap, slotsUsed := s₂.slotsUsed } : State).setVm s₂.vm := by
      have : s₂ = ({ s₂ with vm := (U.calling g mk a).vm } : State).setVm s₂.vm := rfl
      rw [e2] at this
      exact this
    have hf₂ : s₂.frames = .throwing q :: .java g :: U.frames.tail := hend
    have hW' : U.WarmedH s₂.vm := hW₂
    have hs₂ : s₂ = ((({ U with heap := s₂.heap, slotsUsed := s₂.slotsUsed } : State).setVm s₂.vm).setTop g).pushFrame (.throwing q) := by
      refine e3.trans ?_
      rw [hf₂, State.calling_eq h.top, State.setFrames_setFrames, State.pushFrame, State.frames_setTop _ hr', State.setTop_of_frames _ hr', State.setFrames_setFrames, hr]
      rfl
    have hsame : U.sameButNew ({ U with heap := s₂.heap, slotsUsed := s₂.slotsUsed } : State) L mc ms := by
      refine ⟨?_, q2, q3, q4, q5, q6⟩
      obtain ⟨t, ht, -⟩ := State.frames_cons hr
      show ({ U with heap := s₂.heap, slotsUsed := s₂.slotsUsed } : State) = { U.setFrames U.frames with heap := s₂.heap, slotsUsed := s₂.slotsUsed }
      rw [State.setFrames_self ht]
    subst hg
    refine Or.inr ⟨q, ⟨(({ U with heap := s₂.heap, slotsUsed := s₂.slotsUsed } : State).setVm s₂.vm), Ls ++ L, c0 + mc, s0 + ms⟩,
      ⟨X.admits, X.cas, X.clock, X.frames, X.room, X.hears, X.method, X.code, (X.here.setHeapUsed s₂.heap s₂.slotsUsed).setVm hW'.alike, X.tail, State.WarmedH.trans X.warmed hW', X.limits, X.bytes, X.same.trans (hsame.setVm s.vm)⟩,
      ⟨g, mk, s₂, L, E, ce, rfl, rfl, hx, hce, hcv, hcl, rfl, hL, rfl, rfl⟩, ?_⟩
    show Steps p.tables e below _ (((({ U with heap := s₂.heap, slotsUsed := s₂.slotsUsed } : State).setVm s₂.vm).setTop g).pushFrame (.throwing q))
    rw [← hs₂]
    exact hsteps
end Payer
section Calls
variable {p : Program} {l : Launch} {e : Env} {R : Room} {s : State} {m : MethodId} {args : Array Value} {below : List Frame} {meth : Method} {c : Code} {T : State} {locs : List Loc} {cells slots : Nat}
theorem vx_callV (X : Stand p l e R s m args below meth c T locs cells slots) (hexec : p.tables.exec = Jvm.exec) {own C : String} {index : Nat} {y : MethodName} {bytes : ByteArray} {maxL : Nat} {ret : Option FieldType}
    (hown : s.vm.findClass own = some m.cls) (hlink : (Cond.methodLink own index y).before args s = true) (hinst : (Cond.instanceMethod y).before args s = true) (hsel : (Cond.selects C y y).before args s = true)
    (hcode : (Cond.code y bytes maxL ret).before args s = true) (hy : y.cls ≠ "java/lang/invoke/MethodHandle" ∧ y.cls ≠ "java/lang/invoke/VarHandle")
    {W9 : Nat} {Pre : Pt → Array Value → Prop} {Post : Pt → Array Value → Option Value → Pt → Prop} {PostX : Pt → Array Value → Addr → Pt → Prop} (hK : vx_Back l R p e below s args y 3 W9 Pre Post PostX)
    {b : Addr} {cellB : Cell} (hcell : T.heap[b]? = some cellB) (hobj : cellB.vm.isStatics = false) (hcls : s.vm.findClass C = some cellB.cls)
    {g : JFrame} (hg : g.method = m) (hsize : g.locals.size = c.maxLocals) {argsL rest : List Value} (hlen : ∀ sig, parseMethodDescriptor y.desc = some sig → argsL.length = sig.parameters.length)
    (hstack : g.stack = argsL.reverse ++ .ref b :: rest) (hW : 2 * g.monitorRoom + (rest.map fun v => v.category).sum ≤ W9) (hdg : decode c.code g.pc = .ok (.invokevirtual index, 3))
    (hpre : ∀ vm₁, s.WarmedH vm₁ → Pre ⟨T.setVm vm₁, locs, cells, slots⟩ (Value.ref b :: argsL).toArray) :
    (∃ (v : Option Value) (vm₁ : Vm) (B : Pt), s.WarmedH vm₁ ∧ Stand p l e R s m args below meth c B.U B.locs B.cells B.slots ∧ Post ⟨T.setVm vm₁, locs, cells, slots⟩ (Value.ref b :: argsL).toArray v B ∧
      ∀ target, Steps p.tables e below (B.U.setTop { g with pc := g.pc + 3, stack := v.toList ++ rest }) target → Steps p.tables e below (T.setTop g) target) ∨
    (∃ (q : Addr) (vm₁ : Vm) (B : Pt), s.WarmedH vm₁ ∧ Stand p l e R s m args below meth c B.U B.locs B.cells B.slots ∧ PostX ⟨T.setVm vm₁, locs, cells, slots⟩ (Value.ref b :: argsL).toArray q B ∧
      Steps p.tables e below (T.setTop g) ((B.U.setTop { g with stack := rest }).pushFrame (.throwing q))) := by
  obtain ⟨mk, methM, hnamed, hmethM, hstM, habM⟩ := Cond.instanceMethod_spec hinst
  obtain ⟨methM', cM, hmethM', -, -, -, -, -, -, hsigM⟩ := Cond.code_spec hnamed hcode
  cases hmethM.symm.trans hmethM'
  obtain ⟨c2, r2, m2, q1, q2, q3, q4, kP, hkP, hkPi⟩ := Cond.selects_spec hsel
  cases hcls.symm.trans q1
  cases (State.methodFound?_of_named hnamed hy).symm.trans q2
  cases hnamed.symm.trans q3
  have hselP : selectMethod e.platform s.vm cellB.cls mk = .method mk := by rw [Launch.admits_selectMethod X.admits]; exact q4
  obtain ⟨vm₁, X₁, hstep₁⟩ := X.invokevirtual hexec hown hlink hnamed hmethM hstM hkP hkPi hy (a := b) (cell := cellB) hcell
    (fun z h => by rw [h] at hobj; cases hobj) hselP hmethM habM hkP hkPi (g := g) hg (argsL := argsL) (rest := rest) (hlen _ hsigM) hstack hdg
  rcases hK m meth c ⟨T.setVm vm₁, locs, cells, slots⟩ { g with stack := rest } (.invokevirtual index) mk (Value.ref b :: argsL).toArray X₁ hg hsize hdg hW (X₁.named hnamed) (hpre vm₁ X₁.warmed) with ⟨v, B, X', hpost, hsteps⟩ | ⟨q, B, X', hpost, hsteps⟩
  · exact Or.inl ⟨v, vm₁, B, X₁.warmed, X', hpost, fun target h => hstep₁ _ fun acts => by rw [doInvoke_state]; exact hsteps.trans h⟩
  · exact Or.inr ⟨q, vm₁, B, X₁.warmed, X', hpost, hstep₁ _ fun acts => by rw [doInvoke_state]; exact hsteps⟩
theorem vx_callS (X : Stand p l e R s m args below meth c T locs cells slots) (hexec : p.tables.exec = Jvm.exec) {own : String} {index : Nat} {y : MethodName} {bytes : ByteArray} {maxL : Nat} {ret : Option FieldType}
    (hown : s.vm.findClass own = some m.cls) (hlink : (Cond.methodLink own index y).before args s = true) (hstat : (Cond.static y).before args s = true) (hinit : (Cond.initialized y.cls).before args s = true)
    (hcode : (Cond.code y bytes maxL ret).before args s = true) (hy : y.cls ≠ "java/lang/invoke/MethodHandle" ∧ y.cls ≠ "java/lang/invoke/VarHandle")
    {W9 : Nat} {Pre : Pt → Array Value → Prop} {Post : Pt → Array Value → Option Value → Pt → Prop} {PostX : Pt → Array Value → Addr → Pt → Prop} (hK : vx_Back l R p e below s args y 3 W9 Pre Post PostX)
    {g : JFrame} (hg : g.method = m) (hsize : g.locals.size = c.maxLocals) {argsL rest : List Value} (hlen : ∀ sig, parseMethodDescriptor y.desc = some sig → argsL.length = sig.parameters.length)
    (hstack : g.stack = argsL.reverse ++ rest) (hW : 2 * g.monitorRoom + (rest.map fun v => v.category).sum ≤ W9) (hdg : decode c.code g.pc = .ok (.invokestatic index, 3))
    (hpre : ∀ vm₁, s.WarmedH vm₁ → Pre ⟨T.setVm vm₁, locs, cells, slots⟩ argsL.toArray) :
    (∃ (v : Option Value) (vm₁ : Vm) (B : Pt), s.WarmedH vm₁ ∧ Stand p l e R s m args below meth c B.U B.locs B.cells B.slots ∧ Post ⟨T.setVm vm₁, locs, cells, slots⟩ argsL.toArray v B ∧
      ∀ target, Steps p.tables e below (B.U.setTop { g with pc := g.pc + 3, stack := v.toList ++ rest }) target → Steps p.tables e below (T.setTop g) target) ∨
    (∃ (q : Addr) (vm₁ : Vm) (B : Pt), s.WarmedH vm₁ ∧ Stand p l e R s m args below meth c B.U B.locs B.cells B.slots ∧ PostX ⟨T.setVm vm₁, locs, cells, slots⟩ argsL.toArray q B ∧
      Steps p.tables e below (T.setTop g) ((B.U.setTop { g with stack := rest }).pushFrame (.throwing q))) := by
  obtain ⟨mk, hnamed⟩ := Cond.code_named hcode
  obtain ⟨methM, cM, hmethM, -, -, -, -, -, -, hsigM⟩ := Cond.code_spec hnamed hcode
  have hstatic : methM.isStatic = true := Cond.static_spec hnamed hmethM hstat
  obtain ⟨kP, hkP, -⟩ := className_of_methodNamed hnamed
  have hinitP : kP.init = .initialized := Cond.initialized_spec (findClass_of_methodNamed hnamed) hkP hinit
  obtain ⟨vm₁, X₁, hstep₁⟩ := X.invokestatic hexec hown hlink hnamed hmethM hstatic hkP hinitP hy (g := g) hg (argsL := argsL) (rest := rest) (hlen _ hsigM) hstack hdg
  rcases hK m meth c ⟨T.setVm vm₁, locs, cells, slots⟩ { g with stack := rest } (.invokestatic index) mk argsL.toArray X₁ hg hsize hdg hW (X₁.named hnamed) (hpre vm₁ X₁.warmed) with ⟨v, B, X', hpost, hsteps⟩ | ⟨q, B, X', hpost, hsteps⟩
  · exact Or.inl ⟨v, vm₁, B, X₁.warmed, X', hpost, fun target h => hstep₁ _ fun acts => by rw [doInvoke_state]; exact hsteps.trans h⟩
  · exact Or.inr ⟨q, vm₁, B, X₁.warmed, X', hpost, hstep₁ _ fun acts => by rw [doInvoke_state]; exact hsteps⟩
end Calls
theorem vx_cls {s : State} {T : State} {vm₁ : Vm} {E : String} {k : ClassId} (hW : s.WarmedH vm₁) (h : (T.setVm vm₁).vm.findClass E = some k) : s.vm.findClass E = some k := by
  have h1 : vm₁.findClass E = some k := h
  rw [hW.alike.findClass] at h1
  exact h1
/-- the method's frame g, with q thrown over it -/
def vx_W (p : Program) (l : Launch) (e : Env) (R : Room) (s : State) (m : MethodId) (args : Array Value) (below : List Frame) (meth : Method) (c : Code) (H : Heap) (locs : List Loc) (cells slots : Nat) (Q : State → Prop) (g : JFrame) (q : Addr) : Prop :=
  ∀ T : State, T.heap = H → Stand p l e R s m args below meth c T locs cells slots → ∃ t, Steps p.tables e below ((T.setTop g).pushFrame (.throwing q)) t ∧ Q t
def vx_Run (p : Program) (l : Launch) (e : Env) (R : Room) (s : State) (m : MethodId) (args : Array Value) (below : List Frame) (meth : Method) (c : Code) (H : Heap) (locs : List Loc) (cells slots mc ms : Nat) (g : JFrame) (rest : List Value) (Qa : State → Outcome → State → Prop) (XC : String → State → State → Prop) (free : Addr → Prop) : Prop :=
  ∀ T : State, T.heap = H → Stand p l e R s m args below meth c T locs cells slots →
    (∃ (v : Option Value) (st₀ t T' : State) (L : List Loc), st₀.heap = H ∧ Stand p l e R s m args below meth c T' (locs ++ L) (cells + mc) (slots + ms) ∧ (∀ q ∈ L, free q.base) ∧ T'.heap = t.heap ∧ T'.vm = t.vm ∧ Qa st₀ (.returned v) t ∧
      Goes p e below T g T' { g with pc := g.pc + 3, stack := v.toList ++ rest }) ∨
    (∃ (q : Addr) (st₀ t T' : State) (L : List Loc) (E : String) (ce : Cell), st₀.heap = H ∧ Stand p l e R s m args below meth c T' (locs ++ L) (cells + mc) (slots + ms) ∧ (∀ z ∈ L, free z.base) ∧ T'.heap = t.heap ∧ T'.vm = t.vm ∧ XC E st₀ t ∧ t.heap[q]? = some ce ∧ ce.vm = .none ∧ s.vm.findClass E = some ce.cls ∧
      Steps p.tables e below (T.setTop g) ((T'.setTop { g with stack := rest }).pushFrame (.throwing q)))
def vx_X {S : Type} (px : S → Prop) (B : String → S → State → Prop) (A : Nat → Prop) : String → State → State → Prop := fun E st t => ∃ u : S, px u ∧ B E u t ∧ va_F A st t
section Runs
variable {p : Program} {l : Launch} {e : Env} {R : Room} {s : State} {m : MethodId} {args : Array Value} {below : List Frame} {meth : Method} {c : Code} {H : Heap} {locs : List Loc} {cells slots : Nat}
variable {y : MethodName} {bytes cc : ByteArray} {maxL nL mc ms n index : Nat} {ret : Option FieldType} {ws : List Cond} {rm : Room} {Pc : Array Value → State → Prop} {Qc : Array Value → State → Outcome → State → Prop} {XC : String → State → State → Prop} {free : Addr → Prop} {Ts : List Cond} {own C : String} {b : Addr} {As rest : List Value} {g : JFrame}
theorem vx_callBack (cb : CallB R s args own index y bytes maxL ret ws rm mc ms n) (hM : vx_Met l y ws rm Pc Qc XC mc ms free) (hbl : FrameBlind Pc) : vx_Back l R p e below s args y 3 8 (PreOf R mc ms Pc) (PostOf Qc mc ms free) (vx_Post XC mc ms free) := by
  obtain ⟨hrc, hrs, hfr, hlo, hws, hcw, -, hini, -⟩ := cb
  exact vx_back (bytes := bytes) (maxL := maxL) (ret := ret) hM hbl hrc hrs hfr hlo hws hcw (fun a' U hW => word_at hW (Or.inl (by first | rfl | simp [Cond.onTables, Cond.keeps, Cond.steady])) hini)
theorem vx_runV (S : CallFix p m c cc nL s args Ts own) (hM : vx_Met l y ws rm Pc Qc XC mc ms free) (cw : CallW R s args own C index y bytes maxL ret ws rm mc ms n) (hp : PreV s H C b Pc As)
    (hg : g.method = m) (hn : As.length = n) (hsize : g.locals.size = nL) (hstack : g.stack = As.reverse ++ .ref b :: rest) (hW : 2 * g.monitorRoom + (rest.map fun v => v.category).sum ≤ 8) (hdg : decode cc g.pc = .ok (.invokevirtual index, 3)) (hf : cells + mc ≤ R.cells ∧ slots + ms ≤ R.slots) :
    vx_Run p l e R s m args below meth c H locs cells slots mc ms g rest (Qc (Value.ref b :: As).toArray) XC free := by
  have hK : vx_Back l R p e below s args y 3 8 (PreOf R mc ms Pc) (PostOf Qc mc ms free) (vx_Post XC mc ms free) := vx_callBack cw.1 hM hp.1
  obtain ⟨⟨-, -, -, -, -, -, hcode, -, hy, hlen, hl⟩, hin, hse⟩ := cw
  obtain ⟨hx, hb, hml, ho, -⟩ := S
  obtain ⟨-, ⟨cellB, hcB, hoB, hclB⟩, hPc⟩ := hp
  intro T hT X
  rcases vx_callV X hx (C := C) (bytes := bytes) (maxL := maxL) (ret := ret) ho hl hin hse hcode hy hK (by rw [hT]; exact hcB) hoB hclB hg (hsize.trans hml.symm) (argsL := As) (rest := rest) (fun sig h => hn.trans (hlen sig h)) hstack hW (by rw [hb]; exact hdg)
    (fun vm₁ hW₁ => ⟨hf.1, hf.2, hPc (T.setVm vm₁) hT hW₁⟩) with ⟨v, vm₁, ⟨U', l2, c2, s2⟩, hW₁, X', ⟨g', mk, t, L, e1, e2, hq, h1, hL, h2, h3⟩, st⟩ | ⟨q, vm₁, ⟨U', l2, c2, s2⟩, hW₁, X', ⟨g', mk, t, L, E, ce, e1, e2, hq, hce, hcv, hcl, h1, hL, h2, h3⟩, st⟩
  · dsimp only [Pt.U, Pt.locs, Pt.cells, Pt.slots] at X' e1 e2 h1 h2 h3 st
    subst h1; subst h2; subst h3
    exact Or.inl ⟨v, (T.setVm vm₁).calling g' mk (Value.ref b :: As).toArray, t, U', L, hT, X', hL, e1, e2, hq, st⟩
  · dsimp only [Pt.U, Pt.locs, Pt.cells, Pt.slots] at X' e1 e2 h1 h2 h3 st hcl
    subst h1; subst h2; subst h3
    exact Or.inr ⟨q, (T.setVm vm₁).calling g' mk (Value.ref b :: As).toArray, t, U', L, E, ce, hT, X', hL, e1, e2, hq, hce, hcv, vx_cls hW₁ hcl, st⟩
theorem vx_runS (S : CallFix p m c cc nL s args Ts own) (hM : vx_Met l y ws rm Pc Qc XC mc ms free) (cw : CallB R s args own index y bytes maxL ret ws rm mc ms n ∧ (Cond.static y).before args s = true) (hp : PreS s H Pc As)
    (hg : g.method = m) (hn : As.length = n) (hsize : g.locals.size = nL) (hstack : g.stack = As.reverse ++ rest) (hW : 2 * g.monitorRoom + (rest.map fun v => v.category).sum ≤ 8) (hdg : decode cc g.pc = .ok (.invokestatic index, 3)) (hf : cells + mc ≤ R.cells ∧ slots + ms ≤ R.slots) :
    vx_Run p l e R s m args below meth c H locs cells slots mc ms g rest (Qc As.toArray) XC free := by
  have hK : vx_Back l R p e below s args y 3 8 (PreOf R mc ms Pc) (PostOf Qc mc ms free) (vx_Post XC mc ms free) := vx_callBack cw.1 hM hp.1
  obtain ⟨⟨-, -, -, -, -, -, hcode, hini, hy, hlen, hl⟩, hstt⟩ := cw
  obtain ⟨hx, hb, hml, ho, -⟩ := S
  intro T hT X
  rcases vx_callS X hx (bytes := bytes) (maxL := maxL) (ret := ret) ho hl hstt hini hcode hy hK hg (hsize.trans hml.symm) (argsL := As) (rest := rest) (fun sig h => hn.trans (hlen sig h)) hstack hW (by rw [hb]; exact hdg)
    (fun vm₁ hW₁ => ⟨hf.1, hf.2, hp.2 (T.setVm vm₁) hT hW₁⟩) with ⟨v, vm₁, ⟨U', l2, c2, s2⟩, hW₁, X', ⟨g', mk, t, L, e1, e2, hq, h1, hL, h2, h3⟩, st⟩ | ⟨q, vm₁, ⟨U', l2, c2, s2⟩, hW₁, X', ⟨g', mk, t, L, E, ce, e1, e2, hq, hce, hcv, hcl, h1, hL, h2, h3⟩, st⟩
  · dsimp only [Pt.U, Pt.locs, Pt.cells, Pt.slots] at X' e1 e2 h1 h2 h3 st
    subst h1; subst h2; subst h3
    exact Or.inl ⟨v, (T.setVm vm₁).calling g' mk As.toArray, t, U', L, hT, X', hL, e1, e2, hq, st⟩
  · dsimp only [Pt.U, Pt.locs, Pt.cells, Pt.slots] at X' e1 e2 h1 h2 h3 st hcl
    subst h1; subst h2; subst h3
    exact Or.inr ⟨q, (T.setVm vm₁).calling g' mk As.toArray, t, U', L, E, ce, hT, X', hL, e1, e2, hq, hce, hcv, vx_cls hW₁ hcl, st⟩
end Runs
section Rows
variable {p : Program} {l : Launch} {e : Env} {R : Room} {s : State} {m : MethodId} {args : Array Value} {below : List Frame} {meth : Method} {c : Code} {H : Heap} {locs : List Loc} {cells slots : Nat} {Q : State → Prop}
variable {mc ms : Nat} {free : Addr → Prop} {A0 A1 : Nat → Prop} {H0 : Heap} {a : Array Value} {pc : Nat} {ls : Array Slot} {st0 rest : List Value}
theorem vx_keep {st₀ t T' : State} {L : List Loc} (h0 : st₀.heap = H) (e1 : T'.heap = t.heap) (hS : va_S A0 H0 H locs) (hA : ∀ q, q < H.size → A1 q → A0 q) (hf : ∀ q, free q → A0 q) (hL : ∀ q ∈ L, free q.base) (hF : va_F A1 st₀ t) :
    H.size ≤ T'.heap.size ∧ (∀ q : Nat, q < H.size → ¬ A1 q → T'.heap[q]? = H[q]?) ∧ va_S A0 H0 T'.heap (locs ++ L) := by
  obtain ⟨hz, hk⟩ := hF
  rw [h0] at hz hk
  exact ⟨by rw [e1]; exact hz, fun q h1 h2 => by rw [e1]; exact hk q h1 h2,
    ⟨Nat.le_trans hS.1 (by rw [e1]; exact hz), fun q h1 h2 => by rw [e1, hk q (Nat.lt_of_lt_of_le h1 hS.1) (fun z => h2 (hA q (Nat.lt_of_lt_of_le h1 hS.1) z))]; exact hS.2.1 q h1 h2, fun q hq => by
      rcases List.mem_append.mp hq with h | h
      · exact hS.2.2 q h
      · exact hf _ (hL q h)⟩⟩
theorem vx_calli {S SX : Type} {post : Int32 → S → Prop} {px : SX → Prop} {B : S → State → Prop} {BX : String → SX → State → Prop} {AX : Nat → Prop} (hr : vx_Run p l e R s m args below meth c H locs cells slots mc ms (F0 m pc ls st0) rest (va_Qi post B A1 a) (vx_X px BX AX) free) (hS : va_S A0 H0 H locs) (hA : ∀ q, q < H.size → A1 q → A0 q) (hf : ∀ q, free q → A0 q) (hAX : ∀ q, q < H.size → AX q → A0 q)
    (kx : ∀ (E : String) (ce : Cell) (q9 : Addr) (u : SX) (t : State) (H1 : Heap) (locs1 : List Loc), t.heap = H1 → s.vm.Alike t.vm → px u → BX E u t → H.size ≤ H1.size → (∀ q : Nat, q < H.size → ¬ AX q → H1[q]? = H[q]?) → va_S A0 H0 H1 locs1 → H1[q9]? = some ce → ce.vm = .none → s.vm.findClass E = some ce.cls → vx_W p l e R s m args below meth c H1 locs1 (cells + mc) (slots + ms) Q (F0 m pc ls rest) q9)
    (kk : ∀ (r : Int32) (u : S) (t : State) (H1 : Heap) (locs1 : List Loc), t.heap = H1 → s.vm.Alike t.vm → post r u → B u t → H.size ≤ H1.size → (∀ q : Nat, q < H.size → ¬ A1 q → H1[q]? = H[q]?) → va_S A0 H0 H1 locs1 → W p l e R s m args below meth c H1 locs1 (cells + mc) (slots + ms) Q (F0 m (pc + 3) ls (.int r :: rest))) : W p l e R s m args below meth c H locs cells slots Q (F0 m pc ls st0) := by
  intro T hT X
  rcases hr T hT X with ⟨v, st₀, t, T', L, h0, X', hL, e1, e2, ⟨⟨r, u, hv, hp, hb⟩, hF⟩, st⟩ | ⟨q, st₀, t, T', L, E, ce, h0, X', hL, e1, e2, ⟨u, hp, hb, hF⟩, hce, hcv, hcl, st⟩
  · cases hv
    obtain ⟨k1, k2, k3⟩ := vx_keep h0 e1 hS hA hf hL hF
    obtain ⟨t2, a1, b1⟩ := kk r u t T'.heap (locs ++ L) e1.symm (by rw [← e2]; exact X'.warmed.alike) hp hb k1 k2 k3 T' rfl X'
    exact ⟨t2, st t2 a1, b1⟩
  · obtain ⟨k1, k2, k3⟩ := vx_keep h0 e1 hS hAX hf hL hF
    obtain ⟨t2, a1, b1⟩ := kx E ce q u t T'.heap (locs ++ L) e1.symm (by rw [← e2]; exact X'.warmed.alike) hp hb k1 k2 k3 (by rw [e1]; exact hce) hcv hcl T' rfl X'
    exact ⟨t2, st.trans a1, b1⟩
theorem vx_calll {S SX : Type} {post : Int64 → S → Prop} {px : SX → Prop} {B : S → State → Prop} {BX : String → SX → State → Prop} {AX : Nat → Prop} (hr : vx_Run p l e R s m args below meth c H locs cells slots mc ms (F0 m pc ls st0) rest (va_Ql post B A1 a) (vx_X px BX AX) free) (hS : va_S A0 H0 H locs) (hA : ∀ q, q < H.size → A1 q → A0 q) (hf : ∀ q, free q → A0 q) (hAX : ∀ q, q < H.size → AX q → A0 q)
    (kx : ∀ (E : String) (ce : Cell) (q9 : Addr) (u : SX) (t : State) (H1 : Heap) (locs1 : List Loc), t.heap = H1 → s.vm.Alike t.vm → px u → BX E u t → H.size ≤ H1.size → (∀ q : Nat, q < H.size → ¬ AX q → H1[q]? = H[q]?) → va_S A0 H0 H1 locs1 → H1[q9]? = some ce → ce.vm = .none → s.vm.findClass E = some ce.cls → vx_W p l e R s m args below meth c H1 locs1 (cells + mc) (slots + ms) Q (F0 m pc ls rest) q9)
    (kk : ∀ (r : Int64) (u : S) (t : State) (H1 : Heap) (locs1 : List Loc), t.heap = H1 → s.vm.Alike t.vm → post r u → B u t → H.size ≤ H1.size → (∀ q : Nat, q < H.size → ¬ A1 q → H1[q]? = H[q]?) → va_S A0 H0 H1 locs1 → W p l e R s m args below meth c H1 locs1 (cells + mc) (slots + ms) Q (F0 m (pc + 3) ls (.long r :: rest))) : W p l e R s m args below meth c H locs cells slots Q (F0 m pc ls st0) := by
  intro T hT X
  rcases hr T hT X with ⟨v, st₀, t, T', L, h0, X', hL, e1, e2, ⟨⟨r, u, hv, hp, hb⟩, hF⟩, st⟩ | ⟨q, st₀, t, T', L, E, ce, h0, X', hL, e1, e2, ⟨u, hp, hb, hF⟩, hce, hcv, hcl, st⟩
  · cases hv
    obtain ⟨k1, k2, k3⟩ := vx_keep h0 e1 hS hA hf hL hF
    obtain ⟨t2, a1, b1⟩ := kk r u t T'.heap (locs ++ L) e1.symm (by rw [← e2]; exact X'.warmed.alike) hp hb k1 k2 k3 T' rfl X'
    exact ⟨t2, st t2 a1, b1⟩
  · obtain ⟨k1, k2, k3⟩ := vx_keep h0 e1 hS hAX hf hL hF
    obtain ⟨t2, a1, b1⟩ := kx E ce q u t T'.heap (locs ++ L) e1.symm (by rw [← e2]; exact X'.warmed.alike) hp hb k1 k2 k3 (by rw [e1]; exact hce) hcv hcl T' rfl X'
    exact ⟨t2, st.trans a1, b1⟩
theorem vx_callf {S SX : Type} {post : UInt32 → S → Prop} {px : SX → Prop} {B : S → State → Prop} {BX : String → SX → State → Prop} {AX : Nat → Prop} (hr : vx_Run p l e R s m args below meth c H locs cells slots mc ms (F0 m pc ls st0) rest (va_Qf post B A1 a) (vx_X px BX AX) free) (hS : va_S A0 H0 H locs) (hA : ∀ q, q < H.size → A1 q → A0 q) (hf : ∀ q, free q → A0 q) (hAX : ∀ q, q < H.size → AX q → A0 q)
    (kx : ∀ (E : String) (ce : Cell) (q9 : Addr) (u : SX) (t : State) (H1 : Heap) (locs1 : List Loc), t.heap = H1 → s.vm.Alike t.vm → px u → BX E u t → H.size ≤ H1.size → (∀ q : Nat, q < H.size → ¬ AX q → H1[q]? = H[q]?) → va_S A0 H0 H1 locs1 → H1[q9]? = some ce → ce.vm = .none → s.vm.findClass E = some ce.cls → vx_W p l e R s m args below meth c H1 locs1 (cells + mc) (slots + ms) Q (F0 m pc ls rest) q9)
    (kk : ∀ (r : UInt32) (u : S) (t : State) (H1 : Heap) (locs1 : List Loc), t.heap = H1 → s.vm.Alike t.vm → post r u → B u t → H.size ≤ H1.size → (∀ q : Nat, q < H.size → ¬ A1 q → H1[q]? = H[q]?) → va_S A0 H0 H1 locs1 → W p l e R s m args below meth c H1 locs1 (cells + mc) (slots + ms) Q (F0 m (pc + 3) ls (.float r :: rest))) : W p l e R s m args below meth c H locs cells slots Q (F0 m pc ls st0) := by
  intro T hT X
  rcases hr T hT X with ⟨v, st₀, t, T', L, h0, X', hL, e1, e2, ⟨⟨r, u, hv, hp, hb⟩, hF⟩, st⟩ | ⟨q, st₀, t, T', L, E, ce, h0, X', hL, e1, e2, ⟨u, hp, hb, hF⟩, hce, hcv, hcl, st⟩
  · cases hv
    obtain ⟨k1, k2, k3⟩ := vx_keep h0 e1 hS hA hf hL hF
    obtain ⟨t2, a1, b1⟩ := kk r u t T'.heap (locs ++ L) e1.symm (by rw [← e2]; exact X'.warmed.alike) hp hb k1 k2 k3 T' rfl X'
    exact ⟨t2, st t2 a1, b1⟩
  · obtain ⟨k1, k2, k3⟩ := vx_keep h0 e1 hS hAX hf hL hF
    obtain ⟨t2, a1, b1⟩ := kx E ce q u t T'.heap (locs ++ L) e1.symm (by rw [← e2]; exact X'.warmed.alike) hp hb k1 k2 k3 (by rw [e1]; exact hce) hcv hcl T' rfl X'
    exact ⟨t2, st.trans a1, b1⟩
theorem vx_calld {S SX : Type} {post : UInt64 → S → Prop} {px : SX → Prop} {B : S → State → Prop} {BX : String → SX → State → Prop} {AX : Nat → Prop} (hr : vx_Run p l e R s m args below meth c H locs cells slots mc ms (F0 m pc ls st0) rest (va_Qd post B A1 a) (vx_X px BX AX) free) (hS : va_S A0 H0 H locs) (hA : ∀ q, q < H.size → A1 q → A0 q) (hf : ∀ q, free q → A0 q) (hAX : ∀ q, q < H.size → AX q → A0 q)
    (kx : ∀ (E : String) (ce : Cell) (q9 : Addr) (u : SX) (t : State) (H1 : Heap) (locs1 : List Loc), t.heap = H1 → s.vm.Alike t.vm → px u → BX E u t → H.size ≤ H1.size → (∀ q : Nat, q < H.size → ¬ AX q → H1[q]? = H[q]?) → va_S A0 H0 H1 locs1 → H1[q9]? = some ce → ce.vm = .none → s.vm.findClass E = some ce.cls → vx_W p l e R s m args below meth c H1 locs1 (cells + mc) (slots + ms) Q (F0 m pc ls rest) q9)
    (kk : ∀ (r : UInt64) (u : S) (t : State) (H1 : Heap) (locs1 : List Loc), t.heap = H1 → s.vm.Alike t.vm → post r u → B u t → H.size ≤ H1.size → (∀ q : Nat, q < H.size → ¬ A1 q → H1[q]? = H[q]?) → va_S A0 H0 H1 locs1 → W p l e R s m args below meth c H1 locs1 (cells + mc) (slots + ms) Q (F0 m (pc + 3) ls (.double r :: rest))) : W p l e R s m args below meth c H locs cells slots Q (F0 m pc ls st0) := by
  intro T hT X
  rcases hr T hT X with ⟨v, st₀, t, T', L, h0, X', hL, e1, e2, ⟨⟨r, u, hv, hp, hb⟩, hF⟩, st⟩ | ⟨q, st₀, t, T', L, E, ce, h0, X', hL, e1, e2, ⟨u, hp, hb, hF⟩, hce, hcv, hcl, st⟩
  · cases hv
    obtain ⟨k1, k2, k3⟩ := vx_keep h0 e1 hS hA hf hL hF
    obtain ⟨t2, a1, b1⟩ := kk r u t T'.heap (locs ++ L) e1.symm (by rw [← e2]; exact X'.warmed.alike) hp hb k1 k2 k3 T' rfl X'
    exact ⟨t2, st t2 a1, b1⟩
  · obtain ⟨k1, k2, k3⟩ := vx_keep h0 e1 hS hAX hf hL hF
    obtain ⟨t2, a1, b1⟩ := kx E ce q u t T'.heap (locs ++ L) e1.symm (by rw [← e2]; exact X'.warmed.alike) hp hb k1 k2 k3 (by rw [e1]; exact hce) hcv hcl T' rfl X'
    exact ⟨t2, st.trans a1, b1⟩
theorem vx_callv {S SX : Type} {post : S → Prop} {px : SX → Prop} {B : S → State → Prop} {BX : String → SX → State → Prop} {AX : Nat → Prop} (hr : vx_Run p l e R s m args below meth c H locs cells slots mc ms (F0 m pc ls st0) rest (va_Qv post B A1 a) (vx_X px BX AX) free) (hS : va_S A0 H0 H locs) (hA : ∀ q, q < H.size → A1 q → A0 q) (hf : ∀ q, free q → A0 q) (hAX : ∀ q, q < H.size → AX q → A0 q)
    (kx : ∀ (E : String) (ce : Cell) (q9 : Addr) (u : SX) (t : State) (H1 : Heap) (locs1 : List Loc), t.heap = H1 → s.vm.Alike t.vm → px u → BX E u t → H.size ≤ H1.size → (∀ q : Nat, q < H.size → ¬ AX q → H1[q]? = H[q]?) → va_S A0 H0 H1 locs1 → H1[q9]? = some ce → ce.vm = .none → s.vm.findClass E = some ce.cls → vx_W p l e R s m args below meth c H1 locs1 (cells + mc) (slots + ms) Q (F0 m pc ls rest) q9)
    (kk : ∀ (u : S) (t : State) (H1 : Heap) (locs1 : List Loc), t.heap = H1 → s.vm.Alike t.vm → post u → B u t → H.size ≤ H1.size → (∀ q : Nat, q < H.size → ¬ A1 q → H1[q]? = H[q]?) → va_S A0 H0 H1 locs1 → W p l e R s m args below meth c H1 locs1 (cells + mc) (slots + ms) Q (F0 m (pc + 3) ls (rest))) : W p l e R s m args below meth c H locs cells slots Q (F0 m pc ls st0) := by
  intro T hT X
  rcases hr T hT X with ⟨v, st₀, t, T', L, h0, X', hL, e1, e2, ⟨⟨u, hv, hp, hb⟩, hF⟩, st⟩ | ⟨q, st₀, t, T', L, E, ce, h0, X', hL, e1, e2, ⟨u, hp, hb, hF⟩, hce, hcv, hcl, st⟩
  · cases hv
    obtain ⟨k1, k2, k3⟩ := vx_keep h0 e1 hS hA hf hL hF
    obtain ⟨t2, a1, b1⟩ := kk u t T'.heap (locs ++ L) e1.symm (by rw [← e2]; exact X'.warmed.alike) hp hb k1 k2 k3 T' rfl X'
    exact ⟨t2, st t2 a1, b1⟩
  · obtain ⟨k1, k2, k3⟩ := vx_keep h0 e1 hS hAX hf hL hF
    obtain ⟨t2, a1, b1⟩ := kx E ce q u t T'.heap (locs ++ L) e1.symm (by rw [← e2]; exact X'.warmed.alike) hp hb k1 k2 k3 (by rw [e1]; exact hce) hcv hcl T' rfl X'
    exact ⟨t2, st.trans a1, b1⟩
/-- caught by the row x of this method's table; the rows ahead don't take it -/
theorem vx_catch {own name : String} {E : String} {ce : Cell} {q : Addr} (hown : s.vm.findClass own = some m.cls) (pre : List ExceptionTableEntry) (x : ExceptionTableEntry) (suf : List ExceptionTableEntry) (hsplit : c.exceptionTable.toList = pre ++ x :: suf)
    (hpass : ∀ z ∈ pre, covers z pc = false ∨ (z.catchType ≠ 0 ∧ ∃ nm : String, (Cond.classLink own z.catchType nm).before args s = true ∧ va_Nc E nm s)) (hx : covers x pc = true) (h0 : x.catchType ≠ 0)
    (hlink : (Cond.classLink own x.catchType name).before args s = true) (hcast : (Cond.castable E name).before args s = true) (hcell : H[q]? = some ce) (hv : ce.vm = .none) (hcl : s.vm.findClass E = some ce.cls)
    (kk : W p l e R s m args below meth c H locs cells slots Q (F0 m x.handlerPc ls [.ref q])) : vx_W p l e R s m args below meth c H locs cells slots Q (F0 m pc ls rest) q := by
  intro T hT X
  have hpl : e.platform.magicAccessors = ({} : Platform).magicAccessors := by rw [X.admits.platform]
  obtain ⟨c3, c4, hc3, hc4, hasg⟩ := Cond.castable_spec hcast
  cases Option.some.inj (hc3.symm.trans hcl)
  obtain ⟨c5, hc5, hcl5⟩ := Cond.classLink_spec hown hlink e.platform hpl
  cases Option.some.inj (hc4.symm.trans hc5)
  obtain ⟨vm', X', st⟩ := X.thenCaughtThrough q (g := F0 m pc ls rest) rfl (Steps.refl _) (by rw [hT]; exact hcell) (by rw [hv]; rfl) (by obtain ⟨k9, h9, -⟩ := Vm.findClass_spec hcl; exact ⟨k9, h9⟩) pre x suf hsplit
    (fun z hz => by
      rcases hpass z hz with h | ⟨hz0, nm, hl1, hn1⟩
      · exact Or.inl h
      · obtain ⟨c6, hc6, hcl6⟩ := Cond.classLink_spec hown hl1 e.platform hpl
        obtain ⟨a8, b8, h1, h2, h3⟩ := hn1
        cases Option.some.inj (h1.symm.trans hcl)
        cases Option.some.inj (h2.symm.trans hc6)
        exact Or.inr ⟨hz0, _, hcl6, h3⟩) hx (Or.inr ⟨h0, c4, hcl5, hasg⟩)
  obtain ⟨t, a1, b1⟩ := kk (T.setVm vm') hT X'
  exact ⟨t, st.trans a1, b1⟩
end Rows
section Ends
variable {p : Program} {l : Launch} {e : Env} {R : Room} {s : State} {m : MethodId} {args : Array Value} {below : List Frame} {meth : Method} {c : Code} {H : Heap} {locs : List Loc} {cells slots : Nat} {Q : State → Prop}
variable {mc ms : Nat} {free : Addr → Prop} {A0 A1 : Nat → Prop} {H0 : Heap} {a : Array Value} {ls : Array Slot} {st0 rest : List Value}
variable {Qc : Array Value → State → Outcome → State → Prop} {XC : String → State → State → Prop}
/-- what a body that may throw owes at its end -/
def vx_MQ (below : List Frame) (Qc : Array Value → State → Outcome → State → Prop) (XC : String → State → State → Prop) (a : Array Value) (s : State) (mc ms : Nat) (free : Addr → Prop) : State → Prop := fun t =>
  ∃ o, t.status = .running ∧ Ended t below o ∧ vx_Q Qc XC mc ms free a s o t
theorem vx_ret {g : JFrame} {mc ms : Nat} (k : W p l e R s m args below meth c H locs cells slots (MQ below Qc args s mc ms free) g) : W p l e R s m args below meth c H locs cells slots (vx_MQ below Qc XC args s mc ms free) g := by
  intro T hT X
  obtain ⟨t, a1, o, b1, b2, b3, b4⟩ := k T hT X
  exact ⟨t, a1, o, b1, b2, Or.inl ⟨b3, b4⟩⟩
/-- not caught here: it goes on to the caller -/
theorem vx_widen {g : JFrame} {q : Addr} {k n : Nat} (h1 : cells ≤ k) (h2 : slots ≤ n) (kk : vx_W p l e R s m args below meth c H locs k n Q g q) : vx_W p l e R s m args below meth c H locs cells slots Q g q := fun T hT X => kk T hT (stand_widen X h1 h2)
theorem vx_out {pc : Nat} {E : String} {ce : Cell} {q : Addr} {mc ms : Nat} (hout : ∀ x ∈ c.exceptionTable.toList, covers x pc = false) (hlocks : meth.locks = false) (hcell : H[q]? = some ce) (hv : ce.vm = .none) (hcl : s.vm.findClass E = some ce.cls)
    (hx : ∀ t : State, t.heap = H → s.vm.Alike t.vm → XC E s t) (hf : ∀ z ∈ locs, free z.base) (hc : cells ≤ mc) (hs : slots ≤ ms) :
    vx_W p l e R s m args below meth c H locs cells slots (vx_MQ below Qc XC args s mc ms free) (F0 m pc ls rest) q := by
  intro T hT X
  obtain ⟨st1, hrun, hend, hW, hsm⟩ := X.leaveThrown q (g := F0 m pc ls rest) rfl rfl rfl hout hlocks
  have hcell9 : (T.setFrames (.throwing q :: below)).heap[q]? = some ce := by
    show T.heap[q]? = some ce
    rw [hT]; exact hcell
  exact ⟨_, st1, .threw q, hrun, hend, Or.inr ⟨q, rfl, E, ce, locs, hx _ hT hW.alike, hcell9, hv, hcl, hW, hsm.mono hc hs, hf⟩⟩
theorem vx_frame {U : State} {k n : Nat} (h : s.sameButNew ({ U with vm := s.vm } : State) locs k n) : s.heap.size ≤ U.heap.size ∧ ∀ q : Nat, q < s.heap.size → (∀ z ∈ locs, z.base ≠ q) → U.heap[q]? = s.heap[q]? := by
  obtain ⟨-, h2, -, -, -, h6⟩ := h
  refine ⟨h2, fun q hq hz => ?_⟩
  obtain ⟨c9, e1, e2, e3, e4⟩ := h6 q _ (Array.getElem?_eq_getElem hq)
  have hs : c9.slots = (s.heap[q]).slots := Array.ext_getElem? fun i => e4 i fun hm => hz _ hm rfl
  have h9 : c9 = s.heap[q] := by
    rw [hs] at e2
    exact e2
  have e5 : U.heap[q]? = some c9 := e1
  rw [e5, h9, Array.getElem?_eq_getElem hq]
/-- the words of a throw but the four that speak of the heap -/
def vx_no (w : Cond) : Bool := decide (w ≠ .isRef (.static Bundle.tN "UNASSIGNED_STACK" Bundle.steD)) && decide (w ≠ .isRef (.static Bundle.tN "SUPPRESSED_SENTINEL" Bundle.listD)) && decide (w ≠ .laysStatic Bundle.tN "UNASSIGNED_STACK" Bundle.steD) && decide (w ≠ .laysStatic Bundle.tN "SUPPRESSED_SENTINEL" Bundle.listD)
def vx_at0 (own : String) (ic : Nat) (X : String) (names : List String) : List Cond := (Bundle.ownAtoms0 own ic X names).filter vx_no
def vx_atS (own : String) (ic : Nat) (X : String) (names : List String) : List Cond := (Bundle.ownAtoms own ic X names).filter vx_no
/-- a word that the tables alone decide, or a good one -/
def vx_ot (w : Cond) : Bool := w.onTables || goodWord w
theorem vx_ot_at {args a' : Array Value} {s U : State} {w : Cond} (hW : s.WarmedH U.vm) (hvm : s.vm = U.vm) (hg : vx_ot w = true) (h : w.before args s = true) : w.before a' U = true := by
  simp only [vx_ot, Bool.or_eq_true] at hg
  rcases hg with hg | hg
  · exact va_tabs hg hvm h
  · exact word_at hW (good_of_word hg) h
/-- a list's words: the good ones out of the method's own list, the others by premises of their own -/
theorem vx_hat {args : Array Value} {s : State} {L B : List Cond} (h1 : ∀ w ∈ L.filter goodWord, w.before args s = true) (h2 : ∀ w ∈ L.filter (fun w => !goodWord w), w ∈ B) (h3 : ∀ w ∈ B, w.before args s = true) : ∀ w ∈ L, w.before args s = true := by
  intro w hw
  by_cases g : goodWord w = true
  · exact h1 w (List.mem_filter.mpr ⟨hw, g⟩)
  · refine h3 w (h2 w (List.mem_filter.mpr ⟨hw, ?_⟩))
    show (!goodWord w) = true
    cases hgw : goodWord w
    · rfl
    · exact absurd hgw g
theorem vx_c {args : Array Value} {s : State} {w : Cond} {B : List Cond} (h : w.before args s = true) (t : ∀ w ∈ B, w.before args s = true) : ∀ w' ∈ w :: B, w'.before args s = true := fun w' h' => (List.mem_cons.mp h').elim (fun e => by rw [e]; exact h) (t w')
theorem vx_n {args : Array Value} {s : State} : ∀ w ∈ ([] : List Cond), w.before args s = true := fun _ h => nomatch h
theorem vx_own {args : Array Value} {s : State} {L : List Cond} (h1 : ∀ w ∈ L.filter vx_no, w.before args s = true)
    (hU : (Cond.isRef (.static Bundle.tN "UNASSIGNED_STACK" Bundle.steD)).before args s = true) (hN : (Cond.isRef (.static Bundle.tN "SUPPRESSED_SENTINEL" Bundle.listD)).before args s = true)
    (lU : (Cond.laysStatic Bundle.tN "UNASSIGNED_STACK" Bundle.steD).before args s = true) (lN : (Cond.laysStatic Bundle.tN "SUPPRESSED_SENTINEL" Bundle.listD).before args s = true) : ∀ w ∈ L, w.before args s = true := by
  intro w hw
  by_cases e1 : w = .isRef (.static Bundle.tN "UNASSIGNED_STACK" Bundle.steD)
  · rw [e1]; exact hU
  · by_cases e2 : w = .isRef (.static Bundle.tN "SUPPRESSED_SENTINEL" Bundle.listD)
    · rw [e2]; exact hN
    · by_cases e3 : w = .laysStatic Bundle.tN "UNASSIGNED_STACK" Bundle.steD
      · rw [e3]; exact lU
      · by_cases e4 : w = .laysStatic Bundle.tN "SUPPRESSED_SENTINEL" Bundle.listD
        · rw [e4]; exact lN
        · exact h1 w (List.mem_filter.mpr ⟨hw, by unfold vx_no; rw [decide_eq_true e1, decide_eq_true e2, decide_eq_true e3, decide_eq_true e4]; rfl⟩)
/-- where a static field lies, its class's statics cell in H -/
def vx_L (C n d : String) (A : Nat → Prop) (U : State) (H : Heap) : Prop := ∃ (c : ClassId) (k : Class) (i : Nat) (f : Field) (a : Nat) (cell : Cell), U.vm.findClass C = some c ∧ U.fieldFound? C n d = some (c, k, i, f) ∧ f.isStatic = true ∧ k.statics = some a ∧ H[a]? = some cell ∧ cell.vm.isStatics = true ∧ cell.cls = c ∧ f.slot < cell.slots.size ∧ k.staticTypes[f.slot]? = some f.type ∧ ¬ A a
theorem vx_L.moved {C n d : String} {A : Nat → Prop} {u U : State} {H : Heap} (hvm : u.vm.Alike U.vm) (h : vx_L C n d A u H) : vx_L C n d A U H := by
  obtain ⟨c, k, i, f, a, cell, h1, h2, h3, h4, h5, h6, h7, h8, h9, h10⟩ := h
  obtain ⟨k', hi', he⟩ := State.fieldFound?_setVm hvm h2
  exact ⟨c, k', i, f, a, cell, by rw [hvm.findClass]; exact h1, hi', h3, by rw [he]; exact h4, h5, h6, h7, h8, by rw [he]; exact h9, h10⟩
theorem vx_L.kept {C n d : String} {A : Nat → Prop} {U : State} {H H1 : Heap} (h : vx_L C n d A U H) (hq : ∀ a : Nat, a < H.size → ¬ A a → H1[a]? = H[a]?) : vx_L C n d A U H1 := by
  obtain ⟨c, k, i, f, a, cell, h1, h2, h3, h4, h5, h6, h7, h8, h9, h10⟩ := h
  exact ⟨c, k, i, f, a, cell, h1, h2, h3, h4, by rw [hq a (Array.getElem?_eq_some_iff.mp h5).1 h10]; exact h5, h6, h7, h8, h9, h10⟩
theorem vx_L.narrow {C n d : String} {A B : Nat → Prop} {U : State} {H : Heap} (h : vx_L C n d A U H) (hAB : ∀ q, B q → A q) : vx_L C n d B U H := by
  obtain ⟨c, k, i, f, a, cell, h1, h2, h3, h4, h5, h6, h7, h8, h9, h10⟩ := h
  exact ⟨c, k, i, f, a, cell, h1, h2, h3, h4, h5, h6, h7, h8, h9, fun z => h10 (hAB _ z)⟩
theorem vx_L.word {C n d : String} {A : Nat → Prop} {s : State} {args : Array Value} (h : vx_L C n d A s s.heap) : (Cond.laysStatic C n d).before args s = true := by
  obtain ⟨c, k, i, f, a, cell, h1, h2, h3, h4, h5, h6, h7, h8, h9, -⟩ := h
  show (Cond.laysStatic C n d).holds args s none s [] = true
  exact Cond.laysStatic_of h1 h2 h3 h4 h5 h6 h7 h8 h9
/-- .. and what it holds: null or some reference -/
def vx_Zq (C n d : String) (A : Nat → Prop) (U : State) (H : Heap) : Prop := va_Zq C n d A U H ∧ vx_L C n d A U H
theorem vx_Zq.moved {C n d : String} {A : Nat → Prop} {u U : State} {H : Heap} (hvm : u.vm.Alike U.vm) (h : vx_Zq C n d A u H) : vx_Zq C n d A U H := ⟨va_Zq.moved hvm h.1, vx_L.moved hvm h.2⟩
theorem vx_Zq.kept {C n d : String} {A : Nat → Prop} {U : State} {H H1 : Heap} (h : vx_Zq C n d A U H) (hq : ∀ a : Nat, a < H.size → ¬ A a → H1[a]? = H[a]?) : vx_Zq C n d A U H1 := ⟨va_Zq.kept h.1 hq, vx_L.kept h.2 hq⟩
theorem vx_Zq.narrow {C n d : String} {A B : Nat → Prop} {U : State} {H : Heap} (h : vx_Zq C n d A U H) (hAB : ∀ q, B q → A q) : vx_Zq C n d B U H := ⟨va_Zq.narrow h.1 hAB, vx_L.narrow h.2 hAB⟩
theorem vx_Zqof {args : Array Value} {s : State} {C n d : String} {A : Nat → Prop} (hl : (Cond.laysStatic C n d).before args s = true) (hini : (Cond.initialized C).before args s = true) (h : (Cond.isRef (.static C n d)).before args s = true) (hA : ∀ a : Nat, a < s.heap.size → ¬ A a) : vx_Zq C n d A s s.heap := by
  refine ⟨va_Zqof hl hini h hA, ?_⟩
  obtain ⟨c, k, i, f, a, cell, h1, h2, h3, h4, h5, h6, h7, h8, h9⟩ := Cond.laysStatic_spec hl
  exact ⟨c, k, i, f, a, cell, h1, h2, h3, h4, h5, h6, h7, h8, h9, hA a (Array.getElem?_eq_some_iff.mp h5).1⟩
theorem vx_isRef {C n d : String} {v : Value} {A : Nat → Prop} {s : State} {args : Array Value} (h : va_Z C n d v A s s.heap) (hv : v.isRef = true) : (Cond.isRef (.static C n d)).before args s = true := by
  obtain ⟨cf, kf, fi, f, a, cell, h1, h2, h3, h4, h5, h6, h7, -⟩ := h
  have he : (Term.static C n d).eval args s none [] s = some v := by
    simp [Term.eval, State.fieldNamed?, h1, h2, h4, h5, h6, h7]
  simp only [Cond.before, Cond.holds, Cond.value, he]
  cases v <;> simp_all [Value.isRef]
theorem vx_isRefq {C n d : String} {A : Nat → Prop} {s : State} {args : Array Value} (h : va_Zq C n d A s s.heap) : (Cond.isRef (.static C n d)).before args s = true := by
  rcases h with h | ⟨t, h⟩
  · exact vx_isRef h rfl
  · exact vx_isRef h rfl
/-- the same frame, seen from here: as if the method were called anew in this heap -/
theorem vx_rebase {T : State} (X : Stand p l e R s m args below meth c T locs cells slots) {R' : Room} (hf : R'.frames ≤ R.frames) (hl : R'.locals ≤ R.locals) (hc : cells + R'.cells ≤ R.cells) (hs : slots + R'.slots ≤ R.slots) :
    Stand p l e R' ((T.setVm s.vm).setFrames (.invoking m args :: below)) m args below meth c T [] 0 0 := by
  have htop : (T.setVm s.vm).topJava?.isSome := X.here.top
  have hF : ((T.setVm s.vm).setFrames (.invoking m args :: below)).frames = .invoking m args :: below := State.frames_setFrames _ (State.cur_lt_of_top htop)
  obtain ⟨g₀, hg0⟩ := Option.isSome_iff_exists.mp htop
  obtain ⟨r, hr⟩ := State.topJava?_eq_some.mp hg0
  have hl9 : e.platform.stackLimits (T.setVm s.vm).me = e.platform.stackLimits s.me := X.limits
  have hb9 : (T.setVm s.vm).me.stackBytes = s.me.stackBytes := X.bytes
  refine ⟨X.admits, X.cas, X.clock, hF, ?_, X.hears, X.method, X.code, X.here, X.tail, X.warmed, ?_, ?_, ?_⟩
  · have h := X.room
    have hU : ((T.setVm s.vm).setFrames (.invoking m args :: below)).localsInUse = s.localsInUse := by
      rw [State.localsInUse_invoking hF (meth := meth) (c := c) X.method X.code, State.localsInUse_invoking X.frames X.method X.code]
    simp only [State.hasRoom, Bool.and_eq_true, decide_eq_true_eq] at h ⊢
    obtain ⟨⟨⟨⟨h1, h2, h3, h4, h5, h6⟩, h7⟩, h8⟩, h9⟩ := h
    rw [X.frames, List.length_cons] at h2 h3
    have q1 := X.heapSize
    have q2 := X.used
    simp only [hF, hU, List.length_cons, State.stackLimits_setFrames, State.stackBytes_setFrames, hl9, hb9]
    refine ⟨⟨⟨⟨by omega, by omega, by omega, by omega, by omega, h6⟩, ?_⟩, ?_⟩, X.book⟩
    · show T.heap.size + R'.cells ≤ e.platform.maxCells
      omega
    · show T.slotsUsed + R'.slots ≤ e.platform.maxSlots
      omega
  · rw [State.stackLimits_setFrames]; rfl
  · rw [State.stackBytes_setFrames]; rfl
  · refine ⟨?_, Nat.le_refl _, Nat.le_refl _, ?_, ?_, fun a c9 h9 => ⟨c9, h9, rfl, rfl, fun _ _ => rfl⟩⟩
    · obtain ⟨t, ht, -⟩ := State.frames_cons hr
      show T.setVm s.vm = { ((T.setVm s.vm).setFrames (.invoking m args :: below)).setFrames (T.setVm s.vm).frames with heap := T.heap, slotsUsed := T.slotsUsed }
      rw [State.setFrames_setFrames, State.setFrames_self ht]
      rfl
    · show T.slotsUsed = T.slotsUsed + ((T.heap.toList.drop T.heap.size).map (·.slots.size)).sum
      rw [List.drop_eq_nil_of_le (Nat.le_of_eq Array.length_toList)]
      rfl
    · show ((T.heap.toList.drop T.heap.size).map (·.slots.size)).sum ≤ 0
      rw [List.drop_eq_nil_of_le (Nat.le_of_eq Array.length_toList)]
      exact Nat.le_refl _
/-- 'throw new E()': new; dup; invokespecial; athrow -/
theorem vx_throw0 {cc : ByteArray} {pc : Nat} (hexec : p.tables.exec = Jvm.exec) (hb : c.code = cc) (hl : l.stackTraces = false) {own cls : String} {names : List String} {ik ic mc ms : Nat} {A : Nat → Prop}
    (hown : s.vm.findClass own = some m.cls) (hcls : Bundle.fit cls = true) (hnames : ∀ n ∈ names, Bundle.fit n = true)
    (hk : (Cond.classLink own ik cls).before args s = true) (hini : (Cond.initialized cls).before args s = true) (hat : ∀ w ∈ vx_at0 own ic cls names, w.before args s = true)
    (hgood : ∀ w ∈ Cond.classLink own ik cls :: Cond.initialized cls :: vx_at0 own ic cls names, vx_ot w = true)
    (hU : vx_Zq Bundle.tN "UNASSIGNED_STACK" Bundle.steD A s s.heap) (hN : vx_Zq Bundle.tN "SUPPRESSED_SENTINEL" Bundle.listD A s s.heap) (hS : va_S A s.heap H locs) (hsize : ls.size = c.maxLocals)
    (d0 : decode cc pc = .ok (.new ik, 3)) (d3 : decode cc (pc + 3) = .ok (.dup, 1)) (d4 : decode cc (pc + 4) = .ok (.invokespecial ic, 3)) (d7 : decode cc (pc + 7) = .ok (.athrow, 1))
    (hout : ∀ x ∈ c.exceptionTable.toList, covers x (pc + 7) = false)
    (hRframes : names.length + 3 < R.frames) (hRlocals : (rest.map fun v => v.category).sum + (13 * (names.length + 1) + 42) ≤ R.locals) (hRcells : cells + 1 ≤ R.cells) (hRslots : slots + 6 ≤ R.slots) (hlocks : meth.locks = false)
    (hx : ∀ t : State, s.vm.Alike t.vm → H.size ≤ t.heap.size → (∀ q : Nat, q < H.size → t.heap[q]? = H[q]?) → XC cls s t)
    (hf : ∀ z ∈ locs, free z.base) (hc : cells + 1 ≤ mc) (hs : slots + 6 ≤ ms) :
    W p l e R s m args below meth c H locs cells slots (vx_MQ below Qc XC args s mc ms free) (F0 m pc ls rest) := by
  intro T hT X
  have htr : e.platform.stackTraces = false := (show e.platform.stackTraces = l.stackTraces by rw [X.admits.platform]).trans hl
  have Y := vx_rebase X (R' := { frames := R.frames, locals := R.locals, cells := 1, slots := 6 }) (Nat.le_refl _) (Nat.le_refl _) hRcells hRslots
  obtain ⟨s', hA⟩ : ∃ z, z = (T.setVm s.vm).setFrames (.invoking m args :: below) := ⟨_, rfl⟩
  rw [← hA] at Y
  have hvm : s'.vm = s.vm := by rw [hA]; rfl
  have hhp : s'.heap = H := by rw [hA]; exact hT
  have hW0 : s.WarmedH s'.vm := by rw [hvm]; exact State.WarmedH.refl s
  have hat' : ∀ w ∈ vx_at0 own ic cls names, w.before args s' = true := fun w hw => vx_ot_at hW0 hvm.symm (hgood w (List.mem_cons_of_mem _ (List.mem_cons_of_mem _ hw))) (hat w hw)
  have hk' : (Cond.classLink own ik cls).before args s' = true := vx_ot_at hW0 hvm.symm (hgood _ List.mem_cons_self) hk
  have hini' : (Cond.initialized cls).before args s' = true := vx_ot_at hW0 hvm.symm (hgood _ (List.mem_cons_of_mem _ List.mem_cons_self)) hini
  have hU' : vx_Zq Bundle.tN "UNASSIGNED_STACK" Bundle.steD A s' s'.heap := by rw [hhp]; exact vx_Zq.moved hW0.alike (hU.kept hS.2.1)
  have hN' : vx_Zq Bundle.tN "SUPPRESSED_SENTINEL" Bundle.listD A s' s'.heap := by rw [hhp]; exact vx_Zq.moved hW0.alike (hN.kept hS.2.1)
  have h : ∀ w ∈ Bundle.ownAtoms0 own ic cls names, w.before args s' = true := vx_own hat' (vx_isRefq hU'.1) (vx_isRefq hN'.1) hU'.2.word hN'.2.word
  have hown' : s'.vm.findClass own = some m.cls := by rw [hvm]; exact hown
  have hins : (Cond.instantiable cls 6).before args s' = true := h _ (by simp [Bundle.ownAtoms0])
  obtain ⟨vm₁, cX, kX, hfX, hkX, -, -, X₁, st1⟩ := Y.newCold hexec (own := own) (C := cls) (index := ik) (n := 6) hown' hk' hins hini'
    (g := F0 m pc ls rest) rfl (by rw [hb]; exact d0) (Nat.le_refl _) (Nat.le_refl _)
  generalize hT1 : (T.setVm vm₁).pushCell { cls := cX, slots := kX.instanceTypes.map defaultValue, vm := .none } = T1 at X₁ st1
  have hcat : (Value.ref T.heap.size).category = 1 := rfl
  have hcellA : T1.heap[T.heap.size]? = some (freshCell cX kX) := by rw [← hT1]; exact State.heap_pushCell_size _ _
  have d3' : decode c.code (pc + 3) = .ok (.dup, 1) := by rw [hb]; exact d3
  obtain ⟨U, hsteps, hrun, hend, hW, hsame, ce, hce, hO⟩ := X₁.ctorThrow0 hexec htr (own := own) (cls := cls) (names := names) (ic := ic) hown' hcls hnames h (fun x hx => nomatch hx) hfX hkX hcellA (by rw [hhp, hT]; exact Nat.le_refl _)
    (g := { method := m, pc := pc + 4, locals := ls, stack := .ref T.heap.size :: .ref T.heap.size :: rest, locked := none }) rfl hsize rfl rfl (rest := rest) rfl
    (by rw [hb]; exact d4) (by rw [hb]; exact d7) hout hRframes (by simp only [List.map_cons, List.sum_cons, hcat]; omega) hlocks
  obtain ⟨f1, f2⟩ := vx_frame hsame
  rw [hhp] at f1 f2
  have hWs : s.WarmedH U.vm := State.WarmedH.trans hW0 hW
  have hcl : s.vm.findClass cls = some ce.cls := by
    have h9 := hO.cls
    rw [hvm] at h9
    exact h9
  have hall : s.sameButNew ({ U with vm := s.vm } : State) locs mc ms := by
    subst hA
    obtain ⟨e1, e2⟩ := hsame
    rw [State.setFrames_setFrames] at e1
    have h2 : (T.setVm s.vm).sameButNew ({ U with vm := s.vm } : State) [] (0 + 1) (0 + 6) := ⟨e1, e2⟩
    have h3 := X.same.trans h2
    rw [List.append_nil] at h3
    exact h3.mono hc hs
  refine ⟨U, ?_, .threw T.heap.size, hrun, hend, Or.inr ⟨T.heap.size, rfl, cls, ce, locs, hx U hWs.alike f1 (fun q hq => f2 q hq (fun z hz => nomatch hz)), hce, hO.vm, hcl, hWs, hall, hf⟩⟩
  refine st1 _ ?_
  show Steps p.tables e below (T1.setTop { method := m, pc := pc + 3, locals := ls, stack := .ref T.heap.size :: rest, locked := none }) _
  jvm_step X₁.here [X₁.here.top, hexec, d3', Value.category]
  exact hsteps
/-- 'throw new E("text")': new; dup; ldc; invokespecial; athrow -/
theorem vx_throwS {cc : ByteArray} {pc : Nat} (hexec : p.tables.exec = Jvm.exec) (hb : c.code = cc) (hl : l.stackTraces = false) {own cls text : String} {names : List String} {ik is ic mc ms sa : Nat} {A : Nat → Prop}
    (hown : s.vm.findClass own = some m.cls) (hcls : Bundle.fit cls = true) (hnames : ∀ n ∈ names, Bundle.fit n = true)
    (hk : (Cond.classLink own ik cls).before args s = true) (hini : (Cond.initialized cls).before args s = true) (hstr : vk_R own is text sa s) (hat : ∀ w ∈ vx_atS own ic cls names, w.before args s = true)
    (hgood : ∀ w ∈ Cond.classLink own ik cls :: Cond.initialized cls :: vx_atS own ic cls names, vx_ot w = true)
    (hU : vx_Zq Bundle.tN "UNASSIGNED_STACK" Bundle.steD A s s.heap) (hN : vx_Zq Bundle.tN "SUPPRESSED_SENTINEL" Bundle.listD A s s.heap) (hS : va_S A s.heap H locs) (hsize : ls.size = c.maxLocals)
    (d0 : decode cc pc = .ok (.new ik, 3)) (d3 : decode cc (pc + 3) = .ok (.dup, 1)) (d4 : decode cc (pc + 4) = .ok (.ldc is, 2)) (d6 : decode cc (pc + 6) = .ok (.invokespecial ic, 3)) (d9 : decode cc (pc + 9) = .ok (.athrow, 1))
    (hout : ∀ x ∈ c.exceptionTable.toList, covers x (pc + 9) = false)
    (hRframes : names.length + 3 < R.frames) (hRlocals : (rest.map fun v => v.category).sum + (13 * (names.length + 1) + 43) ≤ R.locals) (hRcells : cells + 1 ≤ R.cells) (hRslots : slots + 6 ≤ R.slots) (hlocks : meth.locks = false)
    (hx : ∀ t : State, s.vm.Alike t.vm → H.size ≤ t.heap.size → (∀ q : Nat, q < H.size → t.heap[q]? = H[q]?) → XC cls s t)
    (hf : ∀ z ∈ locs, free z.base) (hc : cells + 1 ≤ mc) (hs : slots + 6 ≤ ms) :
    W p l e R s m args below meth c H locs cells slots (vx_MQ below Qc XC args s mc ms free) (F0 m pc ls rest) := by
  intro T hT X
  have htr : e.platform.stackTraces = false := (show e.platform.stackTraces = l.stackTraces by rw [X.admits.platform]).trans hl
  have Y := vx_rebase X (R' := { frames := R.frames, locals := R.locals, cells := 1, slots := 6 }) (Nat.le_refl _) (Nat.le_refl _) hRcells hRslots
  obtain ⟨s', hA⟩ : ∃ z, z = (T.setVm s.vm).setFrames (.invoking m args :: below) := ⟨_, rfl⟩
  rw [← hA] at Y
  have hvm : s'.vm = s.vm := by rw [hA]; rfl
  have hhp : s'.heap = H := by rw [hA]; exact hT
  have hW0 : s.WarmedH s'.vm := by rw [hvm]; exact State.WarmedH.refl s
  have hat' : ∀ w ∈ vx_atS own ic cls names, w.before args s' = true := fun w hw => vx_ot_at hW0 hvm.symm (hgood w (List.mem_cons_of_mem _ (List.mem_cons_of_mem _ hw))) (hat w hw)
  have hk' : (Cond.classLink own ik cls).before args s' = true := vx_ot_at hW0 hvm.symm (hgood _ List.mem_cons_self) hk
  have hini' : (Cond.initialized cls).before args s' = true := vx_ot_at hW0 hvm.symm (hgood _ (List.mem_cons_of_mem _ List.mem_cons_self)) hini
  have hU' : vx_Zq Bundle.tN "UNASSIGNED_STACK" Bundle.steD A s' s'.heap := by rw [hhp]; exact vx_Zq.moved hW0.alike (hU.kept hS.2.1)
  have hN' : vx_Zq Bundle.tN "SUPPRESSED_SENTINEL" Bundle.listD A s' s'.heap := by rw [hhp]; exact vx_Zq.moved hW0.alike (hN.kept hS.2.1)
  have h : ∀ w ∈ Bundle.ownAtoms own ic cls names, w.before args s' = true := vx_own hat' (vx_isRefq hU'.1) (vx_isRefq hN'.1) hU'.2.word hN'.2.word
  have hown' : s'.vm.findClass own = some m.cls := by rw [hvm]; exact hown
  have hins : (Cond.instantiable cls 6).before args s' = true := h _ (by simp [Bundle.ownAtoms])
  obtain ⟨vm₁, cX, kX, hfX, hkX, -, -, X₁, st1⟩ := Y.newCold hexec (own := own) (C := cls) (index := ik) (n := 6) hown' hk' hins hini'
    (g := F0 m pc ls rest) rfl (by rw [hb]; exact d0) (Nat.le_refl _) (Nat.le_refl _)
  generalize hT1 : (T.setVm vm₁).pushCell { cls := cX, slots := kX.instanceTypes.map defaultValue, vm := .none } = T1 at X₁ st1
  have hcat : (Value.ref T.heap.size).category = 1 := rfl
  have hcellA : T1.heap[T.heap.size]? = some (freshCell cX kX) := by rw [← hT1]; exact State.heap_pushCell_size _ _
  have d3' : decode c.code (pc + 3) = .ok (.dup, 1) := by rw [hb]; exact d3
  have d4' : decode c.code (pc + 4) = .ok (.ldc is, 2) := by rw [hb]; exact d4
  have hstr' : vk_R own is text sa s' := vk_R.warm hW0 hstr
  obtain ⟨U, hsteps, hrun, hend, hW, hsame, ce, hce, hO⟩ := X₁.ctorThrowS hexec htr (own := own) (cls := cls) (names := names) (ic := ic) hown' hcls hnames h (fun x hx => nomatch hx) hfX hkX hcellA (by rw [hhp, hT]; exact Nat.le_refl _) (msg := .ref sa) rfl
    (g := { method := m, pc := pc + 6, locals := ls, stack := .ref sa :: .ref T.heap.size :: .ref T.heap.size :: rest, locked := none }) rfl hsize rfl rfl (rest := rest) rfl
    (by rw [hb]; exact d6) (by rw [hb]; exact d9) hout hRframes (by simp only [List.map_cons, List.sum_cons, hcat]; omega) hlocks
  obtain ⟨f1, f2⟩ := vx_frame hsame
  rw [hhp] at f1 f2
  have hWs : s.WarmedH U.vm := State.WarmedH.trans hW0 hW
  have hcl : s.vm.findClass cls = some ce.cls := by
    have h9 := hO.cls
    rw [hvm] at h9
    exact h9
  have hall : s.sameButNew ({ U with vm := s.vm } : State) locs mc ms := by
    subst hA
    obtain ⟨e1, e2⟩ := hsame
    rw [State.setFrames_setFrames] at e1
    have h2 : (T.setVm s.vm).sameButNew ({ U with vm := s.vm } : State) [] (0 + 1) (0 + 6) := ⟨e1, e2⟩
    have h3 := X.same.trans h2
    rw [List.append_nil] at h3
    exact h3.mono hc hs
  refine ⟨U, ?_, .threw T.heap.size, hrun, hend, Or.inr ⟨T.heap.size, rfl, cls, ce, locs, hx U hWs.alike f1 (fun q hq => f2 q hq (fun z hz => nomatch hz)), hce, hO.vm, hcl, hWs, hall, hf⟩⟩
  refine st1 _ ?_
  show Steps p.tables e below (T1.setTop { method := m, pc := pc + 3, locals := ls, stack := .ref T.heap.size :: rest, locked := none }) _
  jvm_step X₁.here [X₁.here.top, hexec, d3', Value.category]
  exact X₁.ldcString hexec (own := own) (text := text) (index := is) (a := sa) hown' hstr'.1 hstr'.2
    (g := { method := m, pc := pc + 4, locals := ls, stack := .ref T.heap.size :: .ref T.heap.size :: rest, locked := none }) rfl d4' _ hsteps
/-- 'throw new E("text")', the text by a wide index -/
theorem vx_throwSW {cc : ByteArray} {pc : Nat} (hexec : p.tables.exec = Jvm.exec) (hb : c.code = cc) (hl : l.stackTraces = false) {own cls text : String} {names : List String} {ik is ic mc ms sa : Nat} {A : Nat → Prop}
    (hown : s.vm.findClass own = some m.cls) (hcls : Bundle.fit cls = true) (hnames : ∀ n ∈ names, Bundle.fit n = true)
    (hk : (Cond.classLink own ik cls).before args s = true) (hini : (Cond.initialized cls).before args s = true) (hstr : vk_R own is text sa s) (hat : ∀ w ∈ vx_atS own ic cls names, w.before args s = true)
    (hgood : ∀ w ∈ Cond.classLink own ik cls :: Cond.initialized cls :: vx_atS own ic cls names, vx_ot w = true)
    (hU : vx_Zq Bundle.tN "UNASSIGNED_STACK" Bundle.steD A s s.heap) (hN : vx_Zq Bundle.tN "SUPPRESSED_SENTINEL" Bundle.listD A s s.heap) (hS : va_S A s.heap H locs) (hsize : ls.size = c.maxLocals)
    (d0 : decode cc pc = .ok (.new ik, 3)) (d3 : decode cc (pc + 3) = .ok (.dup, 1)) (d4 : decode cc (pc + 4) = .ok (.ldc_w is, 3)) (d7 : decode cc (pc + 7) = .ok (.invokespecial ic, 3)) (d10 : decode cc (pc + 10) = .ok (.athrow, 1))
    (hout : ∀ x ∈ c.exceptionTable.toList, covers x (pc + 10) = false)
    (hRframes : names.length + 3 < R.frames) (hRlocals : (rest.map fun v => v.category).sum + (13 * (names.length + 1) + 43) ≤ R.locals) (hRcells : cells + 1 ≤ R.cells) (hRslots : slots + 6 ≤ R.slots) (hlocks : meth.locks = false)
    (hx : ∀ t : State, s.vm.Alike t.vm → H.size ≤ t.heap.size → (∀ q : Nat, q < H.size → t.heap[q]? = H[q]?) → XC cls s t)
    (hf : ∀ z ∈ locs, free z.base) (hc : cells + 1 ≤ mc) (hs : slots + 6 ≤ ms) :
    W p l e R s m args below meth c H locs cells slots (vx_MQ below Qc XC args s mc ms free) (F0 m pc ls rest) := by
  intro T hT X
  have htr : e.platform.stackTraces = false := (show e.platform.stackTraces = l.stackTraces by rw [X.admits.platform]).trans hl
  have Y := vx_rebase X (R' := { frames := R.frames, locals := R.locals, cells := 1, slots := 6 }) (Nat.le_refl _) (Nat.le_refl _) hRcells hRslots
  obtain ⟨s', hA⟩ : ∃ z, z = (T.setVm s.vm).setFrames (.invoking m args :: below) := ⟨_, rfl⟩
  rw [← hA] at Y
  have hvm : s'.vm = s.vm := by rw [hA]; rfl
  have hhp : s'.heap = H := by rw [hA]; exact hT
  have hW0 : s.WarmedH s'.vm := by rw [hvm]; exact State.WarmedH.refl s
  have hat' : ∀ w ∈ vx_atS own ic cls names, w.before args s' = true := fun w hw => vx_ot_at hW0 hvm.symm (hgood w (List.mem_cons_of_mem _ (List.mem_cons_of_mem _ hw))) (hat w hw)
  have hk' : (Cond.classLink own ik cls).before args s' = true := vx_ot_at hW0 hvm.symm (hgood _ List.mem_cons_self) hk
  have hini' : (Cond.initialized cls).before args s' = true := vx_ot_at hW0 hvm.symm (hgood _ (List.mem_cons_of_mem _ List.mem_cons_self)) hini
  have hU' : vx_Zq Bundle.tN "UNASSIGNED_STACK" Bundle.steD A s' s'.heap := by rw [hhp]; exact vx_Zq.moved hW0.alike (hU.kept hS.2.1)
  have hN' : vx_Zq Bundle.tN "SUPPRESSED_SENTINEL" Bundle.listD A s' s'.heap := by rw [hhp]; exact vx_Zq.moved hW0.alike (hN.kept hS.2.1)
  have h : ∀ w ∈ Bundle.ownAtoms own ic cls names, w.before args s' = true := vx_own hat' (vx_isRefq hU'.1) (vx_isRefq hN'.1) hU'.2.word hN'.2.word
  have hown' : s'.vm.findClass own = some m.cls := by rw [hvm]; exact hown
  have hins : (Cond.instantiable cls 6).before args s' = true := h _ (by simp [Bundle.ownAtoms])
  obtain ⟨vm₁, cX, kX, hfX, hkX, -, -, X₁, st1⟩ := Y.newCold hexec (own := own) (C := cls) (index := ik) (n := 6) hown' hk' hins hini'
    (g := F0 m pc ls rest) rfl (by rw [hb]; exact d0) (Nat.le_refl _) (Nat.le_refl _)
  generalize hT1 : (T.setVm vm₁).pushCell { cls := cX, slots := kX.instanceTypes.map defaultValue, vm := .none } = T1 at X₁ st1
  have hcat : (Value.ref T.heap.size).category = 1 := rfl
  have hcellA : T1.heap[T.heap.size]? = some (freshCell cX kX) := by rw [← hT1]; exact State.heap_pushCell_size _ _
  have d3' : decode c.code (pc + 3) = .ok (.dup, 1) := by rw [hb]; exact d3
  have d4' : decode c.code (pc + 4) = .ok (.ldc_w is, 3) := by rw [hb]; exact d4
  have hstr' : vk_R own is text sa s' := vk_R.warm hW0 hstr
  obtain ⟨U, hsteps, hrun, hend, hW, hsame, ce, hce, hO⟩ := X₁.ctorThrowS hexec htr (own := own) (cls := cls) (names := names) (ic := ic) hown' hcls hnames h (fun x hx => nomatch hx) hfX hkX hcellA (by rw [hhp, hT]; exact Nat.le_refl _) (msg := .ref sa) rfl
    (g := { method := m, pc := pc + 7, locals := ls, stack := .ref sa :: .ref T.heap.size :: .ref T.heap.size :: rest, locked := none }) rfl hsize rfl rfl (rest := rest) rfl
    (by rw [hb]; exact d7) (by rw [hb]; exact d10) hout hRframes (by simp only [List.map_cons, List.sum_cons, hcat]; omega) hlocks
  obtain ⟨f1, f2⟩ := vx_frame hsame
  rw [hhp] at f1 f2
  have hWs : s.WarmedH U.vm := State.WarmedH.trans hW0 hW
  have hcl : s.vm.findClass cls = some ce.cls := by
    have h9 := hO.cls
    rw [hvm] at h9
    exact h9
  have hall : s.sameButNew ({ U with vm := s.vm } : State) locs mc ms := by
    subst hA
    obtain ⟨e1, e2⟩ := hsame
    rw [State.setFrames_setFrames] at e1
    have h2 : (T.setVm s.vm).sameButNew ({ U with vm := s.vm } : State) [] (0 + 1) (0 + 6) := ⟨e1, e2⟩
    have h3 := X.same.trans h2
    rw [List.append_nil] at h3
    exact h3.mono hc hs
  refine ⟨U, ?_, .threw T.heap.size, hrun, hend, Or.inr ⟨T.heap.size, rfl, cls, ce, locs, hx U hWs.alike f1 (fun q hq => f2 q hq (fun z hz => nomatch hz)), hce, hO.vm, hcl, hWs, hall, hf⟩⟩
  refine st1 _ ?_
  show Steps p.tables e below (T1.setTop { method := m, pc := pc + 3, locals := ls, stack := .ref T.heap.size :: rest, locked := none }) _
  jvm_step X₁.here [X₁.here.top, hexec, d3', Value.category]
  exact X₁.ldcStringW hexec (own := own) (text := text) (index := is) (a := sa) hown' hstr'.1 hstr'.2
    (g := { method := m, pc := pc + 4, locals := ls, stack := .ref T.heap.size :: .ref T.heap.size :: rest, locked := none }) rfl d4' _ hsteps
end Ends
section Bodies
variable {l : Launch}
theorem vx_ofW {y : MethodName} {ws ws' : List Cond} {rm : Room} {Pc : Array Value → State → Prop} {Qc : Array Value → State → Outcome → State → Prop} {XC : String → State → State → Prop} {mc ms : Nat} {free : Addr → Prop} {cc : ByteArray} {maxL : Nat} {ret : Option FieldType}
    (hy : plainName y.cls = true) (hw : ws = Cond.code y cc maxL ret :: ws')
    (body : ∀ p e s m args below meth c s₁, BodyLoose p l y (headSpec ws rm) cc maxL ret e s m args below meth c s₁ → c.maxLocals = maxL → (∀ x ∈ c.exceptionTable.toList, False) → Pc args s →
      W p l e (headSpec ws rm).room s m args below meth c s.heap [] 0 0 (vx_MQ below Qc XC args s mc ms free) (entryFrame m args maxL)) : vx_Met l y ws rm Pc Qc XC mc ms free := by
  refine MetFree.of_bodyS (code := cc) (maxLocals := maxL) (ret := ret) hy ?_ ?_
  · intro args s m h hn
    obtain ⟨meth, c, h1, h2, h3, h4, h5, h6, -, -⟩ := Cond.code_spec hn (atoms_spec (ws := ws) h _ (by rw [hw]; exact List.mem_cons_self))
    exact ⟨meth, c, h1, h2, h3, h4, h5, h6⟩
  · intro p e s m args below meth c s₁ B hml hP _
    have hh0 : s₁.heap = s.heap := by rw [B.state]; rfl
    have ht : ∀ x ∈ c.exceptionTable.toList, False := by
      obtain ⟨meth9, c9, h1, h2, -, -, -, -, h7, -⟩ := Cond.code_spec B.named (atoms_spec (ws := ws) B.pre _ (by rw [hw]; exact List.mem_cons_self))
      cases Option.some.inj (h1.symm.trans B.method)
      cases Option.some.inj (h2.symm.trans (Stand.of_body B).code)
      intro x hx
      rw [Array.isEmpty_iff.mp h7] at hx
      cases hx
    obtain ⟨t, a1, o, b1, b2, b3⟩ := body p e s m args below meth c s₁ B hml ht hP s₁ hh0 (Stand.of_body B)
    exact ⟨t, o, a1, b1, b2, b3⟩
/-- the table of a body with handlers -/
theorem vx_table {p : Program} {x y : MethodName} {S : Spec} {cc bytes : ByteArray} {maxL maxL' : Nat} {ret ret' : Option FieldType} {e : Env} {s s₁ : State} {m : MethodId} {args : Array Value} {below : List Frame} {meth : Method} {c : Code} {hh : List (Nat × Nat × Nat × Nat)}
    (B : BodyLoose p l y S cc maxL ret e s m args below meth c s₁) (h : (Cond.codeWith y bytes maxL' ret' hh).before args s = true) : c.exceptionTable.toList = tableOf hh := by
  obtain ⟨m9, meth9, c9, hn9, h1, h2, -, -, h6, -⟩ := Cond.codeWith_spec h
  cases Option.some.inj (hn9.symm.trans B.named)
  cases Option.some.inj (h1.symm.trans B.method)
  cases Option.some.inj (h2.symm.trans (Stand.of_body B).code)
  rw [← h6, table_eq]
end Bodies
end VXA
/-! ===== END ===== -/
/-! ===== BEGIN a static call of a method with an exception table ===== -/
section VXS
variable {p : Program} {l : Launch} {e : Env} {R : Room} {s : State} {m : MethodId} {args : Array Value} {below : List Frame} {meth : Method} {c : Code} {T : State} {H : Heap} {locs : List Loc} {cells slots : Nat}
abbrev vx_CSW (R : Room) (s : State) (args : Array Value) (own : String) (index : Nat) (y : MethodName) (bytes : ByteArray) (maxL : Nat) (ret : Option FieldType) (hh : List (Nat × Nat × Nat × Nat)) (ws : List Cond) (rm : Room) (mc ms n : Nat) : Prop :=
  (rm.cells = mc ∧ rm.slots = ms ∧ rm.frames + 1 ≤ R.frames ∧ 8 + (maxL + 11) + rm.locals ≤ R.locals ∧ (∀ w ∈ ws, ∀ (a' : Array Value) (U : State), s.WarmedH U.vm → w.before a' U = true) ∧ Cond.codeWith y bytes maxL ret hh ∈ ws) ∧
  (Cond.codeWith y bytes maxL ret hh).before args s = true ∧ (Cond.initialized y.cls).before args s = true ∧ (y.cls ≠ "java/lang/invoke/MethodHandle" ∧ y.cls ≠ "java/lang/invoke/VarHandle") ∧
  (∀ sig, parseMethodDescriptor y.desc = some sig → n = sig.parameters.length) ∧ (Cond.methodLink own index y).before args s = true ∧ (Cond.static y).before args s = true
theorem vx_cwSW {own : String} {index maxL mc ms : Nat} {y : MethodName} {bytes : ByteArray} {ret : Option FieldType} {hh : List (Nat × Nat × Nat × Nat)} {Ts ws ws' : List Cond} {rm : Room} (n : Nat) (ht : ∀ w ∈ Ts, w.before args s = true) (hT : GoodIn Ts (va_wsS own index y ws)) (hw : ws = Cond.codeWith y bytes maxL ret hh :: ws') (hrc : rm.cells = mc) (hrs : rm.slots = ms)
    (hd : y.cls ≠ "java/lang/invoke/MethodHandle" ∧ y.cls ≠ "java/lang/invoke/VarHandle" ∧ (parseMethodDescriptor y.desc).map (fun d => d.parameters.length) = some n) (hR : rm.frames + 1 ≤ R.frames ∧ 8 + (maxL + 11) + rm.locals ≤ R.locals) :
    vx_CSW R s args own index y bytes maxL ret hh ws rm mc ms n := by
  have ok : ∀ w ∈ va_wsS own index y ws, w.before args s = true := fun w h => ht w (hT w h).1
  have hG : GoodIn Ts ws := fun w h => hT w (by unfold va_wsS; exact List.mem_append_right _ h)
  have hc : Cond.codeWith y bytes maxL ret hh ∈ ws := by rw [hw]; exact List.mem_cons_self
  refine ⟨⟨hrc, hrs, hR.1, hR.2, pay_in ht hG, hc⟩, ht _ (hG _ hc).1, ok _ (by simp [va_wsS]), ⟨hd.1, hd.2.1⟩, fun sig h => ?_, ok _ (by simp [va_wsS]), ok _ (by simp [va_wsS])⟩
  have h2 := hd.2.2
  rw [h] at h2
  exact (Option.some.inj h2).symm
theorem vx_callSW (X : Stand p l e R s m args below meth c T locs cells slots) (hexec : p.tables.exec = Jvm.exec) {own : String} {index : Nat} {y : MethodName} {bytes : ByteArray} {maxL : Nat} {ret : Option FieldType} {hh : List (Nat × Nat × Nat × Nat)}
    (hown : s.vm.findClass own = some m.cls) (hlink : (Cond.methodLink own index y).before args s = true) (hstat : (Cond.static y).before args s = true) (hinit : (Cond.initialized y.cls).before args s = true)
    (hcode : (Cond.codeWith y bytes maxL ret hh).before args s = true) (hy : y.cls ≠ "java/lang/invoke/MethodHandle" ∧ y.cls ≠ "java/lang/invoke/VarHandle")
    {W9 : Nat} {Pre : Pt → Array Value → Prop} {Post : Pt → Array Value → Option Value → Pt → Prop} (hK : Back l R p e below s args y 3 W9 Pre Post)
    {g : JFrame} (hg : g.method = m) (hsize : g.locals.size = c.maxLocals) {argsL rest : List Value} (hlen : ∀ sig, parseMethodDescriptor y.desc = some sig → argsL.length = sig.parameters.length)
    (hstack : g.stack = argsL.reverse ++ rest) (hW : 2 * g.monitorRoom + (rest.map fun v => v.category).sum ≤ W9) (hdg : decode c.code g.pc = .ok (.invokestatic index, 3))
    (hpre : ∀ vm₁, s.WarmedH vm₁ → Pre ⟨T.setVm vm₁, locs, cells, slots⟩ argsL.toArray) :
    ∃ (v : Option Value) (vm₁ : Vm) (B : Pt), s.WarmedH vm₁ ∧ Stand p l e R s m args below meth c B.U B.locs B.cells B.slots ∧ Post ⟨T.setVm vm₁, locs, cells, slots⟩ argsL.toArray v B ∧
      ∀ target, Steps p.tables e below (B.U.setTop { g with pc := g.pc + 3, stack := v.toList ++ rest }) target → Steps p.tables e below (T.setTop g) target := by
  obtain ⟨mk, methM, cM, hnamed, hmethM, -, -, -, -, -, -, hsigM⟩ := Cond.codeWith_spec hcode
  have hstatic : methM.isStatic = true := Cond.static_spec hnamed hmethM hstat
  obtain ⟨kP, hkP, -⟩ := className_of_methodNamed hnamed
  have hinitP : kP.init = .initialized := Cond.initialized_spec (findClass_of_methodNamed hnamed) hkP hinit
  obtain ⟨vm₁, X₁, hstep₁⟩ := X.invokestatic hexec hown hlink hnamed hmethM hstatic hkP hinitP hy (g := g) hg (argsL := argsL) (rest := rest) (hlen _ hsigM) hstack hdg
  obtain ⟨v, B, X', hpost, hsteps⟩ := hK m meth c ⟨T.setVm vm₁, locs, cells, slots⟩ { g with stack := rest } (.invokestatic index) mk argsL.toArray X₁ hg hsize hdg hW (X₁.named hnamed) (hpre vm₁ X₁.warmed)
  exact ⟨v, vm₁, B, X₁.warmed, X', hpost, fun target h => hstep₁ _ fun acts => by rw [doInvoke_state]; exact hsteps.trans h⟩
theorem vx_runSW {y : MethodName} {bytes cc : ByteArray} {maxL nL mc ms n index : Nat} {ret : Option FieldType} {hh : List (Nat × Nat × Nat × Nat)} {ws : List Cond} {rm : Room} {Pc : Array Value → State → Prop} {Qc : Array Value → State → Outcome → State → Prop} {free : Addr → Prop} {Ts : List Cond} {own : String} {As rest : List Value} {g : JFrame}
    (S : CallFix p m c cc nL s args Ts own) (hM : Met l y ws rm Pc Qc mc ms free) (cw : vx_CSW R s args own index y bytes maxL ret hh ws rm mc ms n) (hp : PreS s H Pc As)
    (hg : g.method = m) (hn : As.length = n) (hsize : g.locals.size = nL) (hstack : g.stack = As.reverse ++ rest) (hW : 2 * g.monitorRoom + (rest.map fun v => v.category).sum ≤ 8) (hdg : decode cc g.pc = .ok (.invokestatic index, 3)) (hf : cells + mc ≤ R.cells ∧ slots + ms ≤ R.slots) :
    va_Run p l e R s m args below meth c H locs cells slots mc ms g rest (Qc As.toArray) (free) := by
  obtain ⟨⟨hrc, hrs, hfr, hlo, hws, hcw⟩, hcode, hini, hy, hlen, hl, hstt⟩ := cw
  have hK : Back l R p e below s args y 3 8 (PreOf R mc ms Pc) (PostOf Qc mc ms free) := va_backW (hh := hh) (bytes := bytes) (maxL := maxL) (ret := ret) hM hp.1 hrc hrs hfr hlo hws hcw (fun a' U hW => word_at hW (Or.inl (by first | rfl | simp [Cond.onTables, Cond.keeps, Cond.steady])) hini)
  obtain ⟨hx, hb, hml, ho, -⟩ := S
  intro T hT X
  obtain ⟨v, vm₁, ⟨U', l2, c2, s2⟩, hW₁, X', ⟨g', mk, t, L, e1, e2, hq, h1, hL, h2, h3⟩, st⟩ := vx_callSW X hx (hh := hh) (bytes := bytes) (maxL := maxL) (ret := ret) ho hl hstt hini hcode hy hK hg (hsize.trans hml.symm) (argsL := As) (rest := rest) (fun sig h => hn.trans (hlen sig h)) hstack hW (by rw [hb]; exact hdg)
    (fun vm₁ hW₁ => ⟨hf.1, hf.2, hp.2 (T.setVm vm₁) hT hW₁⟩)
  dsimp only [Pt.U, Pt.locs, Pt.cells, Pt.slots] at X' e1 e2 h1 h2 h3 st
  subst h1; subst h2; subst h3
  exact ⟨v, (T.setVm vm₁).calling g' mk As.toArray, t, U', L, hT, X', hL, e1, e2, hq, st⟩
/-- not caught here, past rows that name other classes: it goes on to the caller -/
theorem vx_outP {p : Program} {l : Launch} {e : Env} {R : Room} {s : State} {m : MethodId} {args : Array Value} {below : List Frame} {meth : Method} {c : Code} {H : Heap} {locs : List Loc} {cells slots : Nat} {free : Addr → Prop} {ls : Array Slot} {rest : List Value} {Qc : Array Value → State → Outcome → State → Prop} {XC : String → State → State → Prop}
    {pc : Nat} {own E : String} {ce : Cell} {q : Addr} {mc ms : Nat} (hown : s.vm.findClass own = some m.cls) (hlocks : meth.locks = false)
    (hpass : ∀ z ∈ c.exceptionTable.toList, covers z pc = false ∨ (z.catchType ≠ 0 ∧ ∃ nm : String, (Cond.classLink own z.catchType nm).before args s = true ∧ va_Nc E nm s)) (hcell : H[q]? = some ce) (hv : ce.vm = .none) (hcl : s.vm.findClass E = some ce.cls)
    (hx : ∀ t : State, t.heap = H → s.vm.Alike t.vm → XC E s t) (hf : ∀ z ∈ locs, free z.base) (hc : cells ≤ mc) (hs : slots ≤ ms) :
    vx_W p l e R s m args below meth c H locs cells slots (vx_MQ below Qc XC args s mc ms free) (F0 m pc ls rest) q := by
  intro T hT X
  have hpl : e.platform.magicAccessors = ({} : Platform).magicAccessors := by rw [X.admits.platform]
  obtain ⟨vm', hW', X', st⟩ := X.outThrough hlocks q (g := F0 m pc ls rest) rfl rfl rfl (cell := ce) (by rw [hT]; exact hcell) (by rw [hv]; rfl)
    (by obtain ⟨k9, h9, -⟩ := Vm.findClass_spec hcl; exact ⟨k9, h9⟩) (fun z hz => by
      rcases hpass z hz with h | ⟨hz0, nm, hl1, hn1⟩
      · exact Or.inl h
      · obtain ⟨c6, hc6, hcl6⟩ := Cond.classLink_spec hown hl1 e.platform hpl
        obtain ⟨a8, b8, h1, h2, h3⟩ := hn1
        cases Option.some.inj (h1.symm.trans hcl)
        cases Option.some.inj (h2.symm.trans hc6)
        exact Or.inr ⟨hz0, _, hcl6, h3⟩)
  obtain ⟨g₀, hfr⟩ := X'.frames_eq
  have hcell9 : ((T.setVm vm').setFrames (.throwing q :: below)).heap[q]? = some ce := by
    show T.heap[q]? = some ce
    rw [hT]; exact hcell
  have hend : Ended ((T.setVm vm').setFrames (.throwing q :: below)) below (.threw q) := State.frames_setFrames _ (State.cur_lt_of_frames hfr)
  refine ⟨(T.setVm vm').setFrames (.throwing q :: below), ?_, .threw q, X'.here.running, hend, Or.inr ⟨q, rfl, E, ce, locs, hx _ hT (X'.ends _).1.alike, hcell9, hv, hcl, (X'.ends _).1, (X'.ends _).2.mono hc hs, hf⟩⟩
  rw [X.pushThrowing_eq]
  exact st
/-- a thing of a world lies in the heap -/
theorem vx_lt {D : va_G} {cl : List vw_C} {ws : va_W} {H1 : Heap} (h : va_P D cl ws H1) {k : Nat} {q : Nat × va_E} (hk : ws[k]? = some q) : q.1 < H1.size := (h k q hk).lt
end VXS
/-! ===== END ===== -/
/-! ===== BEGIN methods with a table of their own: called by a name, returning or throwing ===== -/
section VXH
/-! vx_backW, vx_callVX, vx_callSX, vx_callVW, vx_runVW, vx_runVX, vx_runSX, vx_ofWH follow the same proofs as their sisters above (Free/Laws.lean, Shelf42/LK1.lean); vx_outP calls Shelf42/NT130.lean (outThrough). -/
section
variable {l : Launch} {R : Room} {p : Program} {e : Env} {below : List Frame} {s : State} {sargs : Array Value} {y : MethodName} {len W9 : Nat}
theorem vx_backW {ws : List Cond} {rm : Room} {Pc : Array Value → State → Prop} {Qc : Array Value → State → Outcome → State → Prop} {XC : String → State → State → Prop} {mc ms : Nat} {free : Addr → Prop} {bytes : ByteArray} {maxL : Nat} {ret : Option FieldType} {hh : List (Nat × Nat × Nat × Nat)}
    (hM : vx_Met l y ws rm Pc Qc XC mc ms free) (hblind : FrameBlind Pc) (hrc : rm.cells = mc) (hrs : rm.slots = ms)
    (hframes : rm.frames + 1 ≤ R.frames) (hlocals : W9 + (maxL + 11) + rm.locals ≤ R.locals)
    (hws : ∀ w ∈ ws, ∀ a' U, s.WarmedH U.vm → w.before a' U = true) (hcode : Cond.codeWith y bytes maxL ret hh ∈ ws) (hinit : ∀ a' U, s.WarmedH U.vm → (Cond.initialized y.cls).before a' U = true) :
    vx_Back l R p e below s sargs y len W9 (PreOf R mc ms Pc) (PostOf Qc mc ms free) (vx_Post XC mc ms free) := by
  intro m meth c A g ig mk a X hg hsize hdg hW hn hp
  have h1 : (headSpec ws rm).pre.before a A.U = true := atoms_intro fun w hw => hws w hw _ _ X.warmed
  have h2 : (Cond.codeWith y bytes maxL ret hh).before a A.U = true := hws _ hcode _ _ X.warmed
  have h3 : (Cond.initialized y.cls).before a A.U = true := hinit _ _ X.warmed
  have h4 : A.cells + (headSpec ws rm).room.cells ≤ R.cells := by rw [show (headSpec ws rm).room.cells = mc from hrc]; exact hp.1
  have h5 : A.slots + (headSpec ws rm).room.slots ≤ R.slots := by rw [show (headSpec ws rm).room.slots = ms from hrs]; exact hp.2.1
  have hPc : Pc a (A.U.calling g mk a) := hblind _ _ _ _ hp.2.2
  obtain ⟨U, Ls, c0, s0⟩ := A
  dsimp only [Pt.U, Pt.locs, Pt.cells, Pt.slots] at h1 h2 h3 h4 h5 X hn hPc ⊢
  obtain ⟨m9, methY, cY, hn9, hmY, hcY, -, hlY, -⟩ := Cond.codeWith_spec h2
  cases Option.some.inj (hn9.symm.trans hn)
  obtain ⟨kY, hkY, -⟩ := className_of_methodNamed hn
  have hinitY : kY.init = .initialized := Cond.initialized_spec (findClass_of_methodNamed hn) hkY h3
  have h : At U g.method c below := by rw [hg]; exact X.here
  have hlocals9 : W9 + (maxL + 11) + (headSpec ws rm).room.locals ≤ R.locals := hlocals
  have happ : (headSpec ws rm).appliesLoose y e.platform (U.calling g mk a) = true :=
    Spec.appliesLoose_calling (g := g) h hdg hn hkY hinitY
      (X.room_calling (g := g) (R' := (headSpec ws rm).room) hsize hmY hcY hframes (by rw [hlY]; omega) h4 h5) h1
  obtain ⟨mid, hmid⟩ := h.above
  have hfr : (U.setTop g).frames = (.java g :: mid) ++ below := by rw [State.frames_setTop' g h.top, hmid]; rfl
  obtain ⟨o, s₂, hsteps, -, hend, hq⟩ := Steps.callFree hM p X.admits X.cas X.clock (acts := []) hfr happ hPc trivial
  have hq' : vx_Q Qc XC mc ms free a (U.calling g mk a) o s₂ := hq
  rw [State.frames_setTop' g h.top] at hend
  obtain ⟨g₀, hg0⟩ := Option.isSome_iff_exists.mp h.top
  obtain ⟨r, hr⟩ := State.topJava?_eq_some.mp hg0
  have hr' : (({ U with heap := s₂.heap, slotsUsed := s₂.slotsUsed } : State).setVm s₂.vm).frames = .java g₀ :: r := hr
  rcases hq' with ⟨hqc, L, hfe, hL⟩ | ⟨q, rfl, E, ce, L, hx, hce, hcv, hcl, hW₂, hsm, hL⟩
  · obtain ⟨⟨v, rfl⟩, hW₂, e2, q2, q3, q4, q5, q6⟩ := id hfe
    have e3 : s₂ = ({ (U.calling g mk a).setFrames s₂.frames with heap := s₂.heap, slotsUsed := s₂.slotsUsed } : State).setVm s₂.vm := by
      have : s₂ = ({ s₂ with vm := (U.calling g mk a).vm } : State).setVm s₂.vm := rfl
      rw [e2] at this
      exact this
    obtain ⟨c₂, i₂, len₂, hc₂, hd₂, hf₂⟩ := hend
    have hW' : U.WarmedH s₂.vm := hW₂
    have hcc : c₂ = c := by
      have h1 : s₂.code? g.method = U.code? g.method := by
        rw [State.code?_eq, State.code?_eq, hW'.alike.method?]
      exact Option.some.inj (hc₂.symm.trans (h1.trans h.code))
    subst hcc
    have hlen : len₂ = len := by rw [hdg] at hd₂; cases hd₂; rfl
    subst hlen
    have hs₂ : s₂ = (({ U with heap := s₂.heap, slotsUsed := s₂.slotsUsed } : State).setVm s₂.vm).setTop { g with pc := g.pc + len₂, stack := v.toList ++ g.stack } := by
      refine e3.trans ?_
      rw [hf₂, State.calling_eq h.top, State.setFrames_setFrames, State.setTop_of_frames _ hr', hr]
      rfl
    have hsame : U.sameButNew ({ U with heap := s₂.heap, slotsUsed := s₂.slotsUsed } : State) L mc ms := by
      refine ⟨?_, q2, q3, q4, q5, q6⟩
      obtain ⟨t, ht, -⟩ := State.frames_cons hr
      show ({ U with heap := s₂.heap, slotsUsed := s₂.slotsUsed } : State) = { U.setFrames U.frames with heap := s₂.heap, slotsUsed := s₂.slotsUsed }
      rw [State.setFrames_self ht]
    subst hg
    refine Or.inl ⟨v, ⟨(({ U with heap := s₂.heap, slotsUsed := s₂.slotsUsed } : State).setVm s₂.vm), Ls ++ L, c0 + mc, s0 + ms⟩,
      ⟨X.admits, X.cas, X.clock, X.frames, X.room, X.hears, X.method, X.code, (X.here.setHeapUsed s₂.heap s₂.slotsUsed).setVm hW'.alike, X.tail, State.WarmedH.trans X.warmed hW', X.limits, X.bytes, X.same.trans (hsame.setVm s.vm)⟩,
      ⟨g, mk, s₂, L, rfl, rfl, hqc, rfl, hL, rfl, rfl⟩, ?_⟩
    show Steps p.tables e below _ ((({ U with heap := s₂.heap, slotsUsed := s₂.slotsUsed } : State).setVm s₂.vm).setTop { g with pc := g.pc + len₂, stack := v.toList ++ g.stack })
    rw [← hs₂]
    exact hsteps
  · obtain ⟨e2, q2, q3, q4, q5, q6⟩ := id hsm
    have e3 : s₂ = ({ (U.calling g mk a).setFrames s₂.frames with heap := s₂.heap, slotsUsed := s₂.slotsUsed } : State).setVm s₂.vm := by
      have : s₂ = ({ s₂ with vm := (U.calling g mk a).vm } : State).setVm s₂.vm := rfl
      rw [e2] at this
      exact this
    have hf₂ : s₂.frames = .throwing q :: .java g :: U.frames.tail := hend
    have hW' : U.WarmedH s₂.vm := hW₂
    have hs₂ : s₂ = ((({ U with heap := s₂.heap, slotsUsed := s₂.slotsUsed } : State).setVm s₂.vm).setTop g).pushFrame (.throwing q) := by
      refine e3.trans ?_
      rw [hf₂, State.calling_eq h.top, State.setFrames_setFrames, State.pushFrame, State.frames_setTop _ hr', State.setTop_of_frames _ hr', State.setFrames_setFrames, hr]
      rfl
    have hsame : U.sameButNew ({ U with heap := s₂.heap, slotsUsed := s₂.slotsUsed } : State) L mc ms := by
      refine ⟨?_, q2, q3, q4, q5, q6⟩
      obtain ⟨t, ht, -⟩ := State.frames_cons hr
      show ({ U with heap := s₂.heap, slotsUsed := s₂.slotsUsed } : State) = { U.setFrames U.frames with heap := s₂.heap, slotsUsed := s₂.slotsUsed }
      rw [State.setFrames_self ht]
    subst hg
    refine Or.inr ⟨q, ⟨(({ U with heap := s₂.heap, slotsUsed := s₂.slotsUsed } : State).setVm s₂.vm), Ls ++ L, c0 + mc, s0 + ms⟩,
      ⟨X.admits, X.cas, X.clock, X.frames, X.room, X.hears, X.method, X.code, (X.here.setHeapUsed s₂.heap s₂.slotsUsed).setVm hW'.alike, X.tail, State.WarmedH.trans X.warmed hW', X.limits, X.bytes, X.same.trans (hsame.setVm s.vm)⟩,
      ⟨g, mk, s₂, L, E, ce, rfl, rfl, hx, hce, hcv, hcl, rfl, hL, rfl, rfl⟩, ?_⟩
    show Steps p.tables e below _ (((({ U with heap := s₂.heap, slotsUsed := s₂.slotsUsed } : State).setVm s₂.vm).setTop g).pushFrame (.throwing q))
    rw [← hs₂]
    exact hsteps
end
variable {p : Program} {l : Launch} {e : Env} {R : Room} {s : State} {m : MethodId} {args : Array Value} {below : List Frame} {meth : Method} {c : Code} {T : State} {H : Heap} {locs : List Loc} {cells slots : Nat}
theorem vx_callVX (X : Stand p l e R s m args below meth c T locs cells slots) (hexec : p.tables.exec = Jvm.exec) {own C : String} {index : Nat} {y : MethodName} {bytes : ByteArray} {maxL : Nat} {ret : Option FieldType} {hh : List (Nat × Nat × Nat × Nat)}
    (hown : s.vm.findClass own = some m.cls) (hlink : (Cond.methodLink own index y).before args s = true) (hinst : (Cond.instanceMethod y).before args s = true) (hsel : (Cond.selects C y y).before args s = true)
    (hcode : (Cond.codeWith y bytes maxL ret hh).before args s = true) (hy : y.cls ≠ "java/lang/invoke/MethodHandle" ∧ y.cls ≠ "java/lang/invoke/VarHandle")
    {W9 : Nat} {Pre : Pt → Array Value → Prop} {Post : Pt → Array Value → Option Value → Pt → Prop} {PostX : Pt → Array Value → Addr → Pt → Prop} (hK : vx_Back l R p e below s args y 3 W9 Pre Post PostX)
    {b : Addr} {cellB : Cell} (hcell : T.heap[b]? = some cellB) (hobj : cellB.vm.isStatics = false) (hcls : s.vm.findClass C = some cellB.cls)
    {g : JFrame} (hg : g.method = m) (hsize : g.locals.size = c.maxLocals) {argsL rest : List Value} (hlen : ∀ sig, parseMethodDescriptor y.desc = some sig → argsL.length = sig.parameters.length)
    (hstack : g.stack = argsL.reverse ++ .ref b :: rest) (hW : 2 * g.monitorRoom + (rest.map fun v => v.category).sum ≤ W9) (hdg : decode c.code g.pc = .ok (.invokevirtual index, 3))
    (hpre : ∀ vm₁, s.WarmedH vm₁ → Pre ⟨T.setVm vm₁, locs, cells, slots⟩ (Value.ref b :: argsL).toArray) :
    (∃ (v : Option Value) (vm₁ : Vm) (B : Pt), s.WarmedH vm₁ ∧ Stand p l e R s m args below meth c B.U B.locs B.cells B.slots ∧ Post ⟨T.setVm vm₁, locs, cells, slots⟩ (Value.ref b :: argsL).toArray v B ∧
      ∀ target, Steps p.tables e below (B.U.setTop { g with pc := g.pc + 3, stack := v.toList ++ rest }) target → Steps p.tables e below (T.setTop g) target) ∨
    (∃ (q : Addr) (vm₁ : Vm) (B : Pt), s.WarmedH vm₁ ∧ Stand p l e R s m args below meth c B.U B.locs B.cells B.slots ∧ PostX ⟨T.setVm vm₁, locs, cells, slots⟩ (Value.ref b :: argsL).toArray q B ∧
      Steps p.tables e below (T.setTop g) ((B.U.setTop { g with stack := rest }).pushFrame (.throwing q))) := by
  obtain ⟨mk, methM, hnamed, hmethM, hstM, habM⟩ := Cond.instanceMethod_spec hinst
  obtain ⟨m8, methM', cM, hn8, hmethM', -, -, -, -, -, -, hsigM⟩ := Cond.codeWith_spec hcode
  cases Option.some.inj (hn8.symm.trans hnamed)
  cases hmethM.symm.trans hmethM'
  obtain ⟨c2, r2, m2, q1, q2, q3, q4, kP, hkP, hkPi⟩ := Cond.selects_spec hsel
  cases hcls.symm.trans q1
  cases (State.methodFound?_of_named hnamed hy).symm.trans q2
  cases hnamed.symm.trans q3
  have hselP : selectMethod e.platform s.vm cellB.cls mk = .method mk := by rw [Launch.admits_selectMethod X.admits]; exact q4
  obtain ⟨vm₁, X₁, hstep₁⟩ := X.invokevirtual hexec hown hlink hnamed hmethM hstM hkP hkPi hy (a := b) (cell := cellB) hcell
    (fun z h => by rw [h] at hobj; cases hobj) hselP hmethM habM hkP hkPi (g := g) hg (argsL := argsL) (rest := rest) (hlen _ hsigM) hstack hdg
  rcases hK m meth c ⟨T.setVm vm₁, locs, cells, slots⟩ { g with stack := rest } (.invokevirtual index) mk (Value.ref b :: argsL).toArray X₁ hg hsize hdg hW (X₁.named hnamed) (hpre vm₁ X₁.warmed) with ⟨v, B, X', hpost, hsteps⟩ | ⟨q, B, X', hpost, hsteps⟩
  · exact Or.inl ⟨v, vm₁, B, X₁.warmed, X', hpost, fun target h => hstep₁ _ fun acts => by rw [doInvoke_state]; exact hsteps.trans h⟩
  · exact Or.inr ⟨q, vm₁, B, X₁.warmed, X', hpost, hstep₁ _ fun acts => by rw [doInvoke_state]; exact hsteps⟩
theorem vx_callSX (X : Stand p l e R s m args below meth c T locs cells slots) (hexec : p.tables.exec = Jvm.exec) {own : String} {index : Nat} {y : MethodName} {bytes : ByteArray} {maxL : Nat} {ret : Option FieldType} {hh : List (Nat × Nat × Nat × Nat)}
    (hown : s.vm.findClass own = some m.cls) (hlink : (Cond.methodLink own index y).before args s = true) (hstat : (Cond.static y).before args s = true) (hinit : (Cond.initialized y.cls).before args s = true)
    (hcode : (Cond.codeWith y bytes maxL ret hh).before args s = true) (hy : y.cls ≠ "java/lang/invoke/MethodHandle" ∧ y.cls ≠ "java/lang/invoke/VarHandle")
    {W9 : Nat} {Pre : Pt → Array Value → Prop} {Post : Pt → Array Value → Option Value → Pt → Prop} {PostX : Pt → Array Value → Addr → Pt → Prop} (hK : vx_Back l R p e below s args y 3 W9 Pre Post PostX)
    {g : JFrame} (hg : g.method = m) (hsize : g.locals.size = c.maxLocals) {argsL rest : List Value} (hlen : ∀ sig, parseMethodDescriptor y.desc = some sig → argsL.length = sig.parameters.length)
    (hstack : g.stack = argsL.reverse ++ rest) (hW : 2 * g.monitorRoom + (rest.map fun v => v.category).sum ≤ W9) (hdg : decode c.code g.pc = .ok (.invokestatic index, 3))
    (hpre : ∀ vm₁, s.WarmedH vm₁ → Pre ⟨T.setVm vm₁, locs, cells, slots⟩ argsL.toArray) :
    (∃ (v : Option Value) (vm₁ : Vm) (B : Pt), s.WarmedH vm₁ ∧ Stand p l e R s m args below meth c B.U B.locs B.cells B.slots ∧ Post ⟨T.setVm vm₁, locs, cells, slots⟩ argsL.toArray v B ∧
      ∀ target, Steps p.tables e below (B.U.setTop { g with pc := g.pc + 3, stack := v.toList ++ rest }) target → Steps p.tables e below (T.setTop g) target) ∨
    (∃ (q : Addr) (vm₁ : Vm) (B : Pt), s.WarmedH vm₁ ∧ Stand p l e R s m args below meth c B.U B.locs B.cells B.slots ∧ PostX ⟨T.setVm vm₁, locs, cells, slots⟩ argsL.toArray q B ∧
      Steps p.tables e below (T.setTop g) ((B.U.setTop { g with stack := rest }).pushFrame (.throwing q))) := by
  obtain ⟨mk, methM, cM, hnamed, hmethM, -, -, -, -, -, -, hsigM⟩ := Cond.codeWith_spec hcode
  have hstatic : methM.isStatic = true := Cond.static_spec hnamed hmethM hstat
  obtain ⟨kP, hkP, -⟩ := className_of_methodNamed hnamed
  have hinitP : kP.init = .initialized := Cond.initialized_spec (findClass_of_methodNamed hnamed) hkP hinit
  obtain ⟨vm₁, X₁, hstep₁⟩ := X.invokestatic hexec hown hlink hnamed hmethM hstatic hkP hinitP hy (g := g) hg (argsL := argsL) (rest := rest) (hlen _ hsigM) hstack hdg
  rcases hK m meth c ⟨T.setVm vm₁, locs, cells, slots⟩ { g with stack := rest } (.invokestatic index) mk argsL.toArray X₁ hg hsize hdg hW (X₁.named hnamed) (hpre vm₁ X₁.warmed) with ⟨v, B, X', hpost, hsteps⟩ | ⟨q, B, X', hpost, hsteps⟩
  · exact Or.inl ⟨v, vm₁, B, X₁.warmed, X', hpost, fun target h => hstep₁ _ fun acts => by rw [doInvoke_state]; exact hsteps.trans h⟩
  · exact Or.inr ⟨q, vm₁, B, X₁.warmed, X', hpost, hstep₁ _ fun acts => by rw [doInvoke_state]; exact hsteps⟩
theorem vx_callVW (X : Stand p l e R s m args below meth c T locs cells slots) (hexec : p.tables.exec = Jvm.exec) {own C : String} {index : Nat} {y : MethodName} {bytes : ByteArray} {maxL : Nat} {ret : Option FieldType} {hh : List (Nat × Nat × Nat × Nat)}
    (hown : s.vm.findClass own = some m.cls) (hlink : (Cond.methodLink own index y).before args s = true) (hinst : (Cond.instanceMethod y).before args s = true) (hsel : (Cond.selects C y y).before args s = true)
    (hcode : (Cond.codeWith y bytes maxL ret hh).before args s = true) (hy : y.cls ≠ "java/lang/invoke/MethodHandle" ∧ y.cls ≠ "java/lang/invoke/VarHandle")
    {W9 : Nat} {Pre : Pt → Array Value → Prop} {Post : Pt → Array Value → Option Value → Pt → Prop} (hK : Back l R p e below s args y 3 W9 Pre Post)
    {b : Addr} {cellB : Cell} (hcell : T.heap[b]? = some cellB) (hobj : cellB.vm.isStatics = false) (hcls : s.vm.findClass C = some cellB.cls)
    {g : JFrame} (hg : g.method = m) (hsize : g.locals.size = c.maxLocals) {argsL rest : List Value} (hlen : ∀ sig, parseMethodDescriptor y.desc = some sig → argsL.length = sig.parameters.length)
    (hstack : g.stack = argsL.reverse ++ .ref b :: rest) (hW : 2 * g.monitorRoom + (rest.map fun v => v.category).sum ≤ W9) (hdg : decode c.code g.pc = .ok (.invokevirtual index, 3))
    (hpre : ∀ vm₁, s.WarmedH vm₁ → Pre ⟨T.setVm vm₁, locs, cells, slots⟩ (Value.ref b :: argsL).toArray) :
    ∃ (v : Option Value) (vm₁ : Vm) (B : Pt), s.WarmedH vm₁ ∧ Stand p l e R s m args below meth c B.U B.locs B.cells B.slots ∧ Post ⟨T.setVm vm₁, locs, cells, slots⟩ (Value.ref b :: argsL).toArray v B ∧
      ∀ target, Steps p.tables e below (B.U.setTop { g with pc := g.pc + 3, stack := v.toList ++ rest }) target → Steps p.tables e below (T.setTop g) target := by
  obtain ⟨mk, methM, hnamed, hmethM, hstM, habM⟩ := Cond.instanceMethod_spec hinst
  obtain ⟨m8, methM', cM, hn8, hmethM', -, -, -, -, -, -, hsigM⟩ := Cond.codeWith_spec hcode
  cases Option.some.inj (hn8.symm.trans hnamed)
  cases hmethM.symm.trans hmethM'
  obtain ⟨c2, r2, m2, q1, q2, q3, q4, kP, hkP, hkPi⟩ := Cond.selects_spec hsel
  cases hcls.symm.trans q1
  cases (State.methodFound?_of_named hnamed hy).symm.trans q2
  cases hnamed.symm.trans q3
  have hselP : selectMethod e.platform s.vm cellB.cls mk = .method mk := by rw [Launch.admits_selectMethod X.admits]; exact q4
  obtain ⟨vm₁, X₁, hstep₁⟩ := X.invokevirtual hexec hown hlink hnamed hmethM hstM hkP hkPi hy (a := b) (cell := cellB) hcell
    (fun z h => by rw [h] at hobj; cases hobj) hselP hmethM habM hkP hkPi (g := g) hg (argsL := argsL) (rest := rest) (hlen _ hsigM) hstack hdg
  obtain ⟨v, B, X', hpost, hsteps⟩ := hK m meth c ⟨T.setVm vm₁, locs, cells, slots⟩ { g with stack := rest } (.invokevirtual index) mk (Value.ref b :: argsL).toArray X₁ hg hsize hdg hW (X₁.named hnamed) (hpre vm₁ X₁.warmed)
  exact ⟨v, vm₁, B, X₁.warmed, X', hpost, fun target h => hstep₁ _ fun acts => by rw [doInvoke_state]; exact hsteps.trans h⟩
abbrev vx_CVW (R : Room) (s : State) (args : Array Value) (own C : String) (index : Nat) (y : MethodName) (bytes : ByteArray) (maxL : Nat) (ret : Option FieldType) (hh : List (Nat × Nat × Nat × Nat)) (ws : List Cond) (rm : Room) (mc ms n : Nat) : Prop :=
  (rm.cells = mc ∧ rm.slots = ms ∧ rm.frames + 1 ≤ R.frames ∧ 8 + (maxL + 11) + rm.locals ≤ R.locals ∧ (∀ w ∈ ws, ∀ (a' : Array Value) (U : State), s.WarmedH U.vm → w.before a' U = true) ∧ Cond.codeWith y bytes maxL ret hh ∈ ws) ∧
  (Cond.codeWith y bytes maxL ret hh).before args s = true ∧ (Cond.initialized y.cls).before args s = true ∧ (y.cls ≠ "java/lang/invoke/MethodHandle" ∧ y.cls ≠ "java/lang/invoke/VarHandle") ∧
  (∀ sig, parseMethodDescriptor y.desc = some sig → n = sig.parameters.length) ∧ (Cond.methodLink own index y).before args s = true ∧ (Cond.instanceMethod y).before args s = true ∧ (Cond.selects C y y).before args s = true
theorem vx_cwVW {own C : String} {index maxL mc ms : Nat} {y : MethodName} {bytes : ByteArray} {ret : Option FieldType} {hh : List (Nat × Nat × Nat × Nat)} {Ts ws ws' : List Cond} {rm : Room} (n : Nat) (ht : ∀ w ∈ Ts, w.before args s = true) (hT : GoodIn Ts (wsV own index C y ws)) (hw : ws = Cond.codeWith y bytes maxL ret hh :: ws') (hrc : rm.cells = mc) (hrs : rm.slots = ms)
    (hd : y.cls = C ∧ y.cls ≠ "java/lang/invoke/MethodHandle" ∧ y.cls ≠ "java/lang/invoke/VarHandle" ∧ (parseMethodDescriptor y.desc).map (fun d => d.parameters.length) = some n) (hR : rm.frames + 1 ≤ R.frames ∧ 8 + (maxL + 11) + rm.locals ≤ R.locals) :
    vx_CVW R s args own C index y bytes maxL ret hh ws rm mc ms n := by
  obtain ⟨hC, hd⟩ := hd
  subst hC
  have ok : ∀ w ∈ wsV own index y.cls y ws, w.before args s = true := fun w h => ht w (hT w h).1
  have hG : GoodIn Ts ws := fun w h => hT w (by unfold wsV; exact List.mem_append_right _ h)
  have hc : Cond.codeWith y bytes maxL ret hh ∈ ws := by rw [hw]; exact List.mem_cons_self
  refine ⟨⟨hrc, hrs, hR.1, hR.2, pay_in ht hG, hc⟩, ht _ (hG _ hc).1, ok _ (by simp [wsV]), ⟨hd.1, hd.2.1⟩, fun sig h => ?_, ok _ (by simp [wsV]), ok _ (by simp [wsV]), ok _ (by simp [wsV])⟩
  have h2 := hd.2.2
  rw [h] at h2
  exact (Option.some.inj h2).symm
theorem vx_runVW {y : MethodName} {bytes cc : ByteArray} {maxL nL mc ms n index : Nat} {ret : Option FieldType} {hh : List (Nat × Nat × Nat × Nat)} {ws : List Cond} {rm : Room} {Pc : Array Value → State → Prop} {Qc : Array Value → State → Outcome → State → Prop} {free : Addr → Prop} {Ts : List Cond} {own C : String} {b : Addr} {As rest : List Value} {g : JFrame}
    (S : CallFix p m c cc nL s args Ts own) (hM : Met l y ws rm Pc Qc mc ms free) (cw : vx_CVW R s args own C index y bytes maxL ret hh ws rm mc ms n) (hp : PreV s H C b Pc As)
    (hg : g.method = m) (hn : As.length = n) (hsize : g.locals.size = nL) (hstack : g.stack = As.reverse ++ .ref b :: rest) (hW : 2 * g.monitorRoom + (rest.map fun v => v.category).sum ≤ 8) (hdg : decode cc g.pc = .ok (.invokevirtual index, 3)) (hf : cells + mc ≤ R.cells ∧ slots + ms ≤ R.slots) :
    va_Run p l e R s m args below meth c H locs cells slots mc ms g rest (Qc (Value.ref b :: As).toArray) free := by
  obtain ⟨⟨hrc, hrs, hfr, hlo, hws, hcw⟩, hcode, hini, hy, hlen, hl, hin, hse⟩ := cw
  have hK : Back l R p e below s args y 3 8 (PreOf R mc ms Pc) (PostOf Qc mc ms free) := va_backW (hh := hh) (bytes := bytes) (maxL := maxL) (ret := ret) hM hp.1 hrc hrs hfr hlo hws hcw (fun a' U hW => word_at hW (Or.inl (by first | rfl | simp [Cond.onTables, Cond.keeps, Cond.steady])) hini)
  obtain ⟨hx, hb, hml, ho, -⟩ := S
  obtain ⟨-, ⟨cellB, hcB, hoB, hclB⟩, hPc⟩ := hp
  intro T hT X
  obtain ⟨v, vm₁, ⟨U', l2, c2, s2⟩, hW₁, X', ⟨g', mk, t, L, e1, e2, hq, h1, hL, h2, h3⟩, st⟩ := vx_callVW X hx (C := C) (hh := hh) (bytes := bytes) (maxL := maxL) (ret := ret) ho hl hin hse hcode hy hK (by rw [hT]; exact hcB) hoB hclB hg (hsize.trans hml.symm) (argsL := As) (rest := rest) (fun sig h => hn.trans (hlen sig h)) hstack hW (by rw [hb]; exact hdg)
    (fun vm₁ hW₁ => ⟨hf.1, hf.2, hPc (T.setVm vm₁) hT hW₁⟩)
  dsimp only [Pt.U, Pt.locs, Pt.cells, Pt.slots] at X' e1 e2 h1 h2 h3 st
  subst h1; subst h2; subst h3
  exact ⟨v, (T.setVm vm₁).calling g' mk (Value.ref b :: As).toArray, t, U', L, hT, X', hL, e1, e2, hq, st⟩
section
variable {y : MethodName} {bytes cc : ByteArray} {maxL nL mc ms n index : Nat} {ret : Option FieldType} {ws : List Cond} {rm : Room} {Pc : Array Value → State → Prop} {Qc : Array Value → State → Outcome → State → Prop} {XC : String → State → State → Prop} {free : Addr → Prop} {Ts : List Cond} {own C : String} {b : Addr} {As rest : List Value} {g : JFrame}
theorem vx_runVX {hh : List (Nat × Nat × Nat × Nat)} (S : CallFix p m c cc nL s args Ts own) (hM : vx_Met l y ws rm Pc Qc XC mc ms free) (cw : vx_CVW R s args own C index y bytes maxL ret hh ws rm mc ms n) (hp : PreV s H C b Pc As)
    (hg : g.method = m) (hn : As.length = n) (hsize : g.locals.size = nL) (hstack : g.stack = As.reverse ++ .ref b :: rest) (hW : 2 * g.monitorRoom + (rest.map fun v => v.category).sum ≤ 8) (hdg : decode cc g.pc = .ok (.invokevirtual index, 3)) (hf : cells + mc ≤ R.cells ∧ slots + ms ≤ R.slots) :
    vx_Run p l e R s m args below meth c H locs cells slots mc ms g rest (Qc (Value.ref b :: As).toArray) XC free := by
  obtain ⟨⟨hrc, hrs, hfr, hlo, hws, hcw⟩, hcode, hini, hy, hlen, hl, hin, hse⟩ := cw
  have hK : vx_Back l R p e below s args y 3 8 (PreOf R mc ms Pc) (PostOf Qc mc ms free) (vx_Post XC mc ms free) := vx_backW (hh := hh) (bytes := bytes) (maxL := maxL) (ret := ret) hM hp.1 hrc hrs hfr hlo hws hcw (fun a' U hW => word_at hW (Or.inl (by first | rfl | simp [Cond.onTables, Cond.keeps, Cond.steady])) hini)
  obtain ⟨hx, hb, hml, ho, -⟩ := S
  obtain ⟨-, ⟨cellB, hcB, hoB, hclB⟩, hPc⟩ := hp
  intro T hT X
  rcases vx_callVX X hx (C := C) (hh := hh) (bytes := bytes) (maxL := maxL) (ret := ret) ho hl hin hse hcode hy hK (by rw [hT]; exact hcB) hoB hclB hg (hsize.trans hml.symm) (argsL := As) (rest := rest) (fun sig h => hn.trans (hlen sig h)) hstack hW (by rw [hb]; exact hdg)
    (fun vm₁ hW₁ => ⟨hf.1, hf.2, hPc (T.setVm vm₁) hT hW₁⟩) with ⟨v, vm₁, ⟨U', l2, c2, s2⟩, hW₁, X', ⟨g', mk, t, L, e1, e2, hq, h1, hL, h2, h3⟩, st⟩ | ⟨q, vm₁, ⟨U', l2, c2, s2⟩, hW₁, X', ⟨g', mk, t, L, E, ce, e1, e2, hq, hce, hcv, hcl, h1, hL, h2, h3⟩, st⟩
  · dsimp only [Pt.U, Pt.locs, Pt.cells, Pt.slots] at X' e1 e2 h1 h2 h3 st
    subst h1; subst h2; subst h3
    exact Or.inl ⟨v, (T.setVm vm₁).calling g' mk (Value.ref b :: As).toArray, t, U', L, hT, X', hL, e1, e2, hq, st⟩
  · dsimp only [Pt.U, Pt.locs, Pt.cells, Pt.slots] at X' e1 e2 h1 h2 h3 st hcl
    subst h1; subst h2; subst h3
    exact Or.inr ⟨q, (T.setVm vm₁).calling g' mk (Value.ref b :: As).toArray, t, U', L, E, ce, hT, X', hL, e1, e2, hq, hce, hcv, vx_cls hW₁ hcl, st⟩
theorem vx_runSX {hh : List (Nat × Nat × Nat × Nat)} (S : CallFix p m c cc nL s args Ts own) (hM : vx_Met l y ws rm Pc Qc XC mc ms free) (cw : vx_CSW R s args own index y bytes maxL ret hh ws rm mc ms n) (hp : PreS s H Pc As)
    (hg : g.method = m) (hn : As.length = n) (hsize : g.locals.size = nL) (hstack : g.stack = As.reverse ++ rest) (hW : 2 * g.monitorRoom + (rest.map fun v => v.category).sum ≤ 8) (hdg : decode cc g.pc = .ok (.invokestatic index, 3)) (hf : cells + mc ≤ R.cells ∧ slots + ms ≤ R.slots) :
    vx_Run p l e R s m args below meth c H locs cells slots mc ms g rest (Qc As.toArray) XC free := by
  obtain ⟨⟨hrc, hrs, hfr, hlo, hws, hcw⟩, hcode, hini, hy, hlen, hl, hstt⟩ := cw
  have hK : vx_Back l R p e below s args y 3 8 (PreOf R mc ms Pc) (PostOf Qc mc ms free) (vx_Post XC mc ms free) := vx_backW (hh := hh) (bytes := bytes) (maxL := maxL) (ret := ret) hM hp.1 hrc hrs hfr hlo hws hcw (fun a' U hW => word_at hW (Or.inl (by first | rfl | simp [Cond.onTables, Cond.keeps, Cond.steady])) hini)
  obtain ⟨hx, hb, hml, ho, -⟩ := S
  intro T hT X
  rcases vx_callSX X hx (hh := hh) (bytes := bytes) (maxL := maxL) (ret := ret) ho hl hstt hini hcode hy hK hg (hsize.trans hml.symm) (argsL := As) (rest := rest) (fun sig h => hn.trans (hlen sig h)) hstack hW (by rw [hb]; exact hdg)
    (fun vm₁ hW₁ => ⟨hf.1, hf.2, hp.2 (T.setVm vm₁) hT hW₁⟩) with ⟨v, vm₁, ⟨U', l2, c2, s2⟩, hW₁, X', ⟨g', mk, t, L, e1, e2, hq, h1, hL, h2, h3⟩, st⟩ | ⟨q, vm₁, ⟨U', l2, c2, s2⟩, hW₁, X', ⟨g', mk, t, L, E, ce, e1, e2, hq, hce, hcv, hcl, h1, hL, h2, h3⟩, st⟩
  · dsimp only [Pt.U, Pt.locs, Pt.cells, Pt.slots] at X' e1 e2 h1 h2 h3 st
    subst h1; subst h2; subst h3
    exact Or.inl ⟨v, (T.setVm vm₁).calling g' mk As.toArray, t, U', L, hT, X', hL, e1, e2, hq, st⟩
  · dsimp only [Pt.U, Pt.locs, Pt.cells, Pt.slots] at X' e1 e2 h1 h2 h3 st hcl
    subst h1; subst h2; subst h3
    exact Or.inr ⟨q, (T.setVm vm₁).calling g' mk As.toArray, t, U', L, E, ce, hT, X', hL, e1, e2, hq, hce, hcv, vx_cls hW₁ hcl, st⟩
end
end VXH
theorem vx_ofWH {l : Launch} {y : MethodName} {ws ws' : List Cond} {rm : Room} {Pc : Array Value → State → Prop} {Qc : Array Value → State → Outcome → State → Prop} {XC : String → State → State → Prop} {mc ms : Nat} {free : Addr → Prop} {cc : ByteArray} {maxL : Nat} {ret : Option FieldType} {hh : List (Nat × Nat × Nat × Nat)}
    (hy : plainName y.cls = true) (hw : ws = Cond.codeWith y cc maxL ret hh :: ws')
    (body : ∀ p e s m args below meth c s₁, BodyLoose p l y (headSpec ws rm) cc maxL ret e s m args below meth c s₁ → c.maxLocals = maxL → Pc args s →
      W p l e (headSpec ws rm).room s m args below meth c s.heap [] 0 0 (vx_MQ below Qc XC args s mc ms free) (entryFrame m args maxL)) : vx_Met l y ws rm Pc Qc XC mc ms free := by
  refine MetFree.of_bodyS (code := cc) (maxLocals := maxL) (ret := ret) hy ?_ ?_
  · intro args s m h hn
    obtain ⟨m9, meth, c, hn9, h1, h2, h3, h4, -, h5, h6, -⟩ := Cond.codeWith_spec (atoms_spec (ws := ws) h _ (by rw [hw]; exact List.mem_cons_self))
    cases hn.symm.trans hn9
    exact ⟨meth, c, h1, h2, h3, h4, h5, h6⟩
  · intro p e s m args below meth c s₁ B hml hP _
    have hh0 : s₁.heap = s.heap := by rw [B.state]; rfl
    obtain ⟨t, a1, o, b1, b2, b3⟩ := body p e s m args below meth c s₁ B hml hP s₁ hh0 (Stand.of_body B)
    exact ⟨t, o, a1, b1, b2, b3⟩
/-! ===== END ===== -/

/-! ===== BEGIN printed: names, fields, word lists, decode rows ===== -/
end
section
def RX0 : String := "SeenPages$Askers"
def TX0 : u_T := fun k => match k with
  | 0 => ("SeenPages$Askers", "snapshots", "[I", true)
  | _ => ("SeenPages$Askers", "asked", "[I", true)
def tyX0 : Nat → FieldType := fun k => match k with
  | 0 => .array .int
  | _ => .array .int
abbrev wsX00 : List Cond := u_ws RX0 TX0 2
theorem nmX0 : ∀ a, a < 2 → ∀ b, b < 2 → a ≠ b → (TX0 a).2.1 ≠ (TX0 b).2.1 := by decide +kernel
theorem tyX0_ok : ∀ k, k < 2 → parseFieldDescriptor (TX0 k).2.2.1 = some (tyX0 k) := by decide +kernel
abbrev cX0_init : ByteArray := prog_2_method_1_code
def yX0_init : MethodName := ⟨RX0, "<init>", "()V"⟩
abbrev cX0_copyFrom : ByteArray := prog_2_method_2_code
def yX0_copyFrom : MethodName := ⟨RX0, "copyFrom", "(LSeenPages$Askers;)V"⟩
abbrev cX0_horizonWithout : ByteArray := prog_2_method_3_code
def yX0_horizonWithout : MethodName := ⟨RX0, "horizonWithout", "(II)I"⟩
def RX1 : String := "SeenPages$History"
def TX1 : u_T := fun k => match k with
  | 0 => ("SeenPages$History", "rows", "[LSeenPages$State;", true)
  | 1 => ("SeenPages$History", "next", "I", false)
  | _ => ("SeenPages$History", "size", "I", false)
def tyX1 : Nat → FieldType := fun k => match k with
  | 0 => .array (.object "SeenPages$State")
  | 1 => .int
  | _ => .int
abbrev wsX10 : List Cond := u_ws RX1 TX1 3
theorem nmX1 : ∀ a, a < 3 → ∀ b, b < 3 → a ≠ b → (TX1 a).2.1 ≠ (TX1 b).2.1 := by decide +kernel
theorem tyX1_ok : ∀ k, k < 3 → parseFieldDescriptor (TX1 k).2.2.1 = some (tyX1 k) := by decide +kernel
abbrev cX1_init : ByteArray := prog_3_method_1_code
def yX1_init : MethodName := ⟨RX1, "<init>", "()V"⟩
abbrev cX1_save : ByteArray := prog_3_method_2_code
def yX1_save : MethodName := ⟨RX1, "save", "(LSeenPages$State;)V"⟩
abbrev cX1_restore : ByteArray := prog_3_method_3_code
def yX1_restore : MethodName := ⟨RX1, "restore", "(LSeenPages$State;)V"⟩
def RX2 : String := "SeenPages$State"
def TX2 : u_T := fun k => match k with
  | 0 => ("SeenPages$State", "table", "LSeenPages$Table;", true)
  | 1 => ("SeenPages$State", "askers", "LSeenPages$Askers;", true)
  | _ => ("SeenPages$State", "tally", "LSeenPages$Tally;", true)
def tyX2 : Nat → FieldType := fun k => match k with
  | 0 => .object "SeenPages$Table"
  | 1 => .object "SeenPages$Askers"
  | _ => .object "SeenPages$Tally"
abbrev wsX20 : List Cond := u_ws RX2 TX2 3
theorem nmX2 : ∀ a, a < 3 → ∀ b, b < 3 → a ≠ b → (TX2 a).2.1 ≠ (TX2 b).2.1 := by decide +kernel
theorem tyX2_ok : ∀ k, k < 3 → parseFieldDescriptor (TX2 k).2.2.1 = some (tyX2 k) := by decide +kernel
abbrev cX2_init : ByteArray := prog_4_method_1_code
def yX2_init : MethodName := ⟨RX2, "<init>", "()V"⟩
abbrev cX2_copyFrom : ByteArray := prog_4_method_2_code
def yX2_copyFrom : MethodName := ⟨RX2, "copyFrom", "(LSeenPages$State;)V"⟩
abbrev cX2_horizon : ByteArray := prog_4_method_3_code
def yX2_horizon : MethodName := ⟨RX2, "horizon", "()I"⟩
abbrev cX2_make : ByteArray := prog_4_method_4_code
def yX2_make : MethodName := ⟨RX2, "make", "(CII)Z"⟩
def RX3 : String := "SeenPages$Table"
def TX3 : u_T := fun k => match k with
  | 0 => ("SeenPages$Table", "values", "[I", true)
  | 1 => ("SeenPages$Table", "cameBy", "[I", true)
  | 2 => ("SeenPages$Table", "wentBy", "[I", true)
  | 3 => ("SeenPages$Table", "markedBy", "[I", true)
  | 4 => ("SeenPages$Table", "clock", "I", false)
  | _ => ("SeenPages$Table", "takenOut", "I", false)
def tyX3 : Nat → FieldType := fun k => match k with
  | 0 => .array .int
  | 1 => .array .int
  | 2 => .array .int
  | 3 => .array .int
  | 4 => .int
  | _ => .int
abbrev wsX30 : List Cond := u_ws RX3 TX3 6
theorem nmX3 : ∀ a, a < 6 → ∀ b, b < 6 → a ≠ b → (TX3 a).2.1 ≠ (TX3 b).2.1 := by decide +kernel
theorem tyX3_ok : ∀ k, k < 6 → parseFieldDescriptor (TX3 k).2.2.1 = some (tyX3 k) := by decide +kernel
abbrev cX3_init : ByteArray := prog_5_method_1_code
def yX3_init : MethodName := ⟨RX3, "<init>", "()V"⟩
abbrev cX3_copyFrom : ByteArray := prog_5_method_2_code
def yX3_copyFrom : MethodName := ⟨RX3, "copyFrom", "(LSeenPages$Table;)V"⟩
abbrev cX3_isSeen : ByteArray := prog_5_method_3_code
def yX3_isSeen : MethodName := ⟨RX3, "isSeen", "(II)Z"⟩
abbrev cX3_isSeenNow : ByteArray := prog_5_method_4_code
def yX3_isSeenNow : MethodName := ⟨RX3, "isSeenNow", "(I)Z"⟩
abbrev cX3_isMarked : ByteArray := prog_5_method_5_code
def yX3_isMarked : MethodName := ⟨RX3, "isMarked", "(I)Z"⟩
abbrev cX3_lowestEmptySlot : ByteArray := prog_5_method_6_code
def yX3_lowestEmptySlot : MethodName := ⟨RX3, "lowestEmptySlot", "()I"⟩
abbrev cX3_hasEmptySlot : ByteArray := prog_5_method_7_code
def yX3_hasEmptySlot : MethodName := ⟨RX3, "hasEmptySlot", "()Z"⟩
abbrev cX3_putValue : ByteArray := prog_5_method_8_code
def yX3_putValue : MethodName := ⟨RX3, "putValue", "(I)I"⟩
abbrev cX3_takeAway : ByteArray := prog_5_method_9_code
def yX3_takeAway : MethodName := ⟨RX3, "takeAway", "(I)Z"⟩
abbrev cX3_changeTo : ByteArray := prog_5_method_10_code
def yX3_changeTo : MethodName := ⟨RX3, "changeTo", "(II)I"⟩
abbrev cX3_come : ByteArray := prog_5_method_11_code
def yX3_come : MethodName := ⟨RX3, "come", "(II)V"⟩
abbrev cX3_go : ByteArray := prog_5_method_12_code
def yX3_go : MethodName := ⟨RX3, "go", "(I)V"⟩
abbrev cX3_isToTakeOut : ByteArray := prog_5_method_13_code
def yX3_isToTakeOut : MethodName := ⟨RX3, "isToTakeOut", "(II)Z"⟩
abbrev cX3_isSeenByAll : ByteArray := prog_5_method_14_code
def yX3_isSeenByAll : MethodName := ⟨RX3, "isSeenByAll", "(II)Z"⟩
abbrev cX3_empty : ByteArray := prog_5_method_15_code
def yX3_empty : MethodName := ⟨RX3, "empty", "(I)V"⟩
abbrev cX3_sweepPage : ByteArray := prog_5_method_16_code
def yX3_sweepPage : MethodName := ⟨RX3, "sweepPage", "(II)I"⟩
abbrev cX3_versions : ByteArray := prog_5_method_17_code
def yX3_versions : MethodName := ⟨RX3, "versions", "(II)I"⟩
abbrev cX3_versionsSeen : ByteArray := prog_5_method_18_code
def yX3_versionsSeen : MethodName := ⟨RX3, "versionsSeen", "(III)I"⟩
abbrev cX3_versionsToTakeOut : ByteArray := prog_5_method_19_code
def yX3_versionsToTakeOut : MethodName := ⟨RX3, "versionsToTakeOut", "(III)I"⟩
abbrev cX3_markedPages : ByteArray := prog_5_method_20_code
def yX3_markedPages : MethodName := ⟨RX3, "markedPages", "()I"⟩
abbrev cX3_mayTrustMarks : ByteArray := prog_5_method_21_code
def yX3_mayTrustMarks : MethodName := ⟨RX3, "mayTrustMarks", "(I)Z"⟩
abbrev cX3_answer : ByteArray := prog_5_method_22_code
def yX3_answer : MethodName := ⟨RX3, "answer", "(III)I"⟩
abbrev cX3_cost : ByteArray := prog_5_method_23_code
def yX3_cost : MethodName := ⟨RX3, "cost", "(III)I"⟩
abbrev cX3_indexHas : ByteArray := prog_5_method_24_code
def yX3_indexHas : MethodName := ⟨RX3, "indexHas", "(II)Z"⟩
abbrev cX3_wronglyTold : ByteArray := prog_5_method_25_code
def yX3_wronglyTold : MethodName := ⟨RX3, "wronglyTold", "(I)I"⟩
abbrev cX3_leastCostWay : ByteArray := prog_5_method_26_code
def yX3_leastCostWay : MethodName := ⟨RX3, "leastCostWay", "(I)I"⟩
def RX4 : String := "SeenPages$Tally"
def TX4 : u_T := fun k => match k with
  | 0 => ("SeenPages$Tally", "asked", "[I", true)
  | 1 => ("SeenPages$Tally", "marksNotTrusted", "I", false)
  | _ => ("SeenPages$Tally", "costs", "I", false)
def tyX4 : Nat → FieldType := fun k => match k with
  | 0 => .array .int
  | 1 => .int
  | _ => .int
abbrev wsX40 : List Cond := u_ws RX4 TX4 3
theorem nmX4 : ∀ a, a < 3 → ∀ b, b < 3 → a ≠ b → (TX4 a).2.1 ≠ (TX4 b).2.1 := by decide +kernel
theorem tyX4_ok : ∀ k, k < 3 → parseFieldDescriptor (TX4 k).2.2.1 = some (tyX4 k) := by decide +kernel
abbrev cX4_init : ByteArray := prog_6_method_1_code
def yX4_init : MethodName := ⟨RX4, "<init>", "()V"⟩
abbrev cX4_copyFrom : ByteArray := prog_6_method_2_code
def yX4_copyFrom : MethodName := ⟨RX4, "copyFrom", "(LSeenPages$Tally;)V"⟩
abbrev cX4_add : ByteArray := prog_6_method_3_code
def yX4_add : MethodName := ⟨RX4, "add", "(IIZ)V"⟩
def RX5 : String := "SeenPages$Text"
def TX5 : u_T := fun k => match k with
  | 0 => ("SeenPages$Text", "signs", "[C", true)
  | 1 => ("SeenPages$Text", "length", "I", false)
  | 2 => ("SeenPages$Text", "at", "I", false)
  | 3 => ("SeenPages$Text", "kind", "C", false)
  | 4 => ("SeenPages$Text", "place", "I", false)
  | _ => ("SeenPages$Text", "digit", "I", false)
def tyX5 : Nat → FieldType := fun k => match k with
  | 0 => .array .char
  | 1 => .int
  | 2 => .int
  | 3 => .char
  | 4 => .int
  | _ => .int
abbrev wsX50 : List Cond := u_ws RX5 TX5 6
theorem nmX5 : ∀ a, a < 6 → ∀ b, b < 6 → a ≠ b → (TX5 a).2.1 ≠ (TX5 b).2.1 := by decide +kernel
theorem tyX5_ok : ∀ k, k < 6 → parseFieldDescriptor (TX5 k).2.2.1 = some (tyX5 k) := by decide +kernel
abbrev cX5_init : ByteArray := prog_7_method_1_code
def yX5_init : MethodName := ⟨RX5, "<init>", "()V"⟩
abbrev cX5_add : ByteArray := prog_7_method_2_code
def yX5_add : MethodName := ⟨RX5, "add", "(C)I"⟩
abbrev cX5_wipe : ByteArray := prog_7_method_3_code
def yX5_wipe : MethodName := ⟨RX5, "wipe", "()I"⟩
abbrev cX5_signAt : ByteArray := prog_7_method_4_code
def yX5_signAt : MethodName := ⟨RX5, "signAt", "(I)C"⟩
abbrev cX5_rewind : ByteArray := prog_7_method_5_code
def yX5_rewind : MethodName := ⟨RX5, "rewind", "()V"⟩
abbrev cX5_readAll : ByteArray := prog_7_method_6_code
def yX5_readAll : MethodName := ⟨RX5, "readAll", "()Z"⟩
abbrev cX5_readNext : ByteArray := prog_7_method_7_code
def yX5_readNext : MethodName := ⟨RX5, "readNext", "()Z"⟩
abbrev cX5_readSign : ByteArray := prog_7_method_8_code
def yX5_readSign : MethodName := ⟨RX5, "readSign", "(C)Z"⟩
abbrev cX5_readDigit : ByteArray := prog_7_method_9_code
def yX5_readDigit : MethodName := ⟨RX5, "readDigit", "(I)Z"⟩
abbrev cX5_readPlace : ByteArray := prog_7_method_10_code
def yX5_readPlace : MethodName := ⟨RX5, "readPlace", "()Z"⟩
abbrev cX5_digitHere : ByteArray := prog_7_method_11_code
def yX5_digitHere : MethodName := ⟨RX5, "digitHere", "()I"⟩
def RX6 : String := "SeenPages"
def TX6 : u_T := fun k => match k with
  | 0 => ("SeenPages", "state", "LSeenPages$State;", true)
  | 1 => ("SeenPages", "history", "LSeenPages$History;", true)
  | _ => ("SeenPages", "text", "LSeenPages$Text;", true)
def tyX6 : Nat → FieldType := fun k => match k with
  | 0 => .object "SeenPages$State"
  | 1 => .object "SeenPages$History"
  | _ => .object "SeenPages$Text"
abbrev wsX60 : List Cond := u_ws RX6 TX6 3
theorem nmX6 : ∀ a, a < 3 → ∀ b, b < 3 → a ≠ b → (TX6 a).2.1 ≠ (TX6 b).2.1 := by decide +kernel
theorem tyX6_ok : ∀ k, k < 3 → parseFieldDescriptor (TX6 k).2.2.1 = some (tyX6 k) := by decide +kernel
abbrev cX6_init : ByteArray := prog_1_method_1_code
def yX6_init : MethodName := ⟨RX6, "<init>", "()V"⟩
abbrev cX6_put : ByteArray := prog_1_method_2_code
def yX6_put : MethodName := ⟨RX6, "put", "(I)I"⟩
abbrev cX6_take : ByteArray := prog_1_method_3_code
def yX6_take : MethodName := ⟨RX6, "take", "(I)I"⟩
abbrev cX6_change : ByteArray := prog_1_method_4_code
def yX6_change : MethodName := ⟨RX6, "change", "(II)I"⟩
abbrev cX6_open : ByteArray := prog_1_method_5_code
def yX6_open : MethodName := ⟨RX6, "open", "(I)I"⟩
abbrev cX6_close : ByteArray := prog_1_method_6_code
def yX6_close : MethodName := ⟨RX6, "close", "(I)I"⟩
abbrev cX6_sweep : ByteArray := prog_1_method_7_code
def yX6_sweep : MethodName := ⟨RX6, "sweep", "(I)I"⟩
abbrev cX6_sweepAll : ByteArray := prog_1_method_8_code
def yX6_sweepAll : MethodName := ⟨RX6, "sweepAll", "()I"⟩
abbrev cX6_ask : ByteArray := prog_1_method_9_code
def yX6_ask : MethodName := ⟨RX6, "ask", "(III)I"⟩
abbrev cX6_append : ByteArray := prog_1_method_10_code
def yX6_append : MethodName := ⟨RX6, "append", "(I)I"⟩
abbrev cX6_clearBuffer : ByteArray := prog_1_method_11_code
def yX6_clearBuffer : MethodName := ⟨RX6, "clearBuffer", "()I"⟩
abbrev cX6_firstError : ByteArray := prog_1_method_12_code
def yX6_firstError : MethodName := ⟨RX6, "firstError", "()I"⟩
abbrev cX6_play : ByteArray := prog_1_method_13_code
def yX6_play : MethodName := ⟨RX6, "play", "()I"⟩
abbrev cX6_undo : ByteArray := prog_1_method_14_code
def yX6_undo : MethodName := ⟨RX6, "undo", "()I"⟩
abbrev cX6_slot : ByteArray := prog_1_method_15_code
def yX6_slot : MethodName := ⟨RX6, "slot", "(II)I"⟩
abbrev cX6_page : ByteArray := prog_1_method_16_code
def yX6_page : MethodName := ⟨RX6, "page", "(II)I"⟩
abbrev cX6_asker : ByteArray := prog_1_method_17_code
def yX6_asker : MethodName := ⟨RX6, "asker", "(II)I"⟩
abbrev cX6_count : ByteArray := prog_1_method_18_code
def yX6_count : MethodName := ⟨RX6, "count", "(I)I"⟩
abbrev cX6_ifAsked : ByteArray := prog_1_method_19_code
def yX6_ifAsked : MethodName := ⟨RX6, "ifAsked", "(IIII)I"⟩
abbrev cX6_lies : ByteArray := prog_1_method_20_code
def yX6_lies : MethodName := ⟨RX6, "lies", "(I)I"⟩
abbrev cX6_cheapest : ByteArray := prog_1_method_21_code
def yX6_cheapest : MethodName := ⟨RX6, "cheapest", "(I)I"⟩
abbrev cX6_holder : ByteArray := prog_1_method_22_code
def yX6_holder : MethodName := ⟨RX6, "holder", "()I"⟩
abbrev cX6_marked : ByteArray := prog_1_method_23_code
def yX6_marked : MethodName := ⟨RX6, "marked", "()D"⟩
abbrev cX6_digest : ByteArray := prog_1_method_24_code
def yX6_digest : MethodName := ⟨RX6, "digest", "()J"⟩
abbrev cX6_isOutside : ByteArray := prog_1_method_25_code
def yX6_isOutside : MethodName := ⟨RX6, "isOutside", "(II)Z"⟩
abbrev cX6_slotNumber : ByteArray := prog_1_method_26_code
def yX6_slotNumber : MethodName := ⟨RX6, "slotNumber", "(II)I"⟩
abbrev cX6_pageNumber : ByteArray := prog_1_method_27_code
def yX6_pageNumber : MethodName := ⟨RX6, "pageNumber", "(II)I"⟩
abbrev cX6_askerNumber : ByteArray := prog_1_method_28_code
def yX6_askerNumber : MethodName := ⟨RX6, "askerNumber", "(II)I"⟩
abbrev cX6_countNumber : ByteArray := prog_1_method_29_code
def yX6_countNumber : MethodName := ⟨RX6, "countNumber", "(I)I"⟩
abbrev cX6_mostHolding : ByteArray := prog_1_method_30_code
def yX6_mostHolding : MethodName := ⟨RX6, "mostHolding", "()I"⟩
abbrev cX6_markedShare : ByteArray := prog_1_method_31_code
def yX6_markedShare : MethodName := ⟨RX6, "markedShare", "()D"⟩
abbrev cX6_makeParts : ByteArray := prog_1_method_32_code
def yX6_makeParts : MethodName := ⟨RX6, "makeParts", "()I"⟩
abbrev cX6_mix : ByteArray := prog_1_method_33_code
def yX6_mix : MethodName := ⟨RX6, "mix", "(JJ)J"⟩
abbrev cX6_mixParts : ByteArray := prog_1_method_34_code
def yX6_mixParts : MethodName := ⟨RX6, "mixParts", "(J)J"⟩
abbrev cX6_mixValue : ByteArray := prog_1_method_35_code
def yX6_mixValue : MethodName := ⟨RX6, "mixValue", "(JI)J"⟩
abbrev cX6_bitsOfShare : ByteArray := prog_1_method_36_code
def yX6_bitsOfShare : MethodName := ⟨RX6, "bitsOfShare", "(D)J"⟩
def RX7 : String := "SeenPagesModel"
def TX7 : u_T := fun k => match k with
  | 0 => ("SeenPagesModel", "thrown", "I", false)
  | 1 => ("SeenPagesModel", "s", "[I", true)
  | 2 => ("SeenPagesModel", "saved", "[I", true)
  | 3 => ("SeenPagesModel", "savedMany", "I", false)
  | 4 => ("SeenPagesModel", "buffer", "[I", true)
  | 5 => ("SeenPagesModel", "length", "I", false)
  | 6 => ("SeenPagesModel", "at", "I", false)
  | 7 => ("SeenPagesModel", "isWell", "Z", false)
  | 8 => ("SeenPagesModel", "read", "[I", true)
  | 9 => ("SeenPagesModel", "readMany", "I", false)
  | _ => ("SeenPagesModel", "hash", "J", false)
def tyX7 : Nat → FieldType := fun k => match k with
  | 0 => .int
  | 1 => .array .int
  | 2 => .array .int
  | 3 => .int
  | 4 => .array .int
  | 5 => .int
  | 6 => .int
  | 7 => .boolean
  | 8 => .array .int
  | 9 => .int
  | _ => .long
abbrev wsX70 : List Cond := u_ws RX7 TX7 11
theorem nmX7 : ∀ a, a < 11 → ∀ b, b < 11 → a ≠ b → (TX7 a).2.1 ≠ (TX7 b).2.1 := by decide +kernel
theorem tyX7_ok : ∀ k, k < 11 → parseFieldDescriptor (TX7 k).2.2.1 = some (tyX7 k) := by decide +kernel
abbrev cX7_init : ByteArray := prog_9_method_1_code
def yX7_init : MethodName := ⟨RX7, "<init>", "()V"⟩
abbrev cX7_thrown : ByteArray := prog_9_method_2_code
def yX7_thrown : MethodName := ⟨RX7, "thrown", "()I"⟩
abbrev cX7_in : ByteArray := prog_9_method_3_code
def yX7_in : MethodName := ⟨RX7, "in", "(III)Z"⟩
abbrev cX7_fails : ByteArray := prog_9_method_4_code
def yX7_fails : MethodName := ⟨RX7, "fails", "(I)I"⟩
abbrev cX7_of : ByteArray := prog_9_method_5_code
def yX7_of : MethodName := ⟨RX7, "of", "(II)I"⟩
abbrev cX7_lay : ByteArray := prog_9_method_6_code
def yX7_lay : MethodName := ⟨RX7, "lay", "(IIII)V"⟩
abbrev cX7_ofPage : ByteArray := prog_9_method_7_code
def yX7_ofPage : MethodName := ⟨RX7, "ofPage", "(II)I"⟩
abbrev cX7_snapshotOf : ByteArray := prog_9_method_8_code
def yX7_snapshotOf : MethodName := ⟨RX7, "snapshotOf", "(I)I"⟩
abbrev cX7_isPlace : ByteArray := prog_9_method_9_code
def yX7_isPlace : MethodName := ⟨RX7, "isPlace", "(I)Z"⟩
abbrev cX7_isPage : ByteArray := prog_9_method_10_code
def yX7_isPage : MethodName := ⟨RX7, "isPage", "(I)Z"⟩
abbrev cX7_isAsker : ByteArray := prog_9_method_11_code
def yX7_isAsker : MethodName := ⟨RX7, "isAsker", "(I)Z"⟩
abbrev cX7_saves : ByteArray := prog_9_method_12_code
def yX7_saves : MethodName := ⟨RX7, "saves", "()V"⟩
abbrev cX7_isFull : ByteArray := prog_9_method_13_code
def yX7_isFull : MethodName := ⟨RX7, "isFull", "(I)Z"⟩
abbrev cX7_isSeen : ByteArray := prog_9_method_14_code
def yX7_isSeen : MethodName := ⟨RX7, "isSeen", "(II)Z"⟩
abbrev cX7_lowestEmpty : ByteArray := prog_9_method_15_code
def yX7_lowestEmpty : MethodName := ⟨RX7, "lowestEmpty", "()I"⟩
abbrev cX7_unmarks : ByteArray := prog_9_method_16_code
def yX7_unmarks : MethodName := ⟨RX7, "unmarks", "(I)V"⟩
abbrev cX7_comes : ByteArray := prog_9_method_17_code
def yX7_comes : MethodName := ⟨RX7, "comes", "(II)V"⟩
abbrev cX7_goes : ByteArray := prog_9_method_18_code
def yX7_goes : MethodName := ⟨RX7, "goes", "(I)V"⟩
abbrev cX7_changes : ByteArray := prog_9_method_19_code
def yX7_changes : MethodName := ⟨RX7, "changes", "(III)I"⟩
abbrev cX7_canChange : ByteArray := prog_9_method_20_code
def yX7_canChange : MethodName := ⟨RX7, "canChange", "(II)Z"⟩
abbrev cX7_put : ByteArray := prog_9_method_21_code
def yX7_put : MethodName := ⟨RX7, "put", "(I)I"⟩
abbrev cX7_take : ByteArray := prog_9_method_22_code
def yX7_take : MethodName := ⟨RX7, "take", "(I)I"⟩
abbrev cX7_change : ByteArray := prog_9_method_23_code
def yX7_change : MethodName := ⟨RX7, "change", "(II)I"⟩
abbrev cX7_horizonBut : ByteArray := prog_9_method_24_code
def yX7_horizonBut : MethodName := ⟨RX7, "horizonBut", "(I)I"⟩
abbrev cX7_horizon : ByteArray := prog_9_method_25_code
def yX7_horizon : MethodName := ⟨RX7, "horizon", "()I"⟩
abbrev cX7_open : ByteArray := prog_9_method_26_code
def yX7_open : MethodName := ⟨RX7, "open", "(I)I"⟩
abbrev cX7_close : ByteArray := prog_9_method_27_code
def yX7_close : MethodName := ⟨RX7, "close", "(I)I"⟩
abbrev cX7_isOld : ByteArray := prog_9_method_28_code
def yX7_isOld : MethodName := ⟨RX7, "isOld", "(II)Z"⟩
abbrev cX7_oldIn : ByteArray := prog_9_method_29_code
def yX7_oldIn : MethodName := ⟨RX7, "oldIn", "(II)I"⟩
abbrev cX7_sweeps : ByteArray := prog_9_method_30_code
def yX7_sweeps : MethodName := ⟨RX7, "sweeps", "(I)I"⟩
abbrev cX7_sweep : ByteArray := prog_9_method_31_code
def yX7_sweep : MethodName := ⟨RX7, "sweep", "(I)I"⟩
abbrev cX7_markedPages : ByteArray := prog_9_method_32_code
def yX7_markedPages : MethodName := ⟨RX7, "markedPages", "()I"⟩
abbrev cX7_sweepAll : ByteArray := prog_9_method_33_code
def yX7_sweepAll : MethodName := ⟨RX7, "sweepAll", "()I"⟩
abbrev cX7_greatestMark : ByteArray := prog_9_method_34_code
def yX7_greatestMark : MethodName := ⟨RX7, "greatestMark", "()I"⟩
abbrev cX7_truly : ByteArray := prog_9_method_35_code
def yX7_truly : MethodName := ⟨RX7, "truly", "(II)I"⟩
abbrev cX7_hasValue : ByteArray := prog_9_method_36_code
def yX7_hasValue : MethodName := ⟨RX7, "hasValue", "(II)Z"⟩
abbrev cX7_answers : ByteArray := prog_9_method_37_code
def yX7_answers : MethodName := ⟨RX7, "answers", "(III)I"⟩
abbrev cX7_hasIn : ByteArray := prog_9_method_38_code
def yX7_hasIn : MethodName := ⟨RX7, "hasIn", "(II)Z"⟩
abbrev cX7_costs : ByteArray := prog_9_method_39_code
def yX7_costs : MethodName := ⟨RX7, "costs", "(III)I"⟩
abbrev cX7_ask : ByteArray := prog_9_method_40_code
def yX7_ask : MethodName := ⟨RX7, "ask", "(III)I"⟩
abbrev cX7_append : ByteArray := prog_9_method_41_code
def yX7_append : MethodName := ⟨RX7, "append", "(I)I"⟩
abbrev cX7_clearBuffer : ByteArray := prog_9_method_42_code
def yX7_clearBuffer : MethodName := ⟨RX7, "clearBuffer", "()I"⟩
abbrev cX7_sign : ByteArray := prog_9_method_43_code
def yX7_sign : MethodName := ⟨RX7, "sign", "()I"⟩
abbrev cX7_digit : ByteArray := prog_9_method_44_code
def yX7_digit : MethodName := ⟨RX7, "digit", "(I)I"⟩
abbrev cX7_placeRead : ByteArray := prog_9_method_45_code
def yX7_placeRead : MethodName := ⟨RX7, "placeRead", "()I"⟩
abbrev cX7_readsChange : ByteArray := prog_9_method_46_code
def yX7_readsChange : MethodName := ⟨RX7, "readsChange", "()V"⟩
abbrev cX7_readsAll : ByteArray := prog_9_method_47_code
def yX7_readsAll : MethodName := ⟨RX7, "readsAll", "()V"⟩
abbrev cX7_firstError : ByteArray := prog_9_method_48_code
def yX7_firstError : MethodName := ⟨RX7, "firstError", "()I"⟩
abbrev cX7_makes : ByteArray := prog_9_method_49_code
def yX7_makes : MethodName := ⟨RX7, "makes", "(I)Z"⟩
abbrev cX7_play : ByteArray := prog_9_method_50_code
def yX7_play : MethodName := ⟨RX7, "play", "()I"⟩
abbrev cX7_undo : ByteArray := prog_9_method_51_code
def yX7_undo : MethodName := ⟨RX7, "undo", "()I"⟩
abbrev cX7_tellsSlot : ByteArray := prog_9_method_52_code
def yX7_tellsSlot : MethodName := ⟨RX7, "tellsSlot", "(II)I"⟩
abbrev cX7_slot : ByteArray := prog_9_method_53_code
def yX7_slot : MethodName := ⟨RX7, "slot", "(II)I"⟩
abbrev cX7_versions : ByteArray := prog_9_method_54_code
def yX7_versions : MethodName := ⟨RX7, "versions", "(IIZI)I"⟩
abbrev cX7_tellsPage : ByteArray := prog_9_method_55_code
def yX7_tellsPage : MethodName := ⟨RX7, "tellsPage", "(II)I"⟩
abbrev cX7_page : ByteArray := prog_9_method_56_code
def yX7_page : MethodName := ⟨RX7, "page", "(II)I"⟩
abbrev cX7_tellsAsker : ByteArray := prog_9_method_57_code
def yX7_tellsAsker : MethodName := ⟨RX7, "tellsAsker", "(II)I"⟩
abbrev cX7_asker : ByteArray := prog_9_method_58_code
def yX7_asker : MethodName := ⟨RX7, "asker", "(II)I"⟩
abbrev cX7_tellsCount : ByteArray := prog_9_method_59_code
def yX7_tellsCount : MethodName := ⟨RX7, "tellsCount", "(I)I"⟩
abbrev cX7_count : ByteArray := prog_9_method_60_code
def yX7_count : MethodName := ⟨RX7, "count", "(I)I"⟩
abbrev cX7_ifAsked : ByteArray := prog_9_method_61_code
def yX7_ifAsked : MethodName := ⟨RX7, "ifAsked", "(IIII)I"⟩
abbrev cX7_tellsLies : ByteArray := prog_9_method_62_code
def yX7_tellsLies : MethodName := ⟨RX7, "tellsLies", "(I)I"⟩
abbrev cX7_lies : ByteArray := prog_9_method_63_code
def yX7_lies : MethodName := ⟨RX7, "lies", "(I)I"⟩
abbrev cX7_cheapestWay : ByteArray := prog_9_method_64_code
def yX7_cheapestWay : MethodName := ⟨RX7, "cheapestWay", "(I)I"⟩
abbrev cX7_cheapest : ByteArray := prog_9_method_65_code
def yX7_cheapest : MethodName := ⟨RX7, "cheapest", "(I)I"⟩
abbrev cX7_oldOnes : ByteArray := prog_9_method_66_code
def yX7_oldOnes : MethodName := ⟨RX7, "oldOnes", "(I)I"⟩
abbrev cX7_holderNow : ByteArray := prog_9_method_67_code
def yX7_holderNow : MethodName := ⟨RX7, "holderNow", "()I"⟩
abbrev cX7_holder : ByteArray := prog_9_method_68_code
def yX7_holder : MethodName := ⟨RX7, "holder", "()I"⟩
abbrev cX7_share : ByteArray := prog_9_method_69_code
def yX7_share : MethodName := ⟨RX7, "share", "()D"⟩
abbrev cX7_marked : ByteArray := prog_9_method_70_code
def yX7_marked : MethodName := ⟨RX7, "marked", "()D"⟩
abbrev cX7_hashes : ByteArray := prog_9_method_71_code
def yX7_hashes : MethodName := ⟨RX7, "hashes", "(J)V"⟩
abbrev cX7_hashesValue : ByteArray := prog_9_method_72_code
def yX7_hashesValue : MethodName := ⟨RX7, "hashesValue", "(I)V"⟩
abbrev cX7_digest : ByteArray := prog_9_method_73_code
def yX7_digest : MethodName := ⟨RX7, "digest", "()J"⟩
def RJx145de : String := "java/io/Serializable"
def TJx145de : u_T := fun k => match k with
  | _ => ("", "", "", false)
def tyJx145de : Nat → FieldType := fun k => match k with
  | _ => .int
abbrev wsJx145de0 : List Cond := u_ws RJx145de TJx145de 0
theorem nmJx145de : ∀ a, a < 0 → ∀ b, b < 0 → a ≠ b → (TJx145de a).2.1 ≠ (TJx145de b).2.1 := by decide +kernel
theorem tyJx145de_ok : ∀ k, k < 0 → parseFieldDescriptor (TJx145de k).2.2.1 = some (tyJx145de k) := by decide +kernel
def RJxb160c : String := "java/lang/Comparable"
def TJxb160c : u_T := fun k => match k with
  | _ => ("", "", "", false)
def tyJxb160c : Nat → FieldType := fun k => match k with
  | _ => .int
abbrev wsJxb160c0 : List Cond := u_ws RJxb160c TJxb160c 0
theorem nmJxb160c : ∀ a, a < 0 → ∀ b, b < 0 → a ≠ b → (TJxb160c a).2.1 ≠ (TJxb160c b).2.1 := by decide +kernel
theorem tyJxb160c_ok : ∀ k, k < 0 → parseFieldDescriptor (TJxb160c k).2.2.1 = some (tyJxb160c k) := by decide +kernel
def RJxe99ae : String := "java/lang/Double"
def TJxe99ae : u_T := fun k => match k with
  | _ => ("", "", "", false)
def tyJxe99ae : Nat → FieldType := fun k => match k with
  | _ => .int
abbrev wsJxe99ae0 : List Cond := u_ws RJxe99ae TJxe99ae 0
theorem nmJxe99ae : ∀ a, a < 0 → ∀ b, b < 0 → a ≠ b → (TJxe99ae a).2.1 ≠ (TJxe99ae b).2.1 := by decide +kernel
theorem tyJxe99ae_ok : ∀ k, k < 0 → parseFieldDescriptor (TJxe99ae k).2.2.1 = some (tyJxe99ae k) := by decide +kernel
abbrev cJxe99ae_isNaN_b9ae7 : ByteArray := prog_10_method_6_code
def yJxe99ae_isNaN_b9ae7 : MethodName := ⟨RJxe99ae, "isNaN", "(D)Z"⟩
abbrev cJxe99ae_doubleToLongBits_ccdee : ByteArray := prog_10_method_23_code
def yJxe99ae_doubleToLongBits_ccdee : MethodName := ⟨RJxe99ae, "doubleToLongBits", "(D)J"⟩
def RJxd2413 : String := "java/lang/Number"
def TJxd2413 : u_T := fun k => match k with
  | _ => ("", "", "", false)
def tyJxd2413 : Nat → FieldType := fun k => match k with
  | _ => .int
abbrev wsJxd24130 : List Cond := u_ws RJxd2413 TJxd2413 0
theorem nmJxd2413 : ∀ a, a < 0 → ∀ b, b < 0 → a ≠ b → (TJxd2413 a).2.1 ≠ (TJxd2413 b).2.1 := by decide +kernel
theorem tyJxd2413_ok : ∀ k, k < 0 → parseFieldDescriptor (TJxd2413 k).2.2.1 = some (tyJxd2413 k) := by decide +kernel
def RJ0 : String := "java/lang/String"
def TJ0 : u_T := fun k => match k with
  | _ => ("", "", "", false)
def tyJ0 : Nat → FieldType := fun k => match k with
  | _ => .int
abbrev wsJ00 : List Cond := u_ws RJ0 TJ0 0
theorem nmJ0 : ∀ a, a < 0 → ∀ b, b < 0 → a ≠ b → (TJ0 a).2.1 ≠ (TJ0 b).2.1 := by decide +kernel
theorem tyJ0_ok : ∀ k, k < 0 → parseFieldDescriptor (TJ0 k).2.2.1 = some (tyJ0 k) := by decide +kernel
def RJ10 : String := "java/lang/System"
def TJ10 : u_T := fun k => match k with
  | _ => ("", "", "", false)
def tyJ10 : Nat → FieldType := fun k => match k with
  | _ => .int
abbrev wsJ100 : List Cond := u_ws RJ10 TJ10 0
theorem nmJ10 : ∀ a, a < 0 → ∀ b, b < 0 → a ≠ b → (TJ10 a).2.1 ≠ (TJ10 b).2.1 := by decide +kernel
theorem tyJ10_ok : ∀ k, k < 0 → parseFieldDescriptor (TJ10 k).2.2.1 = some (tyJ10 k) := by decide +kernel
def RJxfd54e : String := "java/lang/constant/Constable"
def TJxfd54e : u_T := fun k => match k with
  | _ => ("", "", "", false)
def tyJxfd54e : Nat → FieldType := fun k => match k with
  | _ => .int
abbrev wsJxfd54e0 : List Cond := u_ws RJxfd54e TJxfd54e 0
theorem nmJxfd54e : ∀ a, a < 0 → ∀ b, b < 0 → a ≠ b → (TJxfd54e a).2.1 ≠ (TJxfd54e b).2.1 := by decide +kernel
theorem tyJxfd54e_ok : ∀ k, k < 0 → parseFieldDescriptor (TJxfd54e k).2.2.1 = some (tyJxfd54e k) := by decide +kernel
def RJx3cf43 : String := "java/lang/constant/ConstantDesc"
def TJx3cf43 : u_T := fun k => match k with
  | _ => ("", "", "", false)
def tyJx3cf43 : Nat → FieldType := fun k => match k with
  | _ => .int
abbrev wsJx3cf430 : List Cond := u_ws RJx3cf43 TJx3cf43 0
theorem nmJx3cf43 : ∀ a, a < 0 → ∀ b, b < 0 → a ≠ b → (TJx3cf43 a).2.1 ≠ (TJx3cf43 b).2.1 := by decide +kernel
theorem tyJx3cf43_ok : ∀ k, k < 0 → parseFieldDescriptor (TJx3cf43 k).2.2.1 = some (tyJx3cf43 k) := by decide +kernel
def RJ7 : String := "java/util/Arrays"
def TJ7 : u_T := fun k => match k with
  | _ => ("", "", "", false)
def tyJ7 : Nat → FieldType := fun k => match k with
  | _ => .int
abbrev wsJ70 : List Cond := u_ws RJ7 TJ7 0
theorem nmJ7 : ∀ a, a < 0 → ∀ b, b < 0 → a ≠ b → (TJ7 a).2.1 ≠ (TJ7 b).2.1 := by decide +kernel
theorem tyJ7_ok : ∀ k, k < 0 → parseFieldDescriptor (TJ7 k).2.2.1 = some (tyJ7 k) := by decide +kernel
abbrev cJ7_fill_53178 : ByteArray := prog_20_method_103_code
def yJ7_fill_53178 : MethodName := ⟨RJ7, "fill", "([II)V"⟩
def RL : String := "SeenPagesLaw"
abbrev cL_put : ByteArray := method_3_code
def yL_put : MethodName := ⟨RL, "put", "(LSeenPages;I[J)I"⟩
abbrev cL_take : ByteArray := method_4_code
def yL_take : MethodName := ⟨RL, "take", "(LSeenPages;I[J)I"⟩
abbrev cL_change : ByteArray := method_5_code
def yL_change : MethodName := ⟨RL, "change", "(LSeenPages;II[J)I"⟩
abbrev cL_open : ByteArray := method_6_code
def yL_open : MethodName := ⟨RL, "open", "(LSeenPages;I[J)I"⟩
abbrev cL_close : ByteArray := method_7_code
def yL_close : MethodName := ⟨RL, "close", "(LSeenPages;I[J)I"⟩
abbrev cL_sweep : ByteArray := method_8_code
def yL_sweep : MethodName := ⟨RL, "sweep", "(LSeenPages;I[J)I"⟩
abbrev cL_ask : ByteArray := method_9_code
def yL_ask : MethodName := ⟨RL, "ask", "(LSeenPages;III[J)I"⟩
abbrev cL_append : ByteArray := method_10_code
def yL_append : MethodName := ⟨RL, "append", "(LSeenPages;I[J)I"⟩
abbrev cL_play : ByteArray := method_11_code
def yL_play : MethodName := ⟨RL, "play", "(LSeenPages;[J)I"⟩
abbrev cL_undo : ByteArray := method_12_code
def yL_undo : MethodName := ⟨RL, "undo", "(LSeenPages;[J)I"⟩
abbrev cL_slot : ByteArray := method_13_code
def yL_slot : MethodName := ⟨RL, "slot", "(LSeenPages;II[J)I"⟩
abbrev cL_page : ByteArray := method_14_code
def yL_page : MethodName := ⟨RL, "page", "(LSeenPages;II[J)I"⟩
abbrev cL_asker : ByteArray := method_15_code
def yL_asker : MethodName := ⟨RL, "asker", "(LSeenPages;II[J)I"⟩
abbrev cL_count : ByteArray := method_16_code
def yL_count : MethodName := ⟨RL, "count", "(LSeenPages;I[J)I"⟩
abbrev cL_ifAsked : ByteArray := method_17_code
def yL_ifAsked : MethodName := ⟨RL, "ifAsked", "(LSeenPages;IIII[J)I"⟩
abbrev cL_lies : ByteArray := method_18_code
def yL_lies : MethodName := ⟨RL, "lies", "(LSeenPages;I[J)I"⟩
abbrev cL_cheapest : ByteArray := method_19_code
def yL_cheapest : MethodName := ⟨RL, "cheapest", "(LSeenPages;I[J)I"⟩
abbrev cL_law : ByteArray := code
def yL_law : MethodName := ⟨RL, "law", "([I)Z"⟩
theorem inJx145de : ∀ w ∈ wsJx145de0, w ∈ lw_tbl := by decide +kernel
theorem inJxb160c : ∀ w ∈ wsJxb160c0, w ∈ lw_tbl := by decide +kernel
theorem inJxe99ae : ∀ w ∈ wsJxe99ae0, w ∈ lw_tbl := by decide +kernel
theorem inJxd2413 : ∀ w ∈ wsJxd24130, w ∈ lw_tbl := by decide +kernel
theorem inJ0 : ∀ w ∈ wsJ00, w ∈ lw_tbl := by decide +kernel
theorem inJ10 : ∀ w ∈ wsJ100, w ∈ lw_tbl := by decide +kernel
theorem inJxfd54e : ∀ w ∈ wsJxfd54e0, w ∈ lw_tbl := by decide +kernel
theorem inJx3cf43 : ∀ w ∈ wsJx3cf430, w ∈ lw_tbl := by decide +kernel
theorem inJ7 : ∀ w ∈ wsJ70, w ∈ lw_tbl := by decide +kernel
abbrev vwCl : List vw_C := [(RX0, TX0, 2), (RX1, TX1, 3), (RX2, TX2, 3), (RX3, TX3, 6), (RX4, TX4, 3), (RX5, TX5, 6), (RX6, TX6, 3), (RX7, TX7, 11)]
/-- the words that every method of ours stands on: those of the tables that a call may take along -/
def wAll : List Cond := lw_tbl.filter goodWord
theorem wAll_tbl : ∀ w ∈ wAll, w ∈ lw_tbl := fun _ h => (List.mem_filter.mp h).1
theorem wAll_good (c0 : Cond) : GoodIn (c0 :: wAll) wAll := fun _ h => ⟨List.mem_cons_of_mem _ h, good_of_word (List.mem_filter.mp h).2⟩
theorem wAll_goodA : GoodIn wAll wAll := fun _ h => ⟨h, good_of_word (List.mem_filter.mp h).2⟩
theorem tb_1 {w : Cond} (h : w ∈ tables_1_1) (g : goodWord w = true) : w ∈ wAll := List.mem_filter.mpr ⟨List.mem_append_right _ (List.mem_append_left _ h), g⟩
theorem tb_2 {w : Cond} (h : w ∈ tables_1_2) (g : goodWord w = true) : w ∈ wAll := List.mem_filter.mpr ⟨List.mem_append_right _ (List.mem_append_right _ (List.mem_append_left _ h)), g⟩
theorem tb_3 {w : Cond} (h : w ∈ tables_1_3) (g : goodWord w = true) : w ∈ wAll := List.mem_filter.mpr ⟨List.mem_append_right _ (List.mem_append_right _ (List.mem_append_right _ (List.mem_append_left _ h))), g⟩
theorem tb_4 {w : Cond} (h : w ∈ tables_1_4) (g : goodWord w = true) : w ∈ wAll := List.mem_filter.mpr ⟨List.mem_append_right _ (List.mem_append_right _ (List.mem_append_right _ (List.mem_append_right _ (List.mem_append_left _ h)))), g⟩
theorem tb_5 {w : Cond} (h : w ∈ tables_1_5) (g : goodWord w = true) : w ∈ wAll := List.mem_filter.mpr ⟨List.mem_append_right _ (List.mem_append_right _ (List.mem_append_right _ (List.mem_append_right _ (List.mem_append_right _ h)))), g⟩
theorem tb_0 {q : MethodName × Nat} (h : q ∈ lw_privs) : Cond.selects q.1.cls q.1 q.1 ∈ wAll := List.mem_filter.mpr ⟨List.mem_append_left _ (List.mem_map.mpr ⟨q, h, rfl⟩), rfl⟩
theorem in_L : Cond.initialized RL ∈ wAll := tb_1 (List.mem_of_getElem? (i := 0) rfl) rfl
theorem in_X6 : Cond.initialized RX6 ∈ wAll := tb_1 (List.mem_of_getElem? (i := 1) rfl) rfl
theorem in_X2 : Cond.initialized RX2 ∈ wAll := tb_1 (List.mem_of_getElem? (i := 2) rfl) rfl
theorem in_X3 : Cond.initialized RX3 ∈ wAll := tb_1 (List.mem_of_getElem? (i := 3) rfl) rfl
theorem in_J7 : Cond.initialized RJ7 ∈ wAll := tb_1 (List.mem_of_getElem? (i := 4) rfl) rfl
theorem in_X0 : Cond.initialized RX0 ∈ wAll := tb_1 (List.mem_of_getElem? (i := 5) rfl) rfl
theorem in_X4 : Cond.initialized RX4 ∈ wAll := tb_1 (List.mem_of_getElem? (i := 6) rfl) rfl
theorem in_X1 : Cond.initialized RX1 ∈ wAll := tb_1 (List.mem_of_getElem? (i := 7) rfl) rfl
theorem in_X5 : Cond.initialized RX5 ∈ wAll := tb_1 (List.mem_of_getElem? (i := 8) rfl) rfl
theorem in_X7 : Cond.initialized RX7 ∈ wAll := tb_1 (List.mem_of_getElem? (i := 9) rfl) rfl
theorem in_javalangThrowable : Cond.initialized "java/lang/Throwable" ∈ wAll := tb_1 (List.mem_of_getElem? (i := 10) rfl) rfl
theorem in_javalangException : Cond.initialized "java/lang/Exception" ∈ wAll := tb_1 (List.mem_of_getElem? (i := 11) rfl) rfl
theorem in_javalangRuntimeException : Cond.initialized "java/lang/RuntimeException" ∈ wAll := tb_1 (List.mem_of_getElem? (i := 12) rfl) rfl
theorem in_javalangIllegalArgumentException : Cond.initialized "java/lang/IllegalArgumentException" ∈ wAll := tb_1 (List.mem_of_getElem? (i := 13) rfl) rfl
theorem in_javalangIllegalStateException : Cond.initialized "java/lang/IllegalStateException" ∈ wAll := tb_1 (List.mem_of_getElem? (i := 14) rfl) rfl
theorem in_J10 : Cond.initialized RJ10 ∈ wAll := tb_1 (List.mem_of_getElem? (i := 15) rfl) rfl
theorem in_javalangIndexOutOfBoundsException : Cond.initialized "java/lang/IndexOutOfBoundsException" ∈ wAll := tb_1 (List.mem_of_getElem? (i := 16) rfl) rfl
theorem in_Jxd2413 : Cond.initialized RJxd2413 ∈ wAll := tb_1 (List.mem_of_getElem? (i := 17) rfl) rfl
theorem in_Jxe99ae : Cond.initialized RJxe99ae ∈ wAll := tb_1 (List.mem_of_getElem? (i := 18) rfl) rfl
theorem cl_L_8 : Cond.classLink RL 8 RX6 ∈ wAll := tb_1 (List.mem_of_getElem? (i := 19) rfl) rfl
theorem it_X6 : Cond.instantiable RX6 3 ∈ wAll := tb_1 (List.mem_of_getElem? (i := 20) rfl) rfl
theorem ml_L_71 : Cond.methodLink RL 71 yX6_init ∈ wAll := tb_1 (List.mem_of_getElem? (i := 21) rfl) rfl
theorem im_X6_init : Cond.instanceMethod yX6_init ∈ wAll := tb_1 (List.mem_of_getElem? (i := 22) rfl) rfl
theorem co_X6_init : Cond.code yX6_init cX6_init 1 none ∈ wAll := tb_1 (List.mem_of_getElem? (i := 23) rfl) rfl
theorem ml_X6_3 : Cond.methodLink RX6 3 objectInit ∈ wAll := tb_1 (List.mem_of_getElem? (i := 24) rfl) rfl
theorem im_objectInit : Cond.instanceMethod objectInit ∈ wAll := tb_1 (List.mem_of_getElem? (i := 25) rfl) rfl
theorem co_objectInit : Cond.code objectInit ⟨#[0xb1]⟩ 1 none ∈ wAll := tb_1 (List.mem_of_getElem? (i := 26) rfl) rfl
theorem cl_X6_9 : Cond.classLink RX6 9 RX2 ∈ wAll := tb_1 (List.mem_of_getElem? (i := 27) rfl) rfl
theorem it_X2 : Cond.instantiable RX2 3 ∈ wAll := tb_1 (List.mem_of_getElem? (i := 28) rfl) rfl
theorem im_X2_init : Cond.instanceMethod yX2_init ∈ wAll := tb_1 (List.mem_of_getElem? (i := 30) rfl) rfl
theorem co_X2_init : Cond.code yX2_init cX2_init 1 none ∈ wAll := tb_1 (List.mem_of_getElem? (i := 31) rfl) rfl
theorem ml_X2_3 : Cond.methodLink RX2 3 objectInit ∈ wAll := tb_1 (List.mem_of_getElem? (i := 32) rfl) rfl
theorem cl_X2_9 : Cond.classLink RX2 9 RX3 ∈ wAll := tb_1 (List.mem_of_getElem? (i := 33) rfl) rfl
theorem it_X3 : Cond.instantiable RX3 6 ∈ wAll := tb_1 (List.mem_of_getElem? (i := 34) rfl) rfl
theorem ml_X2_11 : Cond.methodLink RX2 11 yX3_init ∈ wAll := tb_1 (List.mem_of_getElem? (i := 35) rfl) rfl
theorem im_X3_init : Cond.instanceMethod yX3_init ∈ wAll := tb_1 (List.mem_of_getElem? (i := 36) rfl) rfl
theorem co_X3_init : Cond.code yX3_init cX3_init 1 none ∈ wAll := tb_1 (List.mem_of_getElem? (i := 37) rfl) rfl
theorem ml_X3_3 : Cond.methodLink RX3 3 objectInit ∈ wAll := tb_1 (List.mem_of_getElem? (i := 38) rfl) rfl
theorem ml_X3_24 : Cond.methodLink RX3 24 yJ7_fill_53178 ∈ wAll := tb_1 (List.mem_of_getElem? (i := 39) rfl) rfl
theorem st_J7_fill_53178 : Cond.static yJ7_fill_53178 ∈ wAll := tb_1 (List.mem_of_getElem? (i := 40) rfl) rfl
theorem co_J7_fill_53178 : Cond.code yJ7_fill_53178 cJ7_fill_53178 4 none ∈ wAll := tb_1 (List.mem_of_getElem? (i := 41) rfl) rfl
theorem fl_X3_9 : Cond.fieldLink RX3 9 "SeenPages$Table" "values" "[I" ∈ wAll := tb_1 (List.mem_of_getElem? (i := 42) rfl) rfl
theorem fl_X6_78 : Cond.fieldLink RX6 78 "SeenPages$Table" "values" "[I" ∈ wAll := tb_1 (List.mem_of_getElem? (i := 43) rfl) rfl
theorem fl_X3_15 : Cond.fieldLink RX3 15 "SeenPages$Table" "cameBy" "[I" ∈ wAll := tb_1 (List.mem_of_getElem? (i := 44) rfl) rfl
theorem fl_X6_233 : Cond.fieldLink RX6 233 "SeenPages$Table" "cameBy" "[I" ∈ wAll := tb_1 (List.mem_of_getElem? (i := 45) rfl) rfl
theorem fl_X3_18 : Cond.fieldLink RX3 18 "SeenPages$Table" "wentBy" "[I" ∈ wAll := tb_1 (List.mem_of_getElem? (i := 46) rfl) rfl
theorem fl_X6_236 : Cond.fieldLink RX6 236 "SeenPages$Table" "wentBy" "[I" ∈ wAll := tb_1 (List.mem_of_getElem? (i := 47) rfl) rfl
theorem fl_X3_21 : Cond.fieldLink RX3 21 "SeenPages$Table" "markedBy" "[I" ∈ wAll := tb_1 (List.mem_of_getElem? (i := 48) rfl) rfl
theorem fl_X6_251 : Cond.fieldLink RX6 251 "SeenPages$Table" "markedBy" "[I" ∈ wAll := tb_1 (List.mem_of_getElem? (i := 49) rfl) rfl
theorem fl_X3_36 : Cond.fieldLink RX3 36 "SeenPages$Table" "clock" "I" ∈ wAll := tb_1 (List.mem_of_getElem? (i := 50) rfl) rfl
theorem fl_X2_42 : Cond.fieldLink RX2 42 "SeenPages$Table" "clock" "I" ∈ wAll := tb_1 (List.mem_of_getElem? (i := 51) rfl) rfl
theorem fl_X6_99 : Cond.fieldLink RX6 99 "SeenPages$Table" "clock" "I" ∈ wAll := tb_1 (List.mem_of_getElem? (i := 52) rfl) rfl
theorem fl_X3_40 : Cond.fieldLink RX3 40 "SeenPages$Table" "takenOut" "I" ∈ wAll := tb_1 (List.mem_of_getElem? (i := 53) rfl) rfl
theorem fl_X6_261 : Cond.fieldLink RX6 261 "SeenPages$Table" "takenOut" "I" ∈ wAll := tb_1 (List.mem_of_getElem? (i := 54) rfl) rfl
theorem ac_int : Cond.arrayClass .int ∈ wAll := tb_1 (List.mem_of_getElem? (i := 68) rfl) rfl
theorem cl_X2_18 : Cond.classLink RX2 18 RX0 ∈ wAll := tb_1 (List.mem_of_getElem? (i := 69) rfl) rfl
theorem it_X0 : Cond.instantiable RX0 2 ∈ wAll := tb_1 (List.mem_of_getElem? (i := 70) rfl) rfl
theorem ml_X2_20 : Cond.methodLink RX2 20 yX0_init ∈ wAll := tb_1 (List.mem_of_getElem? (i := 71) rfl) rfl
theorem im_X0_init : Cond.instanceMethod yX0_init ∈ wAll := tb_1 (List.mem_of_getElem? (i := 72) rfl) rfl
theorem co_X0_init : Cond.code yX0_init cX0_init 1 none ∈ wAll := tb_1 (List.mem_of_getElem? (i := 73) rfl) rfl
theorem ml_X0_3 : Cond.methodLink RX0 3 objectInit ∈ wAll := tb_1 (List.mem_of_getElem? (i := 74) rfl) rfl
theorem ml_X0_18 : Cond.methodLink RX0 18 yJ7_fill_53178 ∈ wAll := tb_1 (List.mem_of_getElem? (i := 75) rfl) rfl
theorem fl_X0_9 : Cond.fieldLink RX0 9 "SeenPages$Askers" "snapshots" "[I" ∈ wAll := tb_1 (List.mem_of_getElem? (i := 76) rfl) rfl
theorem fl_X6_94 : Cond.fieldLink RX6 94 "SeenPages$Askers" "snapshots" "[I" ∈ wAll := tb_1 (List.mem_of_getElem? (i := 77) rfl) rfl
theorem fl_X0_15 : Cond.fieldLink RX0 15 "SeenPages$Askers" "asked" "[I" ∈ wAll := tb_1 (List.mem_of_getElem? (i := 78) rfl) rfl
theorem fl_X6_119 : Cond.fieldLink RX6 119 "SeenPages$Askers" "asked" "[I" ∈ wAll := tb_1 (List.mem_of_getElem? (i := 79) rfl) rfl
theorem cl_X2_25 : Cond.classLink RX2 25 RX4 ∈ wAll := tb_1 (List.mem_of_getElem? (i := 85) rfl) rfl
theorem it_X4 : Cond.instantiable RX4 3 ∈ wAll := tb_1 (List.mem_of_getElem? (i := 86) rfl) rfl
theorem im_X4_init : Cond.instanceMethod yX4_init ∈ wAll := tb_1 (List.mem_of_getElem? (i := 88) rfl) rfl
theorem co_X4_init : Cond.code yX4_init cX4_init 1 none ∈ wAll := tb_1 (List.mem_of_getElem? (i := 89) rfl) rfl
theorem ml_X4_3 : Cond.methodLink RX4 3 objectInit ∈ wAll := tb_1 (List.mem_of_getElem? (i := 90) rfl) rfl
theorem fl_X4_9 : Cond.fieldLink RX4 9 "SeenPages$Tally" "asked" "[I" ∈ wAll := tb_1 (List.mem_of_getElem? (i := 91) rfl) rfl
theorem fl_X6_254 : Cond.fieldLink RX6 254 "SeenPages$Tally" "asked" "[I" ∈ wAll := tb_1 (List.mem_of_getElem? (i := 92) rfl) rfl
theorem fl_X4_21 : Cond.fieldLink RX4 21 "SeenPages$Tally" "marksNotTrusted" "I" ∈ wAll := tb_1 (List.mem_of_getElem? (i := 93) rfl) rfl
theorem fl_X6_255 : Cond.fieldLink RX6 255 "SeenPages$Tally" "marksNotTrusted" "I" ∈ wAll := tb_1 (List.mem_of_getElem? (i := 94) rfl) rfl
theorem fl_X4_25 : Cond.fieldLink RX4 25 "SeenPages$Tally" "costs" "I" ∈ wAll := tb_1 (List.mem_of_getElem? (i := 95) rfl) rfl
theorem fl_X6_258 : Cond.fieldLink RX6 258 "SeenPages$Tally" "costs" "I" ∈ wAll := tb_1 (List.mem_of_getElem? (i := 96) rfl) rfl
theorem fl_X2_12 : Cond.fieldLink RX2 12 "SeenPages$State" "table" "LSeenPages$Table;" ∈ wAll := tb_1 (List.mem_of_getElem? (i := 104) rfl) rfl
theorem fl_X6_41 : Cond.fieldLink RX6 41 "SeenPages$State" "table" "LSeenPages$Table;" ∈ wAll := tb_1 (List.mem_of_getElem? (i := 105) rfl) rfl
theorem fl_X2_21 : Cond.fieldLink RX2 21 "SeenPages$State" "askers" "LSeenPages$Askers;" ∈ wAll := tb_1 (List.mem_of_getElem? (i := 106) rfl) rfl
theorem fl_X6_90 : Cond.fieldLink RX6 90 "SeenPages$State" "askers" "LSeenPages$Askers;" ∈ wAll := tb_1 (List.mem_of_getElem? (i := 107) rfl) rfl
theorem fl_X2_28 : Cond.fieldLink RX2 28 "SeenPages$State" "tally" "LSeenPages$Tally;" ∈ wAll := tb_1 (List.mem_of_getElem? (i := 108) rfl) rfl
theorem fl_X6_122 : Cond.fieldLink RX6 122 "SeenPages$State" "tally" "LSeenPages$Tally;" ∈ wAll := tb_1 (List.mem_of_getElem? (i := 109) rfl) rfl
theorem cl_X6_16 : Cond.classLink RX6 16 RX1 ∈ wAll := tb_1 (List.mem_of_getElem? (i := 117) rfl) rfl
theorem it_X1 : Cond.instantiable RX1 3 ∈ wAll := tb_1 (List.mem_of_getElem? (i := 118) rfl) rfl
theorem ml_X6_18 : Cond.methodLink RX6 18 yX1_init ∈ wAll := tb_1 (List.mem_of_getElem? (i := 119) rfl) rfl
theorem im_X1_init : Cond.instanceMethod yX1_init ∈ wAll := tb_1 (List.mem_of_getElem? (i := 120) rfl) rfl
theorem co_X1_init : Cond.code yX1_init cX1_init 2 none ∈ wAll := tb_1 (List.mem_of_getElem? (i := 121) rfl) rfl
theorem ml_X1_3 : Cond.methodLink RX1 3 objectInit ∈ wAll := tb_1 (List.mem_of_getElem? (i := 122) rfl) rfl
theorem cl_X1_9 : Cond.classLink RX1 9 RX2 ∈ wAll := tb_1 (List.mem_of_getElem? (i := 123) rfl) rfl
theorem fl_X1_11 : Cond.fieldLink RX1 11 "SeenPages$History" "rows" "[LSeenPages$State;" ∈ wAll := tb_1 (List.mem_of_getElem? (i := 126) rfl) rfl
theorem fl_X1_18 : Cond.fieldLink RX1 18 "SeenPages$History" "next" "I" ∈ wAll := tb_1 (List.mem_of_getElem? (i := 127) rfl) rfl
theorem fl_X1_26 : Cond.fieldLink RX1 26 "SeenPages$History" "size" "I" ∈ wAll := tb_1 (List.mem_of_getElem? (i := 128) rfl) rfl
theorem fl_X6_166 : Cond.fieldLink RX6 166 "SeenPages$History" "size" "I" ∈ wAll := tb_1 (List.mem_of_getElem? (i := 129) rfl) rfl
theorem cl_X6_23 : Cond.classLink RX6 23 RX5 ∈ wAll := tb_1 (List.mem_of_getElem? (i := 137) rfl) rfl
theorem it_X5 : Cond.instantiable RX5 6 ∈ wAll := tb_1 (List.mem_of_getElem? (i := 138) rfl) rfl
theorem im_X5_init : Cond.instanceMethod yX5_init ∈ wAll := tb_1 (List.mem_of_getElem? (i := 140) rfl) rfl
theorem co_X5_init : Cond.code yX5_init cX5_init 1 none ∈ wAll := tb_1 (List.mem_of_getElem? (i := 141) rfl) rfl
theorem ml_X5_3 : Cond.methodLink RX5 3 objectInit ∈ wAll := tb_1 (List.mem_of_getElem? (i := 142) rfl) rfl
theorem fl_X5_9 : Cond.fieldLink RX5 9 "SeenPages$Text" "signs" "[C" ∈ wAll := tb_1 (List.mem_of_getElem? (i := 143) rfl) rfl
theorem fl_X5_15 : Cond.fieldLink RX5 15 "SeenPages$Text" "length" "I" ∈ wAll := tb_1 (List.mem_of_getElem? (i := 144) rfl) rfl
theorem fl_X6_144 : Cond.fieldLink RX6 144 "SeenPages$Text" "length" "I" ∈ wAll := tb_1 (List.mem_of_getElem? (i := 145) rfl) rfl
theorem fl_X5_19 : Cond.fieldLink RX5 19 "SeenPages$Text" "at" "I" ∈ wAll := tb_1 (List.mem_of_getElem? (i := 146) rfl) rfl
theorem fl_X6_158 : Cond.fieldLink RX6 158 "SeenPages$Text" "at" "I" ∈ wAll := tb_1 (List.mem_of_getElem? (i := 147) rfl) rfl
theorem fl_X5_37 : Cond.fieldLink RX5 37 "SeenPages$Text" "kind" "C" ∈ wAll := tb_1 (List.mem_of_getElem? (i := 148) rfl) rfl
theorem fl_X6_275 : Cond.fieldLink RX6 275 "SeenPages$Text" "kind" "C" ∈ wAll := tb_1 (List.mem_of_getElem? (i := 149) rfl) rfl
theorem fl_X5_55 : Cond.fieldLink RX5 55 "SeenPages$Text" "place" "I" ∈ wAll := tb_1 (List.mem_of_getElem? (i := 150) rfl) rfl
theorem fl_X6_279 : Cond.fieldLink RX6 279 "SeenPages$Text" "place" "I" ∈ wAll := tb_1 (List.mem_of_getElem? (i := 151) rfl) rfl
theorem fl_X5_52 : Cond.fieldLink RX5 52 "SeenPages$Text" "digit" "I" ∈ wAll := tb_1 (List.mem_of_getElem? (i := 152) rfl) rfl
theorem fl_X6_282 : Cond.fieldLink RX6 282 "SeenPages$Text" "digit" "I" ∈ wAll := tb_1 (List.mem_of_getElem? (i := 153) rfl) rfl
theorem ac_char : Cond.arrayClass .char ∈ wAll := tb_1 (List.mem_of_getElem? (i := 167) rfl) rfl
theorem fl_X6_12 : Cond.fieldLink RX6 12 "SeenPages" "state" "LSeenPages$State;" ∈ wAll := tb_1 (List.mem_of_getElem? (i := 168) rfl) rfl
theorem fl_X6_19 : Cond.fieldLink RX6 19 "SeenPages" "history" "LSeenPages$History;" ∈ wAll := tb_1 (List.mem_of_getElem? (i := 169) rfl) rfl
theorem fl_X6_26 : Cond.fieldLink RX6 26 "SeenPages" "text" "LSeenPages$Text;" ∈ wAll := tb_1 (List.mem_of_getElem? (i := 170) rfl) rfl
theorem ml_L_100 : Cond.methodLink RL 100 yX6_sweepAll ∈ wAll := tb_1 (List.mem_of_getElem? (i := 178) rfl) rfl
theorem im_X6_sweepAll : Cond.instanceMethod yX6_sweepAll ∈ wAll := tb_1 (List.mem_of_getElem? (i := 179) rfl) rfl
theorem se_X6_sweepAll : Cond.selects RX6 yX6_sweepAll yX6_sweepAll ∈ wAll := tb_1 (List.mem_of_getElem? (i := 180) rfl) rfl
theorem co_X6_sweepAll : Cond.code yX6_sweepAll cX6_sweepAll 3 (some .int) ∈ wAll := tb_1 (List.mem_of_getElem? (i := 181) rfl) rfl
theorem ml_X6_56 : Cond.methodLink RX6 56 yX1_save ∈ wAll := tb_1 (List.mem_of_getElem? (i := 182) rfl) rfl
theorem im_X1_save : Cond.instanceMethod yX1_save ∈ wAll := tb_1 (List.mem_of_getElem? (i := 183) rfl) rfl
theorem se_X1_save : Cond.selects RX1 yX1_save yX1_save ∈ wAll := tb_1 (List.mem_of_getElem? (i := 184) rfl) rfl
theorem co_X1_save : Cond.code yX1_save cX1_save 2 none ∈ wAll := tb_1 (List.mem_of_getElem? (i := 185) rfl) rfl
theorem ml_X1_22 : Cond.methodLink RX1 22 yX2_copyFrom ∈ wAll := tb_1 (List.mem_of_getElem? (i := 186) rfl) rfl
theorem im_X2_copyFrom : Cond.instanceMethod yX2_copyFrom ∈ wAll := tb_1 (List.mem_of_getElem? (i := 187) rfl) rfl
theorem se_X2_copyFrom : Cond.selects RX2 yX2_copyFrom yX2_copyFrom ∈ wAll := tb_1 (List.mem_of_getElem? (i := 188) rfl) rfl
theorem co_X2_copyFrom : Cond.code yX2_copyFrom cX2_copyFrom 2 none ∈ wAll := tb_1 (List.mem_of_getElem? (i := 189) rfl) rfl
theorem ml_X2_32 : Cond.methodLink RX2 32 yX3_copyFrom ∈ wAll := tb_1 (List.mem_of_getElem? (i := 190) rfl) rfl
theorem im_X3_copyFrom : Cond.instanceMethod yX3_copyFrom ∈ wAll := tb_1 (List.mem_of_getElem? (i := 191) rfl) rfl
theorem se_X3_copyFrom : Cond.selects RX3 yX3_copyFrom yX3_copyFrom ∈ wAll := tb_1 (List.mem_of_getElem? (i := 192) rfl) rfl
theorem co_X3_copyFrom : Cond.code yX3_copyFrom cX3_copyFrom 2 none ∈ wAll := tb_1 (List.mem_of_getElem? (i := 193) rfl) rfl
theorem ml_X3_30 : Cond.methodLink RX3 30 arraycopyName ∈ wAll := tb_1 (List.mem_of_getElem? (i := 194) rfl) rfl
theorem st_arraycopy : Cond.static arraycopyName ∈ wAll := tb_1 (List.mem_of_getElem? (i := 195) rfl) rfl
theorem na_arraycopy : Cond.native arraycopyName ∈ wAll := tb_1 (List.mem_of_getElem? (i := 196) rfl) rfl
theorem ml_X2_36 : Cond.methodLink RX2 36 yX0_copyFrom ∈ wAll := tb_1 (List.mem_of_getElem? (i := 197) rfl) rfl
theorem im_X0_copyFrom : Cond.instanceMethod yX0_copyFrom ∈ wAll := tb_1 (List.mem_of_getElem? (i := 198) rfl) rfl
theorem se_X0_copyFrom : Cond.selects RX0 yX0_copyFrom yX0_copyFrom ∈ wAll := tb_1 (List.mem_of_getElem? (i := 199) rfl) rfl
theorem co_X0_copyFrom : Cond.code yX0_copyFrom cX0_copyFrom 2 none ∈ wAll := tb_1 (List.mem_of_getElem? (i := 200) rfl) rfl
theorem ml_X0_24 : Cond.methodLink RX0 24 arraycopyName ∈ wAll := tb_1 (List.mem_of_getElem? (i := 201) rfl) rfl
theorem ml_X2_39 : Cond.methodLink RX2 39 yX4_copyFrom ∈ wAll := tb_1 (List.mem_of_getElem? (i := 202) rfl) rfl
theorem im_X4_copyFrom : Cond.instanceMethod yX4_copyFrom ∈ wAll := tb_1 (List.mem_of_getElem? (i := 203) rfl) rfl
theorem se_X4_copyFrom : Cond.selects RX4 yX4_copyFrom yX4_copyFrom ∈ wAll := tb_1 (List.mem_of_getElem? (i := 204) rfl) rfl
theorem co_X4_copyFrom : Cond.code yX4_copyFrom cX4_copyFrom 2 none ∈ wAll := tb_1 (List.mem_of_getElem? (i := 205) rfl) rfl
theorem ml_X4_15 : Cond.methodLink RX4 15 arraycopyName ∈ wAll := tb_1 (List.mem_of_getElem? (i := 206) rfl) rfl
theorem ml_X6_107 : Cond.methodLink RX6 107 yX2_horizon ∈ wAll := tb_1 (List.mem_of_getElem? (i := 207) rfl) rfl
theorem im_X2_horizon : Cond.instanceMethod yX2_horizon ∈ wAll := tb_1 (List.mem_of_getElem? (i := 208) rfl) rfl
theorem se_X2_horizon : Cond.selects RX2 yX2_horizon yX2_horizon ∈ wAll := tb_1 (List.mem_of_getElem? (i := 209) rfl) rfl
theorem co_X2_horizon : Cond.code yX2_horizon cX2_horizon 1 (some .int) ∈ wAll := tb_1 (List.mem_of_getElem? (i := 210) rfl) rfl
theorem ml_X2_46 : Cond.methodLink RX2 46 yX0_horizonWithout ∈ wAll := tb_1 (List.mem_of_getElem? (i := 211) rfl) rfl
theorem im_X0_horizonWithout : Cond.instanceMethod yX0_horizonWithout ∈ wAll := tb_1 (List.mem_of_getElem? (i := 212) rfl) rfl
theorem se_X0_horizonWithout : Cond.selects RX0 yX0_horizonWithout yX0_horizonWithout ∈ wAll := tb_1 (List.mem_of_getElem? (i := 213) rfl) rfl
theorem co_X0_horizonWithout : Cond.code yX0_horizonWithout cX0_horizonWithout 5 (some .int) ∈ wAll := tb_1 (List.mem_of_getElem? (i := 214) rfl) rfl
theorem ml_X6_111 : Cond.methodLink RX6 111 yX3_sweepPage ∈ wAll := tb_1 (List.mem_of_getElem? (i := 215) rfl) rfl
theorem im_X3_sweepPage : Cond.instanceMethod yX3_sweepPage ∈ wAll := tb_1 (List.mem_of_getElem? (i := 216) rfl) rfl
theorem se_X3_sweepPage : Cond.selects RX3 yX3_sweepPage yX3_sweepPage ∈ wAll := tb_1 (List.mem_of_getElem? (i := 217) rfl) rfl
theorem co_X3_sweepPage : Cond.code yX3_sweepPage cX3_sweepPage 7 (some .int) ∈ wAll := tb_1 (List.mem_of_getElem? (i := 218) rfl) rfl
theorem ml_X3_63 : Cond.methodLink RX3 63 yX3_isToTakeOut ∈ wAll := tb_1 (List.mem_of_getElem? (i := 219) rfl) rfl
theorem im_X3_isToTakeOut : Cond.instanceMethod yX3_isToTakeOut ∈ wAll := tb_1 (List.mem_of_getElem? (i := 221) rfl) rfl
theorem co_X3_isToTakeOut : Cond.code yX3_isToTakeOut cX3_isToTakeOut 3 (some .boolean) ∈ wAll := tb_1 (List.mem_of_getElem? (i := 222) rfl) rfl
theorem ml_X3_66 : Cond.methodLink RX3 66 yX3_empty ∈ wAll := tb_1 (List.mem_of_getElem? (i := 223) rfl) rfl
theorem im_X3_empty : Cond.instanceMethod yX3_empty ∈ wAll := tb_1 (List.mem_of_getElem? (i := 225) rfl) rfl
theorem co_X3_empty : Cond.code yX3_empty cX3_empty 2 none ∈ wAll := tb_1 (List.mem_of_getElem? (i := 226) rfl) rfl
theorem ml_X3_69 : Cond.methodLink RX3 69 yX3_isSeenByAll ∈ wAll := tb_1 (List.mem_of_getElem? (i := 227) rfl) rfl
theorem im_X3_isSeenByAll : Cond.instanceMethod yX3_isSeenByAll ∈ wAll := tb_1 (List.mem_of_getElem? (i := 229) rfl) rfl
theorem co_X3_isSeenByAll : Cond.code yX3_isSeenByAll cX3_isSeenByAll 3 (some .boolean) ∈ wAll := tb_1 (List.mem_of_getElem? (i := 230) rfl) rfl
theorem ml_X6_114 : Cond.methodLink RX6 114 yX3_markedPages ∈ wAll := tb_1 (List.mem_of_getElem? (i := 231) rfl) rfl
theorem im_X3_markedPages : Cond.instanceMethod yX3_markedPages ∈ wAll := tb_1 (List.mem_of_getElem? (i := 232) rfl) rfl
theorem se_X3_markedPages : Cond.selects RX3 yX3_markedPages yX3_markedPages ∈ wAll := tb_1 (List.mem_of_getElem? (i := 233) rfl) rfl
theorem co_X3_markedPages : Cond.code yX3_markedPages cX3_markedPages 3 (some .int) ∈ wAll := tb_1 (List.mem_of_getElem? (i := 234) rfl) rfl
theorem ml_X3_72 : Cond.methodLink RX3 72 yX3_isMarked ∈ wAll := tb_1 (List.mem_of_getElem? (i := 235) rfl) rfl
theorem im_X3_isMarked : Cond.instanceMethod yX3_isMarked ∈ wAll := tb_1 (List.mem_of_getElem? (i := 236) rfl) rfl
theorem se_X3_isMarked : Cond.selects RX3 yX3_isMarked yX3_isMarked ∈ wAll := tb_1 (List.mem_of_getElem? (i := 237) rfl) rfl
theorem co_X3_isMarked : Cond.code yX3_isMarked cX3_isMarked 2 (some .boolean) ∈ wAll := tb_1 (List.mem_of_getElem? (i := 238) rfl) rfl
theorem ml_L_111 : Cond.methodLink RL 111 yX6_clearBuffer ∈ wAll := tb_1 (List.mem_of_getElem? (i := 239) rfl) rfl
theorem im_X6_clearBuffer : Cond.instanceMethod yX6_clearBuffer ∈ wAll := tb_2 (List.mem_of_getElem? (i := 0) rfl) rfl
theorem se_X6_clearBuffer : Cond.selects RX6 yX6_clearBuffer yX6_clearBuffer ∈ wAll := tb_2 (List.mem_of_getElem? (i := 1) rfl) rfl
theorem co_X6_clearBuffer : Cond.code yX6_clearBuffer cX6_clearBuffer 1 (some .int) ∈ wAll := tb_2 (List.mem_of_getElem? (i := 2) rfl) rfl
theorem ml_X6_152 : Cond.methodLink RX6 152 yX5_wipe ∈ wAll := tb_2 (List.mem_of_getElem? (i := 3) rfl) rfl
theorem im_X5_wipe : Cond.instanceMethod yX5_wipe ∈ wAll := tb_2 (List.mem_of_getElem? (i := 4) rfl) rfl
theorem se_X5_wipe : Cond.selects RX5 yX5_wipe yX5_wipe ∈ wAll := tb_2 (List.mem_of_getElem? (i := 5) rfl) rfl
theorem co_X5_wipe : Cond.code yX5_wipe cX5_wipe 2 (some .int) ∈ wAll := tb_2 (List.mem_of_getElem? (i := 6) rfl) rfl
theorem ml_L_115 : Cond.methodLink RL 115 yX6_firstError ∈ wAll := tb_2 (List.mem_of_getElem? (i := 7) rfl) rfl
theorem im_X6_firstError : Cond.instanceMethod yX6_firstError ∈ wAll := tb_2 (List.mem_of_getElem? (i := 8) rfl) rfl
theorem se_X6_firstError : Cond.selects RX6 yX6_firstError yX6_firstError ∈ wAll := tb_2 (List.mem_of_getElem? (i := 9) rfl) rfl
theorem co_X6_firstError : Cond.code yX6_firstError cX6_firstError 1 (some .int) ∈ wAll := tb_2 (List.mem_of_getElem? (i := 10) rfl) rfl
theorem ml_X6_155 : Cond.methodLink RX6 155 yX5_readAll ∈ wAll := tb_2 (List.mem_of_getElem? (i := 11) rfl) rfl
theorem im_X5_readAll : Cond.instanceMethod yX5_readAll ∈ wAll := tb_2 (List.mem_of_getElem? (i := 12) rfl) rfl
theorem se_X5_readAll : Cond.selects RX5 yX5_readAll yX5_readAll ∈ wAll := tb_2 (List.mem_of_getElem? (i := 13) rfl) rfl
theorem co_X5_readAll : Cond.code yX5_readAll cX5_readAll 3 (some .boolean) ∈ wAll := tb_2 (List.mem_of_getElem? (i := 14) rfl) rfl
theorem ml_X5_22 : Cond.methodLink RX5 22 yX5_rewind ∈ wAll := tb_2 (List.mem_of_getElem? (i := 15) rfl) rfl
theorem im_X5_rewind : Cond.instanceMethod yX5_rewind ∈ wAll := tb_2 (List.mem_of_getElem? (i := 16) rfl) rfl
theorem se_X5_rewind : Cond.selects RX5 yX5_rewind yX5_rewind ∈ wAll := tb_2 (List.mem_of_getElem? (i := 17) rfl) rfl
theorem co_X5_rewind : Cond.code yX5_rewind cX5_rewind 1 none ∈ wAll := tb_2 (List.mem_of_getElem? (i := 18) rfl) rfl
theorem ml_X5_25 : Cond.methodLink RX5 25 yX5_readNext ∈ wAll := tb_2 (List.mem_of_getElem? (i := 19) rfl) rfl
theorem im_X5_readNext : Cond.instanceMethod yX5_readNext ∈ wAll := tb_2 (List.mem_of_getElem? (i := 20) rfl) rfl
theorem se_X5_readNext : Cond.selects RX5 yX5_readNext yX5_readNext ∈ wAll := tb_2 (List.mem_of_getElem? (i := 21) rfl) rfl
theorem co_X5_readNext : Cond.code yX5_readNext cX5_readNext 2 (some .boolean) ∈ wAll := tb_2 (List.mem_of_getElem? (i := 22) rfl) rfl
theorem ml_X5_29 : Cond.methodLink RX5 29 yX5_readSign ∈ wAll := tb_2 (List.mem_of_getElem? (i := 23) rfl) rfl
theorem im_X5_readSign : Cond.instanceMethod yX5_readSign ∈ wAll := tb_2 (List.mem_of_getElem? (i := 25) rfl) rfl
theorem co_X5_readSign : Cond.code yX5_readSign cX5_readSign 2 (some .boolean) ∈ wAll := tb_2 (List.mem_of_getElem? (i := 26) rfl) rfl
theorem ml_X5_33 : Cond.methodLink RX5 33 yX5_signAt ∈ wAll := tb_2 (List.mem_of_getElem? (i := 27) rfl) rfl
theorem im_X5_signAt : Cond.instanceMethod yX5_signAt ∈ wAll := tb_2 (List.mem_of_getElem? (i := 28) rfl) rfl
theorem se_X5_signAt : Cond.selects RX5 yX5_signAt yX5_signAt ∈ wAll := tb_2 (List.mem_of_getElem? (i := 29) rfl) rfl
theorem co_X5_signAt : Cond.code yX5_signAt cX5_signAt 2 (some .char) ∈ wAll := tb_2 (List.mem_of_getElem? (i := 30) rfl) rfl
theorem ml_X5_41 : Cond.methodLink RX5 41 yX5_readDigit ∈ wAll := tb_2 (List.mem_of_getElem? (i := 31) rfl) rfl
theorem im_X5_readDigit : Cond.instanceMethod yX5_readDigit ∈ wAll := tb_2 (List.mem_of_getElem? (i := 33) rfl) rfl
theorem co_X5_readDigit : Cond.code yX5_readDigit cX5_readDigit 3 (some .boolean) ∈ wAll := tb_2 (List.mem_of_getElem? (i := 34) rfl) rfl
theorem ml_X5_48 : Cond.methodLink RX5 48 yX5_digitHere ∈ wAll := tb_2 (List.mem_of_getElem? (i := 35) rfl) rfl
theorem im_X5_digitHere : Cond.instanceMethod yX5_digitHere ∈ wAll := tb_2 (List.mem_of_getElem? (i := 37) rfl) rfl
theorem co_X5_digitHere : Cond.code yX5_digitHere cX5_digitHere 2 (some .int) ∈ wAll := tb_2 (List.mem_of_getElem? (i := 38) rfl) rfl
theorem ml_X5_45 : Cond.methodLink RX5 45 yX5_readPlace ∈ wAll := tb_2 (List.mem_of_getElem? (i := 39) rfl) rfl
theorem im_X5_readPlace : Cond.instanceMethod yX5_readPlace ∈ wAll := tb_2 (List.mem_of_getElem? (i := 41) rfl) rfl
theorem co_X5_readPlace : Cond.code yX5_readPlace cX5_readPlace 3 (some .boolean) ∈ wAll := tb_2 (List.mem_of_getElem? (i := 42) rfl) rfl
theorem ml_L_148 : Cond.methodLink RL 148 yX6_holder ∈ wAll := tb_2 (List.mem_of_getElem? (i := 43) rfl) rfl
theorem im_X6_holder : Cond.instanceMethod yX6_holder ∈ wAll := tb_2 (List.mem_of_getElem? (i := 44) rfl) rfl
theorem se_X6_holder : Cond.selects RX6 yX6_holder yX6_holder ∈ wAll := tb_2 (List.mem_of_getElem? (i := 45) rfl) rfl
theorem co_X6_holder : Cond.code yX6_holder cX6_holder 1 (some .int) ∈ wAll := tb_2 (List.mem_of_getElem? (i := 46) rfl) rfl
theorem ml_X6_204 : Cond.methodLink RX6 204 yX6_mostHolding ∈ wAll := tb_2 (List.mem_of_getElem? (i := 47) rfl) rfl
theorem im_X6_mostHolding : Cond.instanceMethod yX6_mostHolding ∈ wAll := tb_2 (List.mem_of_getElem? (i := 49) rfl) rfl
theorem co_X6_mostHolding : Cond.code yX6_mostHolding cX6_mostHolding 6 (some .int) ∈ wAll := tb_2 (List.mem_of_getElem? (i := 50) rfl) rfl
theorem ml_X6_248 : Cond.methodLink RX6 248 yX3_versionsToTakeOut ∈ wAll := tb_2 (List.mem_of_getElem? (i := 51) rfl) rfl
theorem im_X3_versionsToTakeOut : Cond.instanceMethod yX3_versionsToTakeOut ∈ wAll := tb_2 (List.mem_of_getElem? (i := 52) rfl) rfl
theorem se_X3_versionsToTakeOut : Cond.selects RX3 yX3_versionsToTakeOut yX3_versionsToTakeOut ∈ wAll := tb_2 (List.mem_of_getElem? (i := 53) rfl) rfl
theorem co_X3_versionsToTakeOut : Cond.code yX3_versionsToTakeOut cX3_versionsToTakeOut 6 (some .int) ∈ wAll := tb_2 (List.mem_of_getElem? (i := 54) rfl) rfl
theorem ml_X6_264 : Cond.methodLink RX6 264 yX0_horizonWithout ∈ wAll := tb_2 (List.mem_of_getElem? (i := 55) rfl) rfl
theorem ml_L_152 : Cond.methodLink RL 152 yX6_marked ∈ wAll := tb_2 (List.mem_of_getElem? (i := 56) rfl) rfl
theorem im_X6_marked : Cond.instanceMethod yX6_marked ∈ wAll := tb_2 (List.mem_of_getElem? (i := 57) rfl) rfl
theorem se_X6_marked : Cond.selects RX6 yX6_marked yX6_marked ∈ wAll := tb_2 (List.mem_of_getElem? (i := 58) rfl) rfl
theorem co_X6_marked : Cond.code yX6_marked cX6_marked 1 (some .double) ∈ wAll := tb_2 (List.mem_of_getElem? (i := 59) rfl) rfl
theorem ml_X6_207 : Cond.methodLink RX6 207 yX6_markedShare ∈ wAll := tb_2 (List.mem_of_getElem? (i := 60) rfl) rfl
theorem im_X6_markedShare : Cond.instanceMethod yX6_markedShare ∈ wAll := tb_2 (List.mem_of_getElem? (i := 62) rfl) rfl
theorem co_X6_markedShare : Cond.code yX6_markedShare cX6_markedShare 1 (some .double) ∈ wAll := tb_2 (List.mem_of_getElem? (i := 63) rfl) rfl
theorem kc_X6_267 : Cond.constantDouble RX6 267 (4618441417868443648) ∈ wAll := tb_2 (List.mem_of_getElem? (i := 64) rfl) rfl
theorem ml_L_157 : Cond.methodLink RL 157 yX6_digest ∈ wAll := tb_2 (List.mem_of_getElem? (i := 65) rfl) rfl
theorem im_X6_digest : Cond.instanceMethod yX6_digest ∈ wAll := tb_2 (List.mem_of_getElem? (i := 66) rfl) rfl
theorem se_X6_digest : Cond.selects RX6 yX6_digest yX6_digest ∈ wAll := tb_2 (List.mem_of_getElem? (i := 67) rfl) rfl
theorem co_X6_digest : Cond.code yX6_digest cX6_digest 4 (some .long) ∈ wAll := tb_2 (List.mem_of_getElem? (i := 68) rfl) rfl
theorem kc_X6_211 : Cond.constantLong RX6 211 (3467) ∈ wAll := tb_2 (List.mem_of_getElem? (i := 69) rfl) rfl
theorem ml_X6_191 : Cond.methodLink RX6 191 yX6_countNumber ∈ wAll := tb_2 (List.mem_of_getElem? (i := 70) rfl) rfl
theorem im_X6_countNumber : Cond.instanceMethod yX6_countNumber ∈ wAll := tb_2 (List.mem_of_getElem? (i := 72) rfl) rfl
theorem co_X6_countNumber : Cond.code yX6_countNumber cX6_countNumber 3 (some .int) ∈ wAll := tb_2 (List.mem_of_getElem? (i := 73) rfl) rfl
theorem ml_X6_242 : Cond.methodLink RX6 242 yX3_versions ∈ wAll := tb_2 (List.mem_of_getElem? (i := 74) rfl) rfl
theorem im_X3_versions : Cond.instanceMethod yX3_versions ∈ wAll := tb_2 (List.mem_of_getElem? (i := 75) rfl) rfl
theorem se_X3_versions : Cond.selects RX3 yX3_versions yX3_versions ∈ wAll := tb_2 (List.mem_of_getElem? (i := 76) rfl) rfl
theorem co_X3_versions : Cond.code yX3_versions cX3_versions 5 (some .int) ∈ wAll := tb_2 (List.mem_of_getElem? (i := 77) rfl) rfl
theorem ml_X6_245 : Cond.methodLink RX6 245 yX3_versionsSeen ∈ wAll := tb_2 (List.mem_of_getElem? (i := 78) rfl) rfl
theorem im_X3_versionsSeen : Cond.instanceMethod yX3_versionsSeen ∈ wAll := tb_2 (List.mem_of_getElem? (i := 79) rfl) rfl
theorem se_X3_versionsSeen : Cond.selects RX3 yX3_versionsSeen yX3_versionsSeen ∈ wAll := tb_2 (List.mem_of_getElem? (i := 80) rfl) rfl
theorem co_X3_versionsSeen : Cond.code yX3_versionsSeen cX3_versionsSeen 6 (some .int) ∈ wAll := tb_2 (List.mem_of_getElem? (i := 81) rfl) rfl
theorem ml_X3_43 : Cond.methodLink RX3 43 yX3_isSeen ∈ wAll := tb_2 (List.mem_of_getElem? (i := 82) rfl) rfl
theorem im_X3_isSeen : Cond.instanceMethod yX3_isSeen ∈ wAll := tb_2 (List.mem_of_getElem? (i := 83) rfl) rfl
theorem se_X3_isSeen : Cond.selects RX3 yX3_isSeen yX3_isSeen ∈ wAll := tb_2 (List.mem_of_getElem? (i := 84) rfl) rfl
theorem co_X3_isSeen : Cond.code yX3_isSeen cX3_isSeen 3 (some .boolean) ∈ wAll := tb_2 (List.mem_of_getElem? (i := 85) rfl) rfl
theorem ml_X6_213 : Cond.methodLink RX6 213 yX6_mix ∈ wAll := tb_2 (List.mem_of_getElem? (i := 86) rfl) rfl
theorem st_X6_mix : Cond.static yX6_mix ∈ wAll := tb_2 (List.mem_of_getElem? (i := 87) rfl) rfl
theorem co_X6_mix : Cond.code yX6_mix cX6_mix 4 (some .long) ∈ wAll := tb_2 (List.mem_of_getElem? (i := 88) rfl) rfl
theorem kc_X6_289 : Cond.constantLong RX6 289 (31) ∈ wAll := tb_2 (List.mem_of_getElem? (i := 89) rfl) rfl
theorem ml_X6_217 : Cond.methodLink RX6 217 yX6_mixParts ∈ wAll := tb_2 (List.mem_of_getElem? (i := 90) rfl) rfl
theorem im_X6_mixParts : Cond.instanceMethod yX6_mixParts ∈ wAll := tb_2 (List.mem_of_getElem? (i := 92) rfl) rfl
theorem co_X6_mixParts : Cond.code yX6_mixParts cX6_mixParts 7 (some .long) ∈ wAll := tb_2 (List.mem_of_getElem? (i := 93) rfl) rfl
theorem ml_X6_176 : Cond.methodLink RX6 176 yX6_slotNumber ∈ wAll := tb_2 (List.mem_of_getElem? (i := 94) rfl) rfl
theorem im_X6_slotNumber : Cond.instanceMethod yX6_slotNumber ∈ wAll := tb_2 (List.mem_of_getElem? (i := 96) rfl) rfl
theorem co_X6_slotNumber : Cond.code yX6_slotNumber cX6_slotNumber 4 (some .int) ∈ wAll := tb_2 (List.mem_of_getElem? (i := 97) rfl) rfl
theorem ml_X6_69 : Cond.methodLink RX6 69 yX3_isSeenNow ∈ wAll := tb_2 (List.mem_of_getElem? (i := 98) rfl) rfl
theorem im_X3_isSeenNow : Cond.instanceMethod yX3_isSeenNow ∈ wAll := tb_2 (List.mem_of_getElem? (i := 99) rfl) rfl
theorem se_X3_isSeenNow : Cond.selects RX3 yX3_isSeenNow yX3_isSeenNow ∈ wAll := tb_2 (List.mem_of_getElem? (i := 100) rfl) rfl
theorem co_X3_isSeenNow : Cond.code yX3_isSeenNow cX3_isSeenNow 2 (some .boolean) ∈ wAll := tb_2 (List.mem_of_getElem? (i := 101) rfl) rfl
theorem ml_X6_181 : Cond.methodLink RX6 181 yX6_pageNumber ∈ wAll := tb_2 (List.mem_of_getElem? (i := 102) rfl) rfl
theorem im_X6_pageNumber : Cond.instanceMethod yX6_pageNumber ∈ wAll := tb_2 (List.mem_of_getElem? (i := 104) rfl) rfl
theorem co_X6_pageNumber : Cond.code yX6_pageNumber cX6_pageNumber 6 (some .int) ∈ wAll := tb_2 (List.mem_of_getElem? (i := 105) rfl) rfl
theorem ml_X6_239 : Cond.methodLink RX6 239 yX3_isMarked ∈ wAll := tb_2 (List.mem_of_getElem? (i := 106) rfl) rfl
theorem ml_X6_186 : Cond.methodLink RX6 186 yX6_askerNumber ∈ wAll := tb_2 (List.mem_of_getElem? (i := 107) rfl) rfl
theorem im_X6_askerNumber : Cond.instanceMethod yX6_askerNumber ∈ wAll := tb_2 (List.mem_of_getElem? (i := 109) rfl) rfl
theorem co_X6_askerNumber : Cond.code yX6_askerNumber cX6_askerNumber 4 (some .int) ∈ wAll := tb_2 (List.mem_of_getElem? (i := 110) rfl) rfl
theorem ml_X6_221 : Cond.methodLink RX6 221 yX6_mixValue ∈ wAll := tb_2 (List.mem_of_getElem? (i := 111) rfl) rfl
theorem im_X6_mixValue : Cond.instanceMethod yX6_mixValue ∈ wAll := tb_2 (List.mem_of_getElem? (i := 113) rfl) rfl
theorem co_X6_mixValue : Cond.code yX6_mixValue cX6_mixValue 8 (some .long) ∈ wAll := tb_2 (List.mem_of_getElem? (i := 114) rfl) rfl
theorem ml_X6_139 : Cond.methodLink RX6 139 yX3_answer ∈ wAll := tb_2 (List.mem_of_getElem? (i := 115) rfl) rfl
theorem im_X3_answer : Cond.instanceMethod yX3_answer ∈ wAll := tb_2 (List.mem_of_getElem? (i := 116) rfl) rfl
theorem se_X3_answer : Cond.selects RX3 yX3_answer yX3_answer ∈ wAll := tb_2 (List.mem_of_getElem? (i := 117) rfl) rfl
theorem co_X3_answer : Cond.code yX3_answer cX3_answer 7 (some .int) ∈ wAll := tb_2 (List.mem_of_getElem? (i := 118) rfl) rfl
theorem ml_X3_75 : Cond.methodLink RX3 75 yX3_mayTrustMarks ∈ wAll := tb_2 (List.mem_of_getElem? (i := 119) rfl) rfl
theorem im_X3_mayTrustMarks : Cond.instanceMethod yX3_mayTrustMarks ∈ wAll := tb_2 (List.mem_of_getElem? (i := 120) rfl) rfl
theorem se_X3_mayTrustMarks : Cond.selects RX3 yX3_mayTrustMarks yX3_mayTrustMarks ∈ wAll := tb_2 (List.mem_of_getElem? (i := 121) rfl) rfl
theorem co_X3_mayTrustMarks : Cond.code yX3_mayTrustMarks cX3_mayTrustMarks 3 (some .boolean) ∈ wAll := tb_2 (List.mem_of_getElem? (i := 122) rfl) rfl
theorem ml_X6_126 : Cond.methodLink RX6 126 yX3_cost ∈ wAll := tb_2 (List.mem_of_getElem? (i := 123) rfl) rfl
theorem im_X3_cost : Cond.instanceMethod yX3_cost ∈ wAll := tb_2 (List.mem_of_getElem? (i := 124) rfl) rfl
theorem se_X3_cost : Cond.selects RX3 yX3_cost yX3_cost ∈ wAll := tb_2 (List.mem_of_getElem? (i := 125) rfl) rfl
theorem co_X3_cost : Cond.code yX3_cost cX3_cost 7 (some .int) ∈ wAll := tb_2 (List.mem_of_getElem? (i := 126) rfl) rfl
theorem ml_X3_78 : Cond.methodLink RX3 78 yX3_indexHas ∈ wAll := tb_2 (List.mem_of_getElem? (i := 127) rfl) rfl
theorem im_X3_indexHas : Cond.instanceMethod yX3_indexHas ∈ wAll := tb_2 (List.mem_of_getElem? (i := 129) rfl) rfl
theorem co_X3_indexHas : Cond.code yX3_indexHas cX3_indexHas 5 (some .boolean) ∈ wAll := tb_2 (List.mem_of_getElem? (i := 130) rfl) rfl
theorem ml_X6_198 : Cond.methodLink RX6 198 yX3_wronglyTold ∈ wAll := tb_2 (List.mem_of_getElem? (i := 131) rfl) rfl
theorem im_X3_wronglyTold : Cond.instanceMethod yX3_wronglyTold ∈ wAll := tb_2 (List.mem_of_getElem? (i := 132) rfl) rfl
theorem se_X3_wronglyTold : Cond.selects RX3 yX3_wronglyTold yX3_wronglyTold ∈ wAll := tb_2 (List.mem_of_getElem? (i := 133) rfl) rfl
theorem co_X3_wronglyTold : Cond.code yX3_wronglyTold cX3_wronglyTold 4 (some .int) ∈ wAll := tb_2 (List.mem_of_getElem? (i := 134) rfl) rfl
theorem ml_X3_55 : Cond.methodLink RX3 55 yX3_isSeenNow ∈ wAll := tb_2 (List.mem_of_getElem? (i := 135) rfl) rfl
theorem ml_X6_201 : Cond.methodLink RX6 201 yX3_leastCostWay ∈ wAll := tb_2 (List.mem_of_getElem? (i := 136) rfl) rfl
theorem im_X3_leastCostWay : Cond.instanceMethod yX3_leastCostWay ∈ wAll := tb_2 (List.mem_of_getElem? (i := 137) rfl) rfl
theorem se_X3_leastCostWay : Cond.selects RX3 yX3_leastCostWay yX3_leastCostWay ∈ wAll := tb_2 (List.mem_of_getElem? (i := 138) rfl) rfl
theorem co_X3_leastCostWay : Cond.code yX3_leastCostWay cX3_leastCostWay 4 (some .int) ∈ wAll := tb_2 (List.mem_of_getElem? (i := 139) rfl) rfl
theorem ml_X3_81 : Cond.methodLink RX3 81 yX3_cost ∈ wAll := tb_2 (List.mem_of_getElem? (i := 140) rfl) rfl
theorem ml_X6_225 : Cond.methodLink RX6 225 yX6_bitsOfShare ∈ wAll := tb_2 (List.mem_of_getElem? (i := 141) rfl) rfl
theorem st_X6_bitsOfShare : Cond.static yX6_bitsOfShare ∈ wAll := tb_2 (List.mem_of_getElem? (i := 142) rfl) rfl
theorem co_X6_bitsOfShare : Cond.code yX6_bitsOfShare cX6_bitsOfShare 7 (some .long) ∈ wAll := tb_2 (List.mem_of_getElem? (i := 143) rfl) rfl
theorem kc_X6_291 : Cond.constantDouble RX6 291 (4611686018427387904) ∈ wAll := tb_2 (List.mem_of_getElem? (i := 144) rfl) rfl
theorem kc_X6_293 : Cond.constantDouble RX6 293 (4841369599423283200) ∈ wAll := tb_2 (List.mem_of_getElem? (i := 145) rfl) rfl
theorem ml_X6_229 : Cond.methodLink RX6 229 yX5_signAt ∈ wAll := tb_2 (List.mem_of_getElem? (i := 146) rfl) rfl
theorem ml_L_75 : Cond.methodLink RL 75 yL_put ∈ wAll := tb_2 (List.mem_of_getElem? (i := 147) rfl) rfl
theorem st_L_put : Cond.static yL_put ∈ wAll := tb_2 (List.mem_of_getElem? (i := 148) rfl) rfl
theorem co_L_put : Cond.codeWith yL_put cL_put 4 (some .int) [(0, 9, 12, 13), (0, 9, 15, 15)] ∈ wAll := tb_2 (List.mem_of_getElem? (i := 149) rfl) rfl
theorem cl_L_13 : Cond.classLink RL 13 "java/lang/IllegalArgumentException" ∈ wAll := tb_2 (List.mem_of_getElem? (i := 150) rfl) rfl
theorem cl_L_15 : Cond.classLink RL 15 "java/lang/IllegalStateException" ∈ wAll := tb_2 (List.mem_of_getElem? (i := 151) rfl) rfl
theorem ml_L_7 : Cond.methodLink RL 7 yX6_put ∈ wAll := tb_2 (List.mem_of_getElem? (i := 152) rfl) rfl
theorem im_X6_put : Cond.instanceMethod yX6_put ∈ wAll := tb_2 (List.mem_of_getElem? (i := 153) rfl) rfl
theorem se_X6_put : Cond.selects RX6 yX6_put yX6_put ∈ wAll := tb_2 (List.mem_of_getElem? (i := 154) rfl) rfl
theorem co_X6_put : Cond.code yX6_put cX6_put 2 (some .int) ∈ wAll := tb_2 (List.mem_of_getElem? (i := 155) rfl) rfl
theorem ml_X6_30 : Cond.methodLink RX6 30 yX6_isOutside ∈ wAll := tb_2 (List.mem_of_getElem? (i := 156) rfl) rfl
theorem st_X6_isOutside : Cond.static yX6_isOutside ∈ wAll := tb_2 (List.mem_of_getElem? (i := 157) rfl) rfl
theorem co_X6_isOutside : Cond.code yX6_isOutside cX6_isOutside 2 (some .boolean) ∈ wAll := tb_2 (List.mem_of_getElem? (i := 158) rfl) rfl
theorem cl_X6_34 : Cond.classLink RX6 34 "java/lang/IllegalArgumentException" ∈ wAll := tb_2 (List.mem_of_getElem? (i := 159) rfl) rfl
theorem it_javalangIllegalArgumentException : Cond.instantiable "java/lang/IllegalArgumentException" 6 ∈ wAll := tb_2 (List.mem_of_getElem? (i := 160) rfl) rfl
theorem it_javalangThrowable : Cond.instantiable "java/lang/Throwable" 6 ∈ wAll := tb_2 (List.mem_of_getElem? (i := 198) rfl) rfl
theorem ac_byte : Cond.arrayClass .byte ∈ wAll := tb_2 (List.mem_of_getElem? (i := 226) rfl) rfl
theorem ml_X6_45 : Cond.methodLink RX6 45 yX3_hasEmptySlot ∈ wAll := tb_2 (List.mem_of_getElem? (i := 227) rfl) rfl
theorem im_X3_hasEmptySlot : Cond.instanceMethod yX3_hasEmptySlot ∈ wAll := tb_2 (List.mem_of_getElem? (i := 228) rfl) rfl
theorem se_X3_hasEmptySlot : Cond.selects RX3 yX3_hasEmptySlot yX3_hasEmptySlot ∈ wAll := tb_2 (List.mem_of_getElem? (i := 229) rfl) rfl
theorem co_X3_hasEmptySlot : Cond.code yX3_hasEmptySlot cX3_hasEmptySlot 1 (some .boolean) ∈ wAll := tb_2 (List.mem_of_getElem? (i := 230) rfl) rfl
theorem ml_X3_47 : Cond.methodLink RX3 47 yX3_lowestEmptySlot ∈ wAll := tb_2 (List.mem_of_getElem? (i := 231) rfl) rfl
theorem im_X3_lowestEmptySlot : Cond.instanceMethod yX3_lowestEmptySlot ∈ wAll := tb_2 (List.mem_of_getElem? (i := 232) rfl) rfl
theorem se_X3_lowestEmptySlot : Cond.selects RX3 yX3_lowestEmptySlot yX3_lowestEmptySlot ∈ wAll := tb_2 (List.mem_of_getElem? (i := 233) rfl) rfl
theorem co_X3_lowestEmptySlot : Cond.code yX3_lowestEmptySlot cX3_lowestEmptySlot 2 (some .int) ∈ wAll := tb_2 (List.mem_of_getElem? (i := 234) rfl) rfl
theorem cl_X6_51 : Cond.classLink RX6 51 "java/lang/IllegalStateException" ∈ wAll := tb_2 (List.mem_of_getElem? (i := 235) rfl) rfl
theorem it_javalangIllegalStateException : Cond.instantiable "java/lang/IllegalStateException" 6 ∈ wAll := tb_2 (List.mem_of_getElem? (i := 236) rfl) rfl
theorem ml_X6_60 : Cond.methodLink RX6 60 yX3_putValue ∈ wAll := tb_3 (List.mem_of_getElem? (i := 11) rfl) rfl
theorem im_X3_putValue : Cond.instanceMethod yX3_putValue ∈ wAll := tb_3 (List.mem_of_getElem? (i := 12) rfl) rfl
theorem se_X3_putValue : Cond.selects RX3 yX3_putValue yX3_putValue ∈ wAll := tb_3 (List.mem_of_getElem? (i := 13) rfl) rfl
theorem co_X3_putValue : Cond.code yX3_putValue cX3_putValue 3 (some .int) ∈ wAll := tb_3 (List.mem_of_getElem? (i := 14) rfl) rfl
theorem ml_X3_51 : Cond.methodLink RX3 51 yX3_come ∈ wAll := tb_3 (List.mem_of_getElem? (i := 15) rfl) rfl
theorem im_X3_come : Cond.instanceMethod yX3_come ∈ wAll := tb_3 (List.mem_of_getElem? (i := 17) rfl) rfl
theorem co_X3_come : Cond.code yX3_come cX3_come 3 none ∈ wAll := tb_3 (List.mem_of_getElem? (i := 18) rfl) rfl
theorem ml_L_84 : Cond.methodLink RL 84 yL_take ∈ wAll := tb_3 (List.mem_of_getElem? (i := 19) rfl) rfl
theorem st_L_take : Cond.static yL_take ∈ wAll := tb_3 (List.mem_of_getElem? (i := 20) rfl) rfl
theorem co_L_take : Cond.codeWith yL_take cL_take 4 (some .int) [(0, 9, 12, 20), (0, 9, 15, 15)] ∈ wAll := tb_3 (List.mem_of_getElem? (i := 21) rfl) rfl
theorem cl_L_20 : Cond.classLink RL 20 "java/lang/IndexOutOfBoundsException" ∈ wAll := tb_3 (List.mem_of_getElem? (i := 22) rfl) rfl
theorem ml_L_17 : Cond.methodLink RL 17 yX6_take ∈ wAll := tb_3 (List.mem_of_getElem? (i := 23) rfl) rfl
theorem im_X6_take : Cond.instanceMethod yX6_take ∈ wAll := tb_3 (List.mem_of_getElem? (i := 24) rfl) rfl
theorem se_X6_take : Cond.selects RX6 yX6_take yX6_take ∈ wAll := tb_3 (List.mem_of_getElem? (i := 25) rfl) rfl
theorem co_X6_take : Cond.code yX6_take cX6_take 2 (some .int) ∈ wAll := tb_3 (List.mem_of_getElem? (i := 26) rfl) rfl
theorem cl_X6_64 : Cond.classLink RX6 64 "java/lang/IndexOutOfBoundsException" ∈ wAll := tb_3 (List.mem_of_getElem? (i := 27) rfl) rfl
theorem it_javalangIndexOutOfBoundsException : Cond.instantiable "java/lang/IndexOutOfBoundsException" 6 ∈ wAll := tb_3 (List.mem_of_getElem? (i := 28) rfl) rfl
theorem ml_X6_75 : Cond.methodLink RX6 75 yX3_takeAway ∈ wAll := tb_3 (List.mem_of_getElem? (i := 44) rfl) rfl
theorem im_X3_takeAway : Cond.instanceMethod yX3_takeAway ∈ wAll := tb_3 (List.mem_of_getElem? (i := 45) rfl) rfl
theorem se_X3_takeAway : Cond.selects RX3 yX3_takeAway yX3_takeAway ∈ wAll := tb_3 (List.mem_of_getElem? (i := 46) rfl) rfl
theorem co_X3_takeAway : Cond.code yX3_takeAway cX3_takeAway 2 (some .boolean) ∈ wAll := tb_3 (List.mem_of_getElem? (i := 47) rfl) rfl
theorem ml_X3_59 : Cond.methodLink RX3 59 yX3_go ∈ wAll := tb_3 (List.mem_of_getElem? (i := 48) rfl) rfl
theorem im_X3_go : Cond.instanceMethod yX3_go ∈ wAll := tb_3 (List.mem_of_getElem? (i := 50) rfl) rfl
theorem co_X3_go : Cond.code yX3_go cX3_go 2 none ∈ wAll := tb_3 (List.mem_of_getElem? (i := 51) rfl) rfl
theorem ml_L_87 : Cond.methodLink RL 87 yL_change ∈ wAll := tb_3 (List.mem_of_getElem? (i := 52) rfl) rfl
theorem st_L_change : Cond.static yL_change ∈ wAll := tb_3 (List.mem_of_getElem? (i := 53) rfl) rfl
theorem co_L_change : Cond.codeWith yL_change cL_change 5 (some .int) [(0, 10, 13, 20), (0, 10, 17, 13), (0, 10, 21, 15)] ∈ wAll := tb_3 (List.mem_of_getElem? (i := 54) rfl) rfl
theorem ml_L_22 : Cond.methodLink RL 22 yX6_change ∈ wAll := tb_3 (List.mem_of_getElem? (i := 55) rfl) rfl
theorem im_X6_change : Cond.instanceMethod yX6_change ∈ wAll := tb_3 (List.mem_of_getElem? (i := 56) rfl) rfl
theorem se_X6_change : Cond.selects RX6 yX6_change yX6_change ∈ wAll := tb_3 (List.mem_of_getElem? (i := 57) rfl) rfl
theorem co_X6_change : Cond.code yX6_change cX6_change 3 (some .int) ∈ wAll := tb_3 (List.mem_of_getElem? (i := 58) rfl) rfl
theorem ml_X6_84 : Cond.methodLink RX6 84 yX3_changeTo ∈ wAll := tb_3 (List.mem_of_getElem? (i := 60) rfl) rfl
theorem im_X3_changeTo : Cond.instanceMethod yX3_changeTo ∈ wAll := tb_3 (List.mem_of_getElem? (i := 61) rfl) rfl
theorem se_X3_changeTo : Cond.selects RX3 yX3_changeTo yX3_changeTo ∈ wAll := tb_3 (List.mem_of_getElem? (i := 62) rfl) rfl
theorem co_X3_changeTo : Cond.code yX3_changeTo cX3_changeTo 4 (some .int) ∈ wAll := tb_3 (List.mem_of_getElem? (i := 63) rfl) rfl
theorem ml_L_91 : Cond.methodLink RL 91 yL_open ∈ wAll := tb_3 (List.mem_of_getElem? (i := 64) rfl) rfl
theorem st_L_open : Cond.static yL_open ∈ wAll := tb_3 (List.mem_of_getElem? (i := 65) rfl) rfl
theorem co_L_open : Cond.codeWith yL_open cL_open 4 (some .int) [(0, 9, 12, 20)] ∈ wAll := tb_3 (List.mem_of_getElem? (i := 66) rfl) rfl
theorem ml_L_26 : Cond.methodLink RL 26 yX6_open ∈ wAll := tb_3 (List.mem_of_getElem? (i := 67) rfl) rfl
theorem im_X6_open : Cond.instanceMethod yX6_open ∈ wAll := tb_3 (List.mem_of_getElem? (i := 68) rfl) rfl
theorem se_X6_open : Cond.selects RX6 yX6_open yX6_open ∈ wAll := tb_3 (List.mem_of_getElem? (i := 69) rfl) rfl
theorem co_X6_open : Cond.code yX6_open cX6_open 2 (some .int) ∈ wAll := tb_3 (List.mem_of_getElem? (i := 70) rfl) rfl
theorem ml_L_94 : Cond.methodLink RL 94 yL_close ∈ wAll := tb_3 (List.mem_of_getElem? (i := 72) rfl) rfl
theorem st_L_close : Cond.static yL_close ∈ wAll := tb_3 (List.mem_of_getElem? (i := 73) rfl) rfl
theorem co_L_close : Cond.codeWith yL_close cL_close 4 (some .int) [(0, 9, 12, 20), (0, 9, 15, 15)] ∈ wAll := tb_3 (List.mem_of_getElem? (i := 74) rfl) rfl
theorem ml_L_29 : Cond.methodLink RL 29 yX6_close ∈ wAll := tb_3 (List.mem_of_getElem? (i := 75) rfl) rfl
theorem im_X6_close : Cond.instanceMethod yX6_close ∈ wAll := tb_3 (List.mem_of_getElem? (i := 76) rfl) rfl
theorem se_X6_close : Cond.selects RX6 yX6_close yX6_close ∈ wAll := tb_3 (List.mem_of_getElem? (i := 77) rfl) rfl
theorem co_X6_close : Cond.code yX6_close cX6_close 3 (some .int) ∈ wAll := tb_3 (List.mem_of_getElem? (i := 78) rfl) rfl
theorem ml_L_97 : Cond.methodLink RL 97 yL_sweep ∈ wAll := tb_3 (List.mem_of_getElem? (i := 80) rfl) rfl
theorem st_L_sweep : Cond.static yL_sweep ∈ wAll := tb_3 (List.mem_of_getElem? (i := 81) rfl) rfl
theorem co_L_sweep : Cond.codeWith yL_sweep cL_sweep 4 (some .int) [(0, 9, 12, 20)] ∈ wAll := tb_3 (List.mem_of_getElem? (i := 82) rfl) rfl
theorem ml_L_32 : Cond.methodLink RL 32 yX6_sweep ∈ wAll := tb_3 (List.mem_of_getElem? (i := 83) rfl) rfl
theorem im_X6_sweep : Cond.instanceMethod yX6_sweep ∈ wAll := tb_3 (List.mem_of_getElem? (i := 84) rfl) rfl
theorem se_X6_sweep : Cond.selects RX6 yX6_sweep yX6_sweep ∈ wAll := tb_3 (List.mem_of_getElem? (i := 85) rfl) rfl
theorem co_X6_sweep : Cond.code yX6_sweep cX6_sweep 2 (some .int) ∈ wAll := tb_3 (List.mem_of_getElem? (i := 86) rfl) rfl
theorem ml_L_104 : Cond.methodLink RL 104 yL_ask ∈ wAll := tb_3 (List.mem_of_getElem? (i := 88) rfl) rfl
theorem st_L_ask : Cond.static yL_ask ∈ wAll := tb_3 (List.mem_of_getElem? (i := 89) rfl) rfl
theorem co_L_ask : Cond.codeWith yL_ask cL_ask 6 (some .int) [(0, 12, 15, 20), (0, 12, 19, 13), (0, 12, 23, 15)] ∈ wAll := tb_3 (List.mem_of_getElem? (i := 90) rfl) rfl
theorem ml_L_35 : Cond.methodLink RL 35 yX6_ask ∈ wAll := tb_3 (List.mem_of_getElem? (i := 91) rfl) rfl
theorem im_X6_ask : Cond.instanceMethod yX6_ask ∈ wAll := tb_3 (List.mem_of_getElem? (i := 92) rfl) rfl
theorem se_X6_ask : Cond.selects RX6 yX6_ask yX6_ask ∈ wAll := tb_3 (List.mem_of_getElem? (i := 93) rfl) rfl
theorem co_X6_ask : Cond.code yX6_ask cX6_ask 5 (some .int) ∈ wAll := tb_3 (List.mem_of_getElem? (i := 94) rfl) rfl
theorem ml_X6_130 : Cond.methodLink RX6 130 yX3_mayTrustMarks ∈ wAll := tb_3 (List.mem_of_getElem? (i := 96) rfl) rfl
theorem ml_X6_133 : Cond.methodLink RX6 133 yX4_add ∈ wAll := tb_3 (List.mem_of_getElem? (i := 97) rfl) rfl
theorem im_X4_add : Cond.instanceMethod yX4_add ∈ wAll := tb_3 (List.mem_of_getElem? (i := 98) rfl) rfl
theorem se_X4_add : Cond.selects RX4 yX4_add yX4_add ∈ wAll := tb_3 (List.mem_of_getElem? (i := 99) rfl) rfl
theorem co_X4_add : Cond.code yX4_add cX4_add 4 none ∈ wAll := tb_3 (List.mem_of_getElem? (i := 100) rfl) rfl
theorem ml_L_108 : Cond.methodLink RL 108 yL_append ∈ wAll := tb_3 (List.mem_of_getElem? (i := 101) rfl) rfl
theorem st_L_append : Cond.static yL_append ∈ wAll := tb_3 (List.mem_of_getElem? (i := 102) rfl) rfl
theorem co_L_append : Cond.codeWith yL_append cL_append 4 (some .int) [(0, 9, 12, 13), (0, 9, 15, 15)] ∈ wAll := tb_3 (List.mem_of_getElem? (i := 103) rfl) rfl
theorem ml_L_39 : Cond.methodLink RL 39 yX6_append ∈ wAll := tb_3 (List.mem_of_getElem? (i := 104) rfl) rfl
theorem im_X6_append : Cond.instanceMethod yX6_append ∈ wAll := tb_3 (List.mem_of_getElem? (i := 105) rfl) rfl
theorem se_X6_append : Cond.selects RX6 yX6_append yX6_append ∈ wAll := tb_3 (List.mem_of_getElem? (i := 106) rfl) rfl
theorem co_X6_append : Cond.code yX6_append cX6_append 2 (some .int) ∈ wAll := tb_3 (List.mem_of_getElem? (i := 107) rfl) rfl
theorem ml_X6_149 : Cond.methodLink RX6 149 yX5_add ∈ wAll := tb_3 (List.mem_of_getElem? (i := 110) rfl) rfl
theorem im_X5_add : Cond.instanceMethod yX5_add ∈ wAll := tb_3 (List.mem_of_getElem? (i := 111) rfl) rfl
theorem se_X5_add : Cond.selects RX5 yX5_add yX5_add ∈ wAll := tb_3 (List.mem_of_getElem? (i := 112) rfl) rfl
theorem co_X5_add : Cond.code yX5_add cX5_add 2 (some .int) ∈ wAll := tb_3 (List.mem_of_getElem? (i := 113) rfl) rfl
theorem ml_L_119 : Cond.methodLink RL 119 yL_play ∈ wAll := tb_3 (List.mem_of_getElem? (i := 114) rfl) rfl
theorem st_L_play : Cond.static yL_play ∈ wAll := tb_3 (List.mem_of_getElem? (i := 115) rfl) rfl
theorem co_L_play : Cond.codeWith yL_play cL_play 3 (some .int) [(0, 8, 11, 13)] ∈ wAll := tb_3 (List.mem_of_getElem? (i := 116) rfl) rfl
theorem ml_L_42 : Cond.methodLink RL 42 yX6_play ∈ wAll := tb_3 (List.mem_of_getElem? (i := 117) rfl) rfl
theorem im_X6_play : Cond.instanceMethod yX6_play ∈ wAll := tb_3 (List.mem_of_getElem? (i := 118) rfl) rfl
theorem se_X6_play : Cond.selects RX6 yX6_play yX6_play ∈ wAll := tb_3 (List.mem_of_getElem? (i := 119) rfl) rfl
theorem co_X6_play : Cond.code yX6_play cX6_play 2 (some .int) ∈ wAll := tb_3 (List.mem_of_getElem? (i := 120) rfl) rfl
theorem ml_X6_163 : Cond.methodLink RX6 163 yX6_makeParts ∈ wAll := tb_3 (List.mem_of_getElem? (i := 122) rfl) rfl
theorem im_X6_makeParts : Cond.instanceMethod yX6_makeParts ∈ wAll := tb_3 (List.mem_of_getElem? (i := 124) rfl) rfl
theorem co_X6_makeParts : Cond.code yX6_makeParts cX6_makeParts 3 (some .int) ∈ wAll := tb_3 (List.mem_of_getElem? (i := 125) rfl) rfl
theorem ml_X6_269 : Cond.methodLink RX6 269 yX5_rewind ∈ wAll := tb_3 (List.mem_of_getElem? (i := 126) rfl) rfl
theorem ml_X6_272 : Cond.methodLink RX6 272 yX5_readNext ∈ wAll := tb_3 (List.mem_of_getElem? (i := 127) rfl) rfl
theorem ml_X6_285 : Cond.methodLink RX6 285 yX2_make ∈ wAll := tb_3 (List.mem_of_getElem? (i := 128) rfl) rfl
theorem im_X2_make : Cond.instanceMethod yX2_make ∈ wAll := tb_3 (List.mem_of_getElem? (i := 129) rfl) rfl
theorem se_X2_make : Cond.selects RX2 yX2_make yX2_make ∈ wAll := tb_3 (List.mem_of_getElem? (i := 130) rfl) rfl
theorem co_X2_make : Cond.code yX2_make cX2_make 4 (some .boolean) ∈ wAll := tb_3 (List.mem_of_getElem? (i := 131) rfl) rfl
theorem ml_X2_50 : Cond.methodLink RX2 50 yX3_putValue ∈ wAll := tb_3 (List.mem_of_getElem? (i := 132) rfl) rfl
theorem ml_X2_54 : Cond.methodLink RX2 54 yX3_takeAway ∈ wAll := tb_3 (List.mem_of_getElem? (i := 133) rfl) rfl
theorem ml_X2_58 : Cond.methodLink RX2 58 yX3_changeTo ∈ wAll := tb_3 (List.mem_of_getElem? (i := 134) rfl) rfl
theorem ml_X2_61 : Cond.methodLink RX2 61 yX2_horizon ∈ wAll := tb_3 (List.mem_of_getElem? (i := 135) rfl) rfl
theorem ml_X2_65 : Cond.methodLink RX2 65 yX3_sweepPage ∈ wAll := tb_3 (List.mem_of_getElem? (i := 136) rfl) rfl
theorem ml_L_123 : Cond.methodLink RL 123 yL_undo ∈ wAll := tb_3 (List.mem_of_getElem? (i := 137) rfl) rfl
theorem st_L_undo : Cond.static yL_undo ∈ wAll := tb_3 (List.mem_of_getElem? (i := 138) rfl) rfl
theorem co_L_undo : Cond.codeWith yL_undo cL_undo 3 (some .int) [(0, 8, 11, 15)] ∈ wAll := tb_3 (List.mem_of_getElem? (i := 139) rfl) rfl
theorem ml_L_46 : Cond.methodLink RL 46 yX6_undo ∈ wAll := tb_3 (List.mem_of_getElem? (i := 140) rfl) rfl
theorem im_X6_undo : Cond.instanceMethod yX6_undo ∈ wAll := tb_3 (List.mem_of_getElem? (i := 141) rfl) rfl
theorem se_X6_undo : Cond.selects RX6 yX6_undo yX6_undo ∈ wAll := tb_3 (List.mem_of_getElem? (i := 142) rfl) rfl
theorem co_X6_undo : Cond.code yX6_undo cX6_undo 1 (some .int) ∈ wAll := tb_3 (List.mem_of_getElem? (i := 143) rfl) rfl
theorem ml_X6_171 : Cond.methodLink RX6 171 yX1_restore ∈ wAll := tb_3 (List.mem_of_getElem? (i := 145) rfl) rfl
theorem im_X1_restore : Cond.instanceMethod yX1_restore ∈ wAll := tb_3 (List.mem_of_getElem? (i := 146) rfl) rfl
theorem se_X1_restore : Cond.selects RX1 yX1_restore yX1_restore ∈ wAll := tb_3 (List.mem_of_getElem? (i := 147) rfl) rfl
theorem co_X1_restore : Cond.code yX1_restore cX1_restore 2 none ∈ wAll := tb_3 (List.mem_of_getElem? (i := 148) rfl) rfl
theorem ml_L_126 : Cond.methodLink RL 126 yL_slot ∈ wAll := tb_3 (List.mem_of_getElem? (i := 149) rfl) rfl
theorem st_L_slot : Cond.static yL_slot ∈ wAll := tb_3 (List.mem_of_getElem? (i := 150) rfl) rfl
theorem co_L_slot : Cond.codeWith yL_slot cL_slot 5 (some .int) [(0, 10, 13, 20), (0, 10, 17, 13)] ∈ wAll := tb_3 (List.mem_of_getElem? (i := 151) rfl) rfl
theorem ml_L_49 : Cond.methodLink RL 49 yX6_slot ∈ wAll := tb_3 (List.mem_of_getElem? (i := 152) rfl) rfl
theorem im_X6_slot : Cond.instanceMethod yX6_slot ∈ wAll := tb_3 (List.mem_of_getElem? (i := 153) rfl) rfl
theorem se_X6_slot : Cond.selects RX6 yX6_slot yX6_slot ∈ wAll := tb_3 (List.mem_of_getElem? (i := 154) rfl) rfl
theorem co_X6_slot : Cond.code yX6_slot cX6_slot 3 (some .int) ∈ wAll := tb_3 (List.mem_of_getElem? (i := 155) rfl) rfl
theorem ml_L_129 : Cond.methodLink RL 129 yL_page ∈ wAll := tb_3 (List.mem_of_getElem? (i := 157) rfl) rfl
theorem st_L_page : Cond.static yL_page ∈ wAll := tb_3 (List.mem_of_getElem? (i := 158) rfl) rfl
theorem co_L_page : Cond.codeWith yL_page cL_page 5 (some .int) [(0, 10, 13, 20), (0, 10, 17, 13)] ∈ wAll := tb_3 (List.mem_of_getElem? (i := 159) rfl) rfl
theorem ml_L_52 : Cond.methodLink RL 52 yX6_page ∈ wAll := tb_3 (List.mem_of_getElem? (i := 160) rfl) rfl
theorem im_X6_page : Cond.instanceMethod yX6_page ∈ wAll := tb_3 (List.mem_of_getElem? (i := 161) rfl) rfl
theorem se_X6_page : Cond.selects RX6 yX6_page yX6_page ∈ wAll := tb_3 (List.mem_of_getElem? (i := 162) rfl) rfl
theorem co_X6_page : Cond.code yX6_page cX6_page 3 (some .int) ∈ wAll := tb_3 (List.mem_of_getElem? (i := 163) rfl) rfl
theorem ml_L_132 : Cond.methodLink RL 132 yL_asker ∈ wAll := tb_3 (List.mem_of_getElem? (i := 165) rfl) rfl
theorem st_L_asker : Cond.static yL_asker ∈ wAll := tb_3 (List.mem_of_getElem? (i := 166) rfl) rfl
theorem co_L_asker : Cond.codeWith yL_asker cL_asker 5 (some .int) [(0, 10, 13, 20), (0, 10, 17, 13)] ∈ wAll := tb_3 (List.mem_of_getElem? (i := 167) rfl) rfl
theorem ml_L_55 : Cond.methodLink RL 55 yX6_asker ∈ wAll := tb_3 (List.mem_of_getElem? (i := 168) rfl) rfl
theorem im_X6_asker : Cond.instanceMethod yX6_asker ∈ wAll := tb_3 (List.mem_of_getElem? (i := 169) rfl) rfl
theorem se_X6_asker : Cond.selects RX6 yX6_asker yX6_asker ∈ wAll := tb_3 (List.mem_of_getElem? (i := 170) rfl) rfl
theorem co_X6_asker : Cond.code yX6_asker cX6_asker 3 (some .int) ∈ wAll := tb_3 (List.mem_of_getElem? (i := 171) rfl) rfl
theorem ml_L_135 : Cond.methodLink RL 135 yL_count ∈ wAll := tb_3 (List.mem_of_getElem? (i := 173) rfl) rfl
theorem st_L_count : Cond.static yL_count ∈ wAll := tb_3 (List.mem_of_getElem? (i := 174) rfl) rfl
theorem co_L_count : Cond.codeWith yL_count cL_count 4 (some .int) [(0, 9, 12, 13)] ∈ wAll := tb_3 (List.mem_of_getElem? (i := 175) rfl) rfl
theorem ml_L_58 : Cond.methodLink RL 58 yX6_count ∈ wAll := tb_3 (List.mem_of_getElem? (i := 176) rfl) rfl
theorem im_X6_count : Cond.instanceMethod yX6_count ∈ wAll := tb_3 (List.mem_of_getElem? (i := 177) rfl) rfl
theorem se_X6_count : Cond.selects RX6 yX6_count yX6_count ∈ wAll := tb_3 (List.mem_of_getElem? (i := 178) rfl) rfl
theorem co_X6_count : Cond.code yX6_count cX6_count 2 (some .int) ∈ wAll := tb_3 (List.mem_of_getElem? (i := 179) rfl) rfl
theorem ml_L_138 : Cond.methodLink RL 138 yL_ifAsked ∈ wAll := tb_3 (List.mem_of_getElem? (i := 181) rfl) rfl
theorem st_L_ifAsked : Cond.static yL_ifAsked ∈ wAll := tb_3 (List.mem_of_getElem? (i := 182) rfl) rfl
theorem co_L_ifAsked : Cond.codeWith yL_ifAsked cL_ifAsked 7 (some .int) [(0, 14, 17, 13)] ∈ wAll := tb_3 (List.mem_of_getElem? (i := 183) rfl) rfl
theorem ml_L_61 : Cond.methodLink RL 61 yX6_ifAsked ∈ wAll := tb_3 (List.mem_of_getElem? (i := 184) rfl) rfl
theorem im_X6_ifAsked : Cond.instanceMethod yX6_ifAsked ∈ wAll := tb_3 (List.mem_of_getElem? (i := 185) rfl) rfl
theorem se_X6_ifAsked : Cond.selects RX6 yX6_ifAsked yX6_ifAsked ∈ wAll := tb_3 (List.mem_of_getElem? (i := 186) rfl) rfl
theorem co_X6_ifAsked : Cond.code yX6_ifAsked cX6_ifAsked 5 (some .int) ∈ wAll := tb_3 (List.mem_of_getElem? (i := 187) rfl) rfl
theorem ml_L_142 : Cond.methodLink RL 142 yL_lies ∈ wAll := tb_3 (List.mem_of_getElem? (i := 190) rfl) rfl
theorem st_L_lies : Cond.static yL_lies ∈ wAll := tb_3 (List.mem_of_getElem? (i := 191) rfl) rfl
theorem co_L_lies : Cond.codeWith yL_lies cL_lies 4 (some .int) [(0, 9, 12, 13)] ∈ wAll := tb_3 (List.mem_of_getElem? (i := 192) rfl) rfl
theorem ml_L_65 : Cond.methodLink RL 65 yX6_lies ∈ wAll := tb_3 (List.mem_of_getElem? (i := 193) rfl) rfl
theorem im_X6_lies : Cond.instanceMethod yX6_lies ∈ wAll := tb_3 (List.mem_of_getElem? (i := 194) rfl) rfl
theorem se_X6_lies : Cond.selects RX6 yX6_lies yX6_lies ∈ wAll := tb_3 (List.mem_of_getElem? (i := 195) rfl) rfl
theorem co_X6_lies : Cond.code yX6_lies cX6_lies 2 (some .int) ∈ wAll := tb_3 (List.mem_of_getElem? (i := 196) rfl) rfl
theorem ml_L_145 : Cond.methodLink RL 145 yL_cheapest ∈ wAll := tb_3 (List.mem_of_getElem? (i := 197) rfl) rfl
theorem st_L_cheapest : Cond.static yL_cheapest ∈ wAll := tb_3 (List.mem_of_getElem? (i := 198) rfl) rfl
theorem co_L_cheapest : Cond.codeWith yL_cheapest cL_cheapest 4 (some .int) [(0, 9, 12, 13)] ∈ wAll := tb_3 (List.mem_of_getElem? (i := 199) rfl) rfl
theorem ml_L_68 : Cond.methodLink RL 68 yX6_cheapest ∈ wAll := tb_3 (List.mem_of_getElem? (i := 200) rfl) rfl
theorem im_X6_cheapest : Cond.instanceMethod yX6_cheapest ∈ wAll := tb_3 (List.mem_of_getElem? (i := 201) rfl) rfl
theorem se_X6_cheapest : Cond.selects RX6 yX6_cheapest yX6_cheapest ∈ wAll := tb_3 (List.mem_of_getElem? (i := 202) rfl) rfl
theorem co_X6_cheapest : Cond.code yX6_cheapest cX6_cheapest 2 (some .int) ∈ wAll := tb_3 (List.mem_of_getElem? (i := 203) rfl) rfl
theorem cl_L_72 : Cond.classLink RL 72 RX7 ∈ wAll := tb_3 (List.mem_of_getElem? (i := 204) rfl) rfl
theorem it_X7 : Cond.instantiable RX7 11 ∈ wAll := tb_3 (List.mem_of_getElem? (i := 205) rfl) rfl
theorem ml_L_74 : Cond.methodLink RL 74 yX7_init ∈ wAll := tb_3 (List.mem_of_getElem? (i := 206) rfl) rfl
theorem im_X7_init : Cond.instanceMethod yX7_init ∈ wAll := tb_3 (List.mem_of_getElem? (i := 207) rfl) rfl
theorem co_X7_init : Cond.code yX7_init cX7_init 1 none ∈ wAll := tb_3 (List.mem_of_getElem? (i := 208) rfl) rfl
theorem ml_X7_1 : Cond.methodLink RX7 1 objectInit ∈ wAll := tb_3 (List.mem_of_getElem? (i := 209) rfl) rfl
theorem fl_X7_22 : Cond.fieldLink RX7 22 "SeenPagesModel" "thrown" "I" ∈ wAll := tb_3 (List.mem_of_getElem? (i := 210) rfl) rfl
theorem fl_X7_7 : Cond.fieldLink RX7 7 "SeenPagesModel" "s" "[I" ∈ wAll := tb_3 (List.mem_of_getElem? (i := 211) rfl) rfl
theorem fl_X7_13 : Cond.fieldLink RX7 13 "SeenPagesModel" "saved" "[I" ∈ wAll := tb_3 (List.mem_of_getElem? (i := 212) rfl) rfl
theorem fl_X7_30 : Cond.fieldLink RX7 30 "SeenPagesModel" "savedMany" "I" ∈ wAll := tb_3 (List.mem_of_getElem? (i := 213) rfl) rfl
theorem fl_X7_16 : Cond.fieldLink RX7 16 "SeenPagesModel" "buffer" "[I" ∈ wAll := tb_3 (List.mem_of_getElem? (i := 214) rfl) rfl
theorem fl_X7_129 : Cond.fieldLink RX7 129 "SeenPagesModel" "length" "I" ∈ wAll := tb_3 (List.mem_of_getElem? (i := 215) rfl) rfl
theorem fl_X7_132 : Cond.fieldLink RX7 132 "SeenPagesModel" "at" "I" ∈ wAll := tb_3 (List.mem_of_getElem? (i := 216) rfl) rfl
theorem fl_X7_135 : Cond.fieldLink RX7 135 "SeenPagesModel" "isWell" "Z" ∈ wAll := tb_3 (List.mem_of_getElem? (i := 217) rfl) rfl
theorem fl_X7_19 : Cond.fieldLink RX7 19 "SeenPagesModel" "read" "[I" ∈ wAll := tb_3 (List.mem_of_getElem? (i := 218) rfl) rfl
theorem fl_X7_145 : Cond.fieldLink RX7 145 "SeenPagesModel" "readMany" "I" ∈ wAll := tb_3 (List.mem_of_getElem? (i := 219) rfl) rfl
theorem fl_X7_196 : Cond.fieldLink RX7 196 "SeenPagesModel" "hash" "J" ∈ wAll := tb_3 (List.mem_of_getElem? (i := 220) rfl) rfl
theorem ml_L_81 : Cond.methodLink RL 81 yX7_thrown ∈ wAll := tb_4 (List.mem_of_getElem? (i := 4) rfl) rfl
theorem im_X7_thrown : Cond.instanceMethod yX7_thrown ∈ wAll := tb_4 (List.mem_of_getElem? (i := 5) rfl) rfl
theorem se_X7_thrown : Cond.selects RX7 yX7_thrown yX7_thrown ∈ wAll := tb_4 (List.mem_of_getElem? (i := 6) rfl) rfl
theorem co_X7_thrown : Cond.code yX7_thrown cX7_thrown 1 (some .int) ∈ wAll := tb_4 (List.mem_of_getElem? (i := 7) rfl) rfl
theorem ml_L_80 : Cond.methodLink RL 80 yX7_put ∈ wAll := tb_4 (List.mem_of_getElem? (i := 8) rfl) rfl
theorem im_X7_put : Cond.instanceMethod yX7_put ∈ wAll := tb_4 (List.mem_of_getElem? (i := 9) rfl) rfl
theorem se_X7_put : Cond.selects RX7 yX7_put yX7_put ∈ wAll := tb_4 (List.mem_of_getElem? (i := 10) rfl) rfl
theorem co_X7_put : Cond.code yX7_put cX7_put 2 (some .int) ∈ wAll := tb_4 (List.mem_of_getElem? (i := 11) rfl) rfl
theorem ml_X7_26 : Cond.methodLink RX7 26 yX7_in ∈ wAll := tb_4 (List.mem_of_getElem? (i := 12) rfl) rfl
theorem st_X7_in : Cond.static yX7_in ∈ wAll := tb_4 (List.mem_of_getElem? (i := 13) rfl) rfl
theorem co_X7_in : Cond.code yX7_in cX7_in 3 (some .boolean) ∈ wAll := tb_4 (List.mem_of_getElem? (i := 14) rfl) rfl
theorem ml_X7_67 : Cond.methodLink RX7 67 yX7_fails ∈ wAll := tb_4 (List.mem_of_getElem? (i := 15) rfl) rfl
theorem im_X7_fails : Cond.instanceMethod yX7_fails ∈ wAll := tb_4 (List.mem_of_getElem? (i := 17) rfl) rfl
theorem co_X7_fails : Cond.code yX7_fails cX7_fails 2 (some .int) ∈ wAll := tb_4 (List.mem_of_getElem? (i := 18) rfl) rfl
theorem ml_X7_71 : Cond.methodLink RX7 71 yX7_canChange ∈ wAll := tb_4 (List.mem_of_getElem? (i := 19) rfl) rfl
theorem im_X7_canChange : Cond.instanceMethod yX7_canChange ∈ wAll := tb_4 (List.mem_of_getElem? (i := 21) rfl) rfl
theorem co_X7_canChange : Cond.code yX7_canChange cX7_canChange 4 (some .boolean) ∈ wAll := tb_4 (List.mem_of_getElem? (i := 22) rfl) rfl
theorem ml_X7_60 : Cond.methodLink RX7 60 yX7_isPlace ∈ wAll := tb_4 (List.mem_of_getElem? (i := 23) rfl) rfl
theorem st_X7_isPlace : Cond.static yX7_isPlace ∈ wAll := tb_4 (List.mem_of_getElem? (i := 24) rfl) rfl
theorem co_X7_isPlace : Cond.code yX7_isPlace cX7_isPlace 1 (some .boolean) ∈ wAll := tb_4 (List.mem_of_getElem? (i := 25) rfl) rfl
theorem ml_X7_63 : Cond.methodLink RX7 63 yX7_isSeen ∈ wAll := tb_4 (List.mem_of_getElem? (i := 26) rfl) rfl
theorem im_X7_isSeen : Cond.instanceMethod yX7_isSeen ∈ wAll := tb_4 (List.mem_of_getElem? (i := 28) rfl) rfl
theorem co_X7_isSeen : Cond.code yX7_isSeen cX7_isSeen 4 (some .boolean) ∈ wAll := tb_4 (List.mem_of_getElem? (i := 29) rfl) rfl
theorem ml_X7_37 : Cond.methodLink RX7 37 yX7_isFull ∈ wAll := tb_4 (List.mem_of_getElem? (i := 30) rfl) rfl
theorem im_X7_isFull : Cond.instanceMethod yX7_isFull ∈ wAll := tb_4 (List.mem_of_getElem? (i := 32) rfl) rfl
theorem co_X7_isFull : Cond.code yX7_isFull cX7_isFull 2 (some .boolean) ∈ wAll := tb_4 (List.mem_of_getElem? (i := 33) rfl) rfl
theorem ml_X7_33 : Cond.methodLink RX7 33 yX7_of ∈ wAll := tb_4 (List.mem_of_getElem? (i := 34) rfl) rfl
theorem im_X7_of : Cond.instanceMethod yX7_of ∈ wAll := tb_4 (List.mem_of_getElem? (i := 36) rfl) rfl
theorem co_X7_of : Cond.code yX7_of cX7_of 3 (some .int) ∈ wAll := tb_4 (List.mem_of_getElem? (i := 37) rfl) rfl
theorem ml_X7_49 : Cond.methodLink RX7 49 yX7_lowestEmpty ∈ wAll := tb_4 (List.mem_of_getElem? (i := 38) rfl) rfl
theorem im_X7_lowestEmpty : Cond.instanceMethod yX7_lowestEmpty ∈ wAll := tb_4 (List.mem_of_getElem? (i := 40) rfl) rfl
theorem co_X7_lowestEmpty : Cond.code yX7_lowestEmpty cX7_lowestEmpty 2 (some .int) ∈ wAll := tb_4 (List.mem_of_getElem? (i := 41) rfl) rfl
theorem ml_X7_74 : Cond.methodLink RX7 74 yX7_saves ∈ wAll := tb_4 (List.mem_of_getElem? (i := 42) rfl) rfl
theorem im_X7_saves : Cond.instanceMethod yX7_saves ∈ wAll := tb_4 (List.mem_of_getElem? (i := 44) rfl) rfl
theorem co_X7_saves : Cond.code yX7_saves cX7_saves 2 none ∈ wAll := tb_4 (List.mem_of_getElem? (i := 45) rfl) rfl
theorem ml_X7_77 : Cond.methodLink RX7 77 yX7_changes ∈ wAll := tb_4 (List.mem_of_getElem? (i := 46) rfl) rfl
theorem im_X7_changes : Cond.instanceMethod yX7_changes ∈ wAll := tb_4 (List.mem_of_getElem? (i := 48) rfl) rfl
theorem co_X7_changes : Cond.code yX7_changes cX7_changes 5 (some .int) ∈ wAll := tb_4 (List.mem_of_getElem? (i := 49) rfl) rfl
theorem ml_X7_53 : Cond.methodLink RX7 53 yX7_goes ∈ wAll := tb_4 (List.mem_of_getElem? (i := 50) rfl) rfl
theorem im_X7_goes : Cond.instanceMethod yX7_goes ∈ wAll := tb_4 (List.mem_of_getElem? (i := 52) rfl) rfl
theorem co_X7_goes : Cond.code yX7_goes cX7_goes 2 none ∈ wAll := tb_4 (List.mem_of_getElem? (i := 53) rfl) rfl
theorem ml_X7_45 : Cond.methodLink RX7 45 yX7_unmarks ∈ wAll := tb_4 (List.mem_of_getElem? (i := 54) rfl) rfl
theorem im_X7_unmarks : Cond.instanceMethod yX7_unmarks ∈ wAll := tb_4 (List.mem_of_getElem? (i := 56) rfl) rfl
theorem co_X7_unmarks : Cond.code yX7_unmarks cX7_unmarks 2 none ∈ wAll := tb_4 (List.mem_of_getElem? (i := 57) rfl) rfl
theorem ml_X7_56 : Cond.methodLink RX7 56 yX7_comes ∈ wAll := tb_4 (List.mem_of_getElem? (i := 58) rfl) rfl
theorem im_X7_comes : Cond.instanceMethod yX7_comes ∈ wAll := tb_4 (List.mem_of_getElem? (i := 60) rfl) rfl
theorem co_X7_comes : Cond.code yX7_comes cX7_comes 3 none ∈ wAll := tb_4 (List.mem_of_getElem? (i := 61) rfl) rfl
theorem ml_X7_41 : Cond.methodLink RX7 41 yX7_lay ∈ wAll := tb_4 (List.mem_of_getElem? (i := 62) rfl) rfl
theorem im_X7_lay : Cond.instanceMethod yX7_lay ∈ wAll := tb_4 (List.mem_of_getElem? (i := 64) rfl) rfl
theorem co_X7_lay : Cond.code yX7_lay cX7_lay 5 none ∈ wAll := tb_4 (List.mem_of_getElem? (i := 65) rfl) rfl
theorem ml_L_86 : Cond.methodLink RL 86 yX7_take ∈ wAll := tb_4 (List.mem_of_getElem? (i := 66) rfl) rfl
theorem im_X7_take : Cond.instanceMethod yX7_take ∈ wAll := tb_4 (List.mem_of_getElem? (i := 67) rfl) rfl
theorem se_X7_take : Cond.selects RX7 yX7_take yX7_take ∈ wAll := tb_4 (List.mem_of_getElem? (i := 68) rfl) rfl
theorem co_X7_take : Cond.code yX7_take cX7_take 2 (some .int) ∈ wAll := tb_4 (List.mem_of_getElem? (i := 69) rfl) rfl
theorem ml_L_90 : Cond.methodLink RL 90 yX7_change ∈ wAll := tb_4 (List.mem_of_getElem? (i := 70) rfl) rfl
theorem im_X7_change : Cond.instanceMethod yX7_change ∈ wAll := tb_4 (List.mem_of_getElem? (i := 71) rfl) rfl
theorem se_X7_change : Cond.selects RX7 yX7_change yX7_change ∈ wAll := tb_4 (List.mem_of_getElem? (i := 72) rfl) rfl
theorem co_X7_change : Cond.code yX7_change cX7_change 3 (some .int) ∈ wAll := tb_4 (List.mem_of_getElem? (i := 73) rfl) rfl
theorem ml_L_93 : Cond.methodLink RL 93 yX7_open ∈ wAll := tb_4 (List.mem_of_getElem? (i := 74) rfl) rfl
theorem im_X7_open : Cond.instanceMethod yX7_open ∈ wAll := tb_4 (List.mem_of_getElem? (i := 75) rfl) rfl
theorem se_X7_open : Cond.selects RX7 yX7_open yX7_open ∈ wAll := tb_4 (List.mem_of_getElem? (i := 76) rfl) rfl
theorem co_X7_open : Cond.code yX7_open cX7_open 2 (some .int) ∈ wAll := tb_4 (List.mem_of_getElem? (i := 77) rfl) rfl
theorem ml_X7_87 : Cond.methodLink RX7 87 yX7_isAsker ∈ wAll := tb_4 (List.mem_of_getElem? (i := 78) rfl) rfl
theorem st_X7_isAsker : Cond.static yX7_isAsker ∈ wAll := tb_4 (List.mem_of_getElem? (i := 79) rfl) rfl
theorem co_X7_isAsker : Cond.code yX7_isAsker cX7_isAsker 1 (some .boolean) ∈ wAll := tb_4 (List.mem_of_getElem? (i := 80) rfl) rfl
theorem ml_L_96 : Cond.methodLink RL 96 yX7_close ∈ wAll := tb_4 (List.mem_of_getElem? (i := 81) rfl) rfl
theorem im_X7_close : Cond.instanceMethod yX7_close ∈ wAll := tb_4 (List.mem_of_getElem? (i := 82) rfl) rfl
theorem se_X7_close : Cond.selects RX7 yX7_close yX7_close ∈ wAll := tb_4 (List.mem_of_getElem? (i := 83) rfl) rfl
theorem co_X7_close : Cond.code yX7_close cX7_close 3 (some .int) ∈ wAll := tb_4 (List.mem_of_getElem? (i := 84) rfl) rfl
theorem ml_X7_81 : Cond.methodLink RX7 81 yX7_snapshotOf ∈ wAll := tb_4 (List.mem_of_getElem? (i := 85) rfl) rfl
theorem im_X7_snapshotOf : Cond.instanceMethod yX7_snapshotOf ∈ wAll := tb_4 (List.mem_of_getElem? (i := 87) rfl) rfl
theorem co_X7_snapshotOf : Cond.code yX7_snapshotOf cX7_snapshotOf 2 (some .int) ∈ wAll := tb_4 (List.mem_of_getElem? (i := 88) rfl) rfl
theorem ml_L_99 : Cond.methodLink RL 99 yX7_sweep ∈ wAll := tb_4 (List.mem_of_getElem? (i := 89) rfl) rfl
theorem im_X7_sweep : Cond.instanceMethod yX7_sweep ∈ wAll := tb_4 (List.mem_of_getElem? (i := 90) rfl) rfl
theorem se_X7_sweep : Cond.selects RX7 yX7_sweep yX7_sweep ∈ wAll := tb_4 (List.mem_of_getElem? (i := 91) rfl) rfl
theorem co_X7_sweep : Cond.code yX7_sweep cX7_sweep 2 (some .int) ∈ wAll := tb_4 (List.mem_of_getElem? (i := 92) rfl) rfl
theorem ml_X7_99 : Cond.methodLink RX7 99 yX7_isPage ∈ wAll := tb_4 (List.mem_of_getElem? (i := 93) rfl) rfl
theorem st_X7_isPage : Cond.static yX7_isPage ∈ wAll := tb_4 (List.mem_of_getElem? (i := 94) rfl) rfl
theorem co_X7_isPage : Cond.code yX7_isPage cX7_isPage 1 (some .boolean) ∈ wAll := tb_4 (List.mem_of_getElem? (i := 95) rfl) rfl
theorem ml_X7_102 : Cond.methodLink RX7 102 yX7_sweeps ∈ wAll := tb_4 (List.mem_of_getElem? (i := 96) rfl) rfl
theorem im_X7_sweeps : Cond.instanceMethod yX7_sweeps ∈ wAll := tb_4 (List.mem_of_getElem? (i := 98) rfl) rfl
theorem co_X7_sweeps : Cond.code yX7_sweeps cX7_sweeps 6 (some .int) ∈ wAll := tb_4 (List.mem_of_getElem? (i := 99) rfl) rfl
theorem ml_X7_93 : Cond.methodLink RX7 93 yX7_horizon ∈ wAll := tb_4 (List.mem_of_getElem? (i := 100) rfl) rfl
theorem im_X7_horizon : Cond.instanceMethod yX7_horizon ∈ wAll := tb_4 (List.mem_of_getElem? (i := 102) rfl) rfl
theorem co_X7_horizon : Cond.code yX7_horizon cX7_horizon 1 (some .int) ∈ wAll := tb_4 (List.mem_of_getElem? (i := 103) rfl) rfl
theorem ml_X7_84 : Cond.methodLink RX7 84 yX7_horizonBut ∈ wAll := tb_4 (List.mem_of_getElem? (i := 104) rfl) rfl
theorem im_X7_horizonBut : Cond.instanceMethod yX7_horizonBut ∈ wAll := tb_4 (List.mem_of_getElem? (i := 106) rfl) rfl
theorem co_X7_horizonBut : Cond.code yX7_horizonBut cX7_horizonBut 5 (some .int) ∈ wAll := tb_4 (List.mem_of_getElem? (i := 107) rfl) rfl
theorem ml_X7_96 : Cond.methodLink RX7 96 yX7_oldIn ∈ wAll := tb_4 (List.mem_of_getElem? (i := 108) rfl) rfl
theorem im_X7_oldIn : Cond.instanceMethod yX7_oldIn ∈ wAll := tb_4 (List.mem_of_getElem? (i := 110) rfl) rfl
theorem co_X7_oldIn : Cond.code yX7_oldIn cX7_oldIn 5 (some .int) ∈ wAll := tb_4 (List.mem_of_getElem? (i := 111) rfl) rfl
theorem ml_X7_90 : Cond.methodLink RX7 90 yX7_isOld ∈ wAll := tb_4 (List.mem_of_getElem? (i := 112) rfl) rfl
theorem im_X7_isOld : Cond.instanceMethod yX7_isOld ∈ wAll := tb_4 (List.mem_of_getElem? (i := 114) rfl) rfl
theorem co_X7_isOld : Cond.code yX7_isOld cX7_isOld 3 (some .boolean) ∈ wAll := tb_4 (List.mem_of_getElem? (i := 115) rfl) rfl
theorem ml_L_103 : Cond.methodLink RL 103 yX7_sweepAll ∈ wAll := tb_4 (List.mem_of_getElem? (i := 116) rfl) rfl
theorem im_X7_sweepAll : Cond.instanceMethod yX7_sweepAll ∈ wAll := tb_4 (List.mem_of_getElem? (i := 117) rfl) rfl
theorem se_X7_sweepAll : Cond.selects RX7 yX7_sweepAll yX7_sweepAll ∈ wAll := tb_4 (List.mem_of_getElem? (i := 118) rfl) rfl
theorem co_X7_sweepAll : Cond.code yX7_sweepAll cX7_sweepAll 2 (some .int) ∈ wAll := tb_4 (List.mem_of_getElem? (i := 119) rfl) rfl
theorem ml_X7_108 : Cond.methodLink RX7 108 yX7_markedPages ∈ wAll := tb_4 (List.mem_of_getElem? (i := 120) rfl) rfl
theorem im_X7_markedPages : Cond.instanceMethod yX7_markedPages ∈ wAll := tb_4 (List.mem_of_getElem? (i := 122) rfl) rfl
theorem co_X7_markedPages : Cond.code yX7_markedPages cX7_markedPages 3 (some .int) ∈ wAll := tb_4 (List.mem_of_getElem? (i := 123) rfl) rfl
theorem ml_X7_105 : Cond.methodLink RX7 105 yX7_ofPage ∈ wAll := tb_4 (List.mem_of_getElem? (i := 124) rfl) rfl
theorem im_X7_ofPage : Cond.instanceMethod yX7_ofPage ∈ wAll := tb_4 (List.mem_of_getElem? (i := 126) rfl) rfl
theorem co_X7_ofPage : Cond.code yX7_ofPage cX7_ofPage 3 (some .int) ∈ wAll := tb_4 (List.mem_of_getElem? (i := 127) rfl) rfl
theorem ml_L_107 : Cond.methodLink RL 107 yX7_ask ∈ wAll := tb_4 (List.mem_of_getElem? (i := 128) rfl) rfl
theorem im_X7_ask : Cond.instanceMethod yX7_ask ∈ wAll := tb_4 (List.mem_of_getElem? (i := 129) rfl) rfl
theorem se_X7_ask : Cond.selects RX7 yX7_ask yX7_ask ∈ wAll := tb_4 (List.mem_of_getElem? (i := 130) rfl) rfl
theorem co_X7_ask : Cond.code yX7_ask cX7_ask 5 (some .int) ∈ wAll := tb_4 (List.mem_of_getElem? (i := 131) rfl) rfl
theorem ml_X7_114 : Cond.methodLink RX7 114 yX7_truly ∈ wAll := tb_4 (List.mem_of_getElem? (i := 132) rfl) rfl
theorem im_X7_truly : Cond.instanceMethod yX7_truly ∈ wAll := tb_4 (List.mem_of_getElem? (i := 134) rfl) rfl
theorem co_X7_truly : Cond.code yX7_truly cX7_truly 3 (some .int) ∈ wAll := tb_4 (List.mem_of_getElem? (i := 135) rfl) rfl
theorem ml_X7_111 : Cond.methodLink RX7 111 yX7_greatestMark ∈ wAll := tb_4 (List.mem_of_getElem? (i := 136) rfl) rfl
theorem im_X7_greatestMark : Cond.instanceMethod yX7_greatestMark ∈ wAll := tb_4 (List.mem_of_getElem? (i := 138) rfl) rfl
theorem co_X7_greatestMark : Cond.code yX7_greatestMark cX7_greatestMark 3 (some .int) ∈ wAll := tb_4 (List.mem_of_getElem? (i := 139) rfl) rfl
theorem ml_X7_123 : Cond.methodLink RX7 123 yX7_costs ∈ wAll := tb_4 (List.mem_of_getElem? (i := 140) rfl) rfl
theorem im_X7_costs : Cond.instanceMethod yX7_costs ∈ wAll := tb_4 (List.mem_of_getElem? (i := 142) rfl) rfl
theorem co_X7_costs : Cond.code yX7_costs cX7_costs 8 (some .int) ∈ wAll := tb_4 (List.mem_of_getElem? (i := 143) rfl) rfl
theorem ml_X7_120 : Cond.methodLink RX7 120 yX7_hasIn ∈ wAll := tb_4 (List.mem_of_getElem? (i := 144) rfl) rfl
theorem im_X7_hasIn : Cond.instanceMethod yX7_hasIn ∈ wAll := tb_4 (List.mem_of_getElem? (i := 146) rfl) rfl
theorem co_X7_hasIn : Cond.code yX7_hasIn cX7_hasIn 5 (some .boolean) ∈ wAll := tb_4 (List.mem_of_getElem? (i := 147) rfl) rfl
theorem ml_X7_117 : Cond.methodLink RX7 117 yX7_hasValue ∈ wAll := tb_4 (List.mem_of_getElem? (i := 148) rfl) rfl
theorem im_X7_hasValue : Cond.instanceMethod yX7_hasValue ∈ wAll := tb_4 (List.mem_of_getElem? (i := 150) rfl) rfl
theorem co_X7_hasValue : Cond.code yX7_hasValue cX7_hasValue 3 (some .boolean) ∈ wAll := tb_4 (List.mem_of_getElem? (i := 151) rfl) rfl
theorem ml_X7_126 : Cond.methodLink RX7 126 yX7_answers ∈ wAll := tb_4 (List.mem_of_getElem? (i := 152) rfl) rfl
theorem im_X7_answers : Cond.instanceMethod yX7_answers ∈ wAll := tb_4 (List.mem_of_getElem? (i := 154) rfl) rfl
theorem co_X7_answers : Cond.code yX7_answers cX7_answers 8 (some .int) ∈ wAll := tb_4 (List.mem_of_getElem? (i := 155) rfl) rfl
theorem ml_L_110 : Cond.methodLink RL 110 yX7_append ∈ wAll := tb_4 (List.mem_of_getElem? (i := 156) rfl) rfl
theorem im_X7_append : Cond.instanceMethod yX7_append ∈ wAll := tb_4 (List.mem_of_getElem? (i := 157) rfl) rfl
theorem se_X7_append : Cond.selects RX7 yX7_append yX7_append ∈ wAll := tb_4 (List.mem_of_getElem? (i := 158) rfl) rfl
theorem co_X7_append : Cond.code yX7_append cX7_append 2 (some .int) ∈ wAll := tb_4 (List.mem_of_getElem? (i := 159) rfl) rfl
theorem ml_L_114 : Cond.methodLink RL 114 yX7_clearBuffer ∈ wAll := tb_4 (List.mem_of_getElem? (i := 160) rfl) rfl
theorem im_X7_clearBuffer : Cond.instanceMethod yX7_clearBuffer ∈ wAll := tb_4 (List.mem_of_getElem? (i := 161) rfl) rfl
theorem se_X7_clearBuffer : Cond.selects RX7 yX7_clearBuffer yX7_clearBuffer ∈ wAll := tb_4 (List.mem_of_getElem? (i := 162) rfl) rfl
theorem co_X7_clearBuffer : Cond.code yX7_clearBuffer cX7_clearBuffer 2 (some .int) ∈ wAll := tb_4 (List.mem_of_getElem? (i := 163) rfl) rfl
theorem ml_L_118 : Cond.methodLink RL 118 yX7_firstError ∈ wAll := tb_4 (List.mem_of_getElem? (i := 164) rfl) rfl
theorem im_X7_firstError : Cond.instanceMethod yX7_firstError ∈ wAll := tb_4 (List.mem_of_getElem? (i := 165) rfl) rfl
theorem se_X7_firstError : Cond.selects RX7 yX7_firstError yX7_firstError ∈ wAll := tb_4 (List.mem_of_getElem? (i := 166) rfl) rfl
theorem co_X7_firstError : Cond.code yX7_firstError cX7_firstError 1 (some .int) ∈ wAll := tb_4 (List.mem_of_getElem? (i := 167) rfl) rfl
theorem ml_X7_154 : Cond.methodLink RX7 154 yX7_readsAll ∈ wAll := tb_4 (List.mem_of_getElem? (i := 168) rfl) rfl
theorem im_X7_readsAll : Cond.instanceMethod yX7_readsAll ∈ wAll := tb_4 (List.mem_of_getElem? (i := 170) rfl) rfl
theorem co_X7_readsAll : Cond.code yX7_readsAll cX7_readsAll 1 none ∈ wAll := tb_4 (List.mem_of_getElem? (i := 171) rfl) rfl
theorem ml_X7_151 : Cond.methodLink RX7 151 yX7_readsChange ∈ wAll := tb_4 (List.mem_of_getElem? (i := 172) rfl) rfl
theorem im_X7_readsChange : Cond.instanceMethod yX7_readsChange ∈ wAll := tb_4 (List.mem_of_getElem? (i := 174) rfl) rfl
theorem co_X7_readsChange : Cond.code yX7_readsChange cX7_readsChange 4 none ∈ wAll := tb_4 (List.mem_of_getElem? (i := 175) rfl) rfl
theorem ml_X7_139 : Cond.methodLink RX7 139 yX7_sign ∈ wAll := tb_4 (List.mem_of_getElem? (i := 176) rfl) rfl
theorem im_X7_sign : Cond.instanceMethod yX7_sign ∈ wAll := tb_4 (List.mem_of_getElem? (i := 178) rfl) rfl
theorem co_X7_sign : Cond.code yX7_sign cX7_sign 1 (some .int) ∈ wAll := tb_4 (List.mem_of_getElem? (i := 179) rfl) rfl
theorem ml_X7_142 : Cond.methodLink RX7 142 yX7_digit ∈ wAll := tb_4 (List.mem_of_getElem? (i := 180) rfl) rfl
theorem im_X7_digit : Cond.instanceMethod yX7_digit ∈ wAll := tb_4 (List.mem_of_getElem? (i := 182) rfl) rfl
theorem co_X7_digit : Cond.code yX7_digit cX7_digit 3 (some .int) ∈ wAll := tb_4 (List.mem_of_getElem? (i := 183) rfl) rfl
theorem ml_X7_148 : Cond.methodLink RX7 148 yX7_placeRead ∈ wAll := tb_4 (List.mem_of_getElem? (i := 184) rfl) rfl
theorem im_X7_placeRead : Cond.instanceMethod yX7_placeRead ∈ wAll := tb_4 (List.mem_of_getElem? (i := 186) rfl) rfl
theorem co_X7_placeRead : Cond.code yX7_placeRead cX7_placeRead 2 (some .int) ∈ wAll := tb_4 (List.mem_of_getElem? (i := 187) rfl) rfl
theorem ml_L_122 : Cond.methodLink RL 122 yX7_play ∈ wAll := tb_4 (List.mem_of_getElem? (i := 188) rfl) rfl
theorem im_X7_play : Cond.instanceMethod yX7_play ∈ wAll := tb_4 (List.mem_of_getElem? (i := 189) rfl) rfl
theorem se_X7_play : Cond.selects RX7 yX7_play yX7_play ∈ wAll := tb_4 (List.mem_of_getElem? (i := 190) rfl) rfl
theorem co_X7_play : Cond.code yX7_play cX7_play 2 (some .int) ∈ wAll := tb_4 (List.mem_of_getElem? (i := 191) rfl) rfl
theorem ml_X7_157 : Cond.methodLink RX7 157 yX7_makes ∈ wAll := tb_4 (List.mem_of_getElem? (i := 192) rfl) rfl
theorem im_X7_makes : Cond.instanceMethod yX7_makes ∈ wAll := tb_4 (List.mem_of_getElem? (i := 194) rfl) rfl
theorem co_X7_makes : Cond.code yX7_makes cX7_makes 3 (some .boolean) ∈ wAll := tb_4 (List.mem_of_getElem? (i := 195) rfl) rfl
theorem ml_L_125 : Cond.methodLink RL 125 yX7_undo ∈ wAll := tb_4 (List.mem_of_getElem? (i := 196) rfl) rfl
theorem im_X7_undo : Cond.instanceMethod yX7_undo ∈ wAll := tb_4 (List.mem_of_getElem? (i := 197) rfl) rfl
theorem se_X7_undo : Cond.selects RX7 yX7_undo yX7_undo ∈ wAll := tb_4 (List.mem_of_getElem? (i := 198) rfl) rfl
theorem co_X7_undo : Cond.code yX7_undo cX7_undo 2 (some .int) ∈ wAll := tb_4 (List.mem_of_getElem? (i := 199) rfl) rfl
theorem ml_L_128 : Cond.methodLink RL 128 yX7_slot ∈ wAll := tb_4 (List.mem_of_getElem? (i := 200) rfl) rfl
theorem im_X7_slot : Cond.instanceMethod yX7_slot ∈ wAll := tb_4 (List.mem_of_getElem? (i := 201) rfl) rfl
theorem se_X7_slot : Cond.selects RX7 yX7_slot yX7_slot ∈ wAll := tb_4 (List.mem_of_getElem? (i := 202) rfl) rfl
theorem co_X7_slot : Cond.code yX7_slot cX7_slot 3 (some .int) ∈ wAll := tb_4 (List.mem_of_getElem? (i := 203) rfl) rfl
theorem ml_X7_160 : Cond.methodLink RX7 160 yX7_tellsSlot ∈ wAll := tb_4 (List.mem_of_getElem? (i := 204) rfl) rfl
theorem im_X7_tellsSlot : Cond.instanceMethod yX7_tellsSlot ∈ wAll := tb_4 (List.mem_of_getElem? (i := 206) rfl) rfl
theorem co_X7_tellsSlot : Cond.code yX7_tellsSlot cX7_tellsSlot 3 (some .int) ∈ wAll := tb_4 (List.mem_of_getElem? (i := 207) rfl) rfl
theorem ml_L_131 : Cond.methodLink RL 131 yX7_page ∈ wAll := tb_4 (List.mem_of_getElem? (i := 208) rfl) rfl
theorem im_X7_page : Cond.instanceMethod yX7_page ∈ wAll := tb_4 (List.mem_of_getElem? (i := 209) rfl) rfl
theorem se_X7_page : Cond.selects RX7 yX7_page yX7_page ∈ wAll := tb_4 (List.mem_of_getElem? (i := 210) rfl) rfl
theorem co_X7_page : Cond.code yX7_page cX7_page 3 (some .int) ∈ wAll := tb_4 (List.mem_of_getElem? (i := 211) rfl) rfl
theorem ml_X7_167 : Cond.methodLink RX7 167 yX7_tellsPage ∈ wAll := tb_4 (List.mem_of_getElem? (i := 212) rfl) rfl
theorem im_X7_tellsPage : Cond.instanceMethod yX7_tellsPage ∈ wAll := tb_4 (List.mem_of_getElem? (i := 214) rfl) rfl
theorem co_X7_tellsPage : Cond.code yX7_tellsPage cX7_tellsPage 3 (some .int) ∈ wAll := tb_4 (List.mem_of_getElem? (i := 215) rfl) rfl
theorem ml_X7_163 : Cond.methodLink RX7 163 yX7_versions ∈ wAll := tb_4 (List.mem_of_getElem? (i := 216) rfl) rfl
theorem im_X7_versions : Cond.instanceMethod yX7_versions ∈ wAll := tb_4 (List.mem_of_getElem? (i := 218) rfl) rfl
theorem co_X7_versions : Cond.code yX7_versions cX7_versions 7 (some .int) ∈ wAll := tb_4 (List.mem_of_getElem? (i := 219) rfl) rfl
theorem ml_L_134 : Cond.methodLink RL 134 yX7_asker ∈ wAll := tb_4 (List.mem_of_getElem? (i := 220) rfl) rfl
theorem im_X7_asker : Cond.instanceMethod yX7_asker ∈ wAll := tb_4 (List.mem_of_getElem? (i := 221) rfl) rfl
theorem se_X7_asker : Cond.selects RX7 yX7_asker yX7_asker ∈ wAll := tb_4 (List.mem_of_getElem? (i := 222) rfl) rfl
theorem co_X7_asker : Cond.code yX7_asker cX7_asker 3 (some .int) ∈ wAll := tb_4 (List.mem_of_getElem? (i := 223) rfl) rfl
theorem ml_X7_170 : Cond.methodLink RX7 170 yX7_tellsAsker ∈ wAll := tb_4 (List.mem_of_getElem? (i := 224) rfl) rfl
theorem im_X7_tellsAsker : Cond.instanceMethod yX7_tellsAsker ∈ wAll := tb_4 (List.mem_of_getElem? (i := 226) rfl) rfl
theorem co_X7_tellsAsker : Cond.code yX7_tellsAsker cX7_tellsAsker 4 (some .int) ∈ wAll := tb_4 (List.mem_of_getElem? (i := 227) rfl) rfl
theorem ml_L_137 : Cond.methodLink RL 137 yX7_count ∈ wAll := tb_4 (List.mem_of_getElem? (i := 228) rfl) rfl
theorem im_X7_count : Cond.instanceMethod yX7_count ∈ wAll := tb_4 (List.mem_of_getElem? (i := 229) rfl) rfl
theorem se_X7_count : Cond.selects RX7 yX7_count yX7_count ∈ wAll := tb_4 (List.mem_of_getElem? (i := 230) rfl) rfl
theorem co_X7_count : Cond.code yX7_count cX7_count 2 (some .int) ∈ wAll := tb_4 (List.mem_of_getElem? (i := 231) rfl) rfl
theorem ml_X7_173 : Cond.methodLink RX7 173 yX7_tellsCount ∈ wAll := tb_4 (List.mem_of_getElem? (i := 232) rfl) rfl
theorem im_X7_tellsCount : Cond.instanceMethod yX7_tellsCount ∈ wAll := tb_4 (List.mem_of_getElem? (i := 234) rfl) rfl
theorem co_X7_tellsCount : Cond.code yX7_tellsCount cX7_tellsCount 2 (some .int) ∈ wAll := tb_4 (List.mem_of_getElem? (i := 235) rfl) rfl
theorem ml_L_141 : Cond.methodLink RL 141 yX7_ifAsked ∈ wAll := tb_4 (List.mem_of_getElem? (i := 236) rfl) rfl
theorem im_X7_ifAsked : Cond.instanceMethod yX7_ifAsked ∈ wAll := tb_4 (List.mem_of_getElem? (i := 237) rfl) rfl
theorem se_X7_ifAsked : Cond.selects RX7 yX7_ifAsked yX7_ifAsked ∈ wAll := tb_4 (List.mem_of_getElem? (i := 238) rfl) rfl
theorem co_X7_ifAsked : Cond.code yX7_ifAsked cX7_ifAsked 6 (some .int) ∈ wAll := tb_4 (List.mem_of_getElem? (i := 239) rfl) rfl
theorem ml_L_144 : Cond.methodLink RL 144 yX7_lies ∈ wAll := tb_5 (List.mem_of_getElem? (i := 0) rfl) rfl
theorem im_X7_lies : Cond.instanceMethod yX7_lies ∈ wAll := tb_5 (List.mem_of_getElem? (i := 1) rfl) rfl
theorem se_X7_lies : Cond.selects RX7 yX7_lies yX7_lies ∈ wAll := tb_5 (List.mem_of_getElem? (i := 2) rfl) rfl
theorem co_X7_lies : Cond.code yX7_lies cX7_lies 2 (some .int) ∈ wAll := tb_5 (List.mem_of_getElem? (i := 3) rfl) rfl
theorem ml_X7_176 : Cond.methodLink RX7 176 yX7_tellsLies ∈ wAll := tb_5 (List.mem_of_getElem? (i := 4) rfl) rfl
theorem im_X7_tellsLies : Cond.instanceMethod yX7_tellsLies ∈ wAll := tb_5 (List.mem_of_getElem? (i := 6) rfl) rfl
theorem co_X7_tellsLies : Cond.code yX7_tellsLies cX7_tellsLies 4 (some .int) ∈ wAll := tb_5 (List.mem_of_getElem? (i := 7) rfl) rfl
theorem ml_L_147 : Cond.methodLink RL 147 yX7_cheapest ∈ wAll := tb_5 (List.mem_of_getElem? (i := 8) rfl) rfl
theorem im_X7_cheapest : Cond.instanceMethod yX7_cheapest ∈ wAll := tb_5 (List.mem_of_getElem? (i := 9) rfl) rfl
theorem se_X7_cheapest : Cond.selects RX7 yX7_cheapest yX7_cheapest ∈ wAll := tb_5 (List.mem_of_getElem? (i := 10) rfl) rfl
theorem co_X7_cheapest : Cond.code yX7_cheapest cX7_cheapest 2 (some .int) ∈ wAll := tb_5 (List.mem_of_getElem? (i := 11) rfl) rfl
theorem ml_X7_179 : Cond.methodLink RX7 179 yX7_cheapestWay ∈ wAll := tb_5 (List.mem_of_getElem? (i := 12) rfl) rfl
theorem im_X7_cheapestWay : Cond.instanceMethod yX7_cheapestWay ∈ wAll := tb_5 (List.mem_of_getElem? (i := 14) rfl) rfl
theorem co_X7_cheapestWay : Cond.code yX7_cheapestWay cX7_cheapestWay 4 (some .int) ∈ wAll := tb_5 (List.mem_of_getElem? (i := 15) rfl) rfl
theorem ml_L_151 : Cond.methodLink RL 151 yX7_holder ∈ wAll := tb_5 (List.mem_of_getElem? (i := 16) rfl) rfl
theorem im_X7_holder : Cond.instanceMethod yX7_holder ∈ wAll := tb_5 (List.mem_of_getElem? (i := 17) rfl) rfl
theorem se_X7_holder : Cond.selects RX7 yX7_holder yX7_holder ∈ wAll := tb_5 (List.mem_of_getElem? (i := 18) rfl) rfl
theorem co_X7_holder : Cond.code yX7_holder cX7_holder 1 (some .int) ∈ wAll := tb_5 (List.mem_of_getElem? (i := 19) rfl) rfl
theorem ml_X7_185 : Cond.methodLink RX7 185 yX7_holderNow ∈ wAll := tb_5 (List.mem_of_getElem? (i := 20) rfl) rfl
theorem im_X7_holderNow : Cond.instanceMethod yX7_holderNow ∈ wAll := tb_5 (List.mem_of_getElem? (i := 22) rfl) rfl
theorem co_X7_holderNow : Cond.code yX7_holderNow cX7_holderNow 5 (some .int) ∈ wAll := tb_5 (List.mem_of_getElem? (i := 23) rfl) rfl
theorem ml_X7_182 : Cond.methodLink RX7 182 yX7_oldOnes ∈ wAll := tb_5 (List.mem_of_getElem? (i := 24) rfl) rfl
theorem im_X7_oldOnes : Cond.instanceMethod yX7_oldOnes ∈ wAll := tb_5 (List.mem_of_getElem? (i := 26) rfl) rfl
theorem co_X7_oldOnes : Cond.code yX7_oldOnes cX7_oldOnes 4 (some .int) ∈ wAll := tb_5 (List.mem_of_getElem? (i := 27) rfl) rfl
theorem ml_L_156 : Cond.methodLink RL 156 yX7_marked ∈ wAll := tb_5 (List.mem_of_getElem? (i := 28) rfl) rfl
theorem im_X7_marked : Cond.instanceMethod yX7_marked ∈ wAll := tb_5 (List.mem_of_getElem? (i := 29) rfl) rfl
theorem se_X7_marked : Cond.selects RX7 yX7_marked yX7_marked ∈ wAll := tb_5 (List.mem_of_getElem? (i := 30) rfl) rfl
theorem co_X7_marked : Cond.code yX7_marked cX7_marked 1 (some .double) ∈ wAll := tb_5 (List.mem_of_getElem? (i := 31) rfl) rfl
theorem ml_X7_190 : Cond.methodLink RX7 190 yX7_share ∈ wAll := tb_5 (List.mem_of_getElem? (i := 32) rfl) rfl
theorem im_X7_share : Cond.instanceMethod yX7_share ∈ wAll := tb_5 (List.mem_of_getElem? (i := 34) rfl) rfl
theorem co_X7_share : Cond.code yX7_share cX7_share 1 (some .double) ∈ wAll := tb_5 (List.mem_of_getElem? (i := 35) rfl) rfl
theorem kc_X7_188 : Cond.constantDouble RX7 188 (4618441417868443648) ∈ wAll := tb_5 (List.mem_of_getElem? (i := 36) rfl) rfl
theorem ml_L_161 : Cond.methodLink RL 161 yX7_digest ∈ wAll := tb_5 (List.mem_of_getElem? (i := 37) rfl) rfl
theorem im_X7_digest : Cond.instanceMethod yX7_digest ∈ wAll := tb_5 (List.mem_of_getElem? (i := 38) rfl) rfl
theorem se_X7_digest : Cond.selects RX7 yX7_digest yX7_digest ∈ wAll := tb_5 (List.mem_of_getElem? (i := 39) rfl) rfl
theorem co_X7_digest : Cond.code yX7_digest cX7_digest 2 (some .long) ∈ wAll := tb_5 (List.mem_of_getElem? (i := 40) rfl) rfl
theorem kc_X7_204 : Cond.constantLong RX7 204 (3467) ∈ wAll := tb_5 (List.mem_of_getElem? (i := 41) rfl) rfl
theorem ml_X7_200 : Cond.methodLink RX7 200 yX7_hashes ∈ wAll := tb_5 (List.mem_of_getElem? (i := 42) rfl) rfl
theorem im_X7_hashes : Cond.instanceMethod yX7_hashes ∈ wAll := tb_5 (List.mem_of_getElem? (i := 44) rfl) rfl
theorem co_X7_hashes : Cond.code yX7_hashes cX7_hashes 3 none ∈ wAll := tb_5 (List.mem_of_getElem? (i := 45) rfl) rfl
theorem kc_X7_194 : Cond.constantLong RX7 194 (31) ∈ wAll := tb_5 (List.mem_of_getElem? (i := 46) rfl) rfl
theorem ml_X7_206 : Cond.methodLink RX7 206 yX7_hashesValue ∈ wAll := tb_5 (List.mem_of_getElem? (i := 47) rfl) rfl
theorem im_X7_hashesValue : Cond.instanceMethod yX7_hashesValue ∈ wAll := tb_5 (List.mem_of_getElem? (i := 49) rfl) rfl
theorem co_X7_hashesValue : Cond.code yX7_hashesValue cX7_hashesValue 3 none ∈ wAll := tb_5 (List.mem_of_getElem? (i := 50) rfl) rfl
theorem ml_X7_209 : Cond.methodLink RX7 209 yJxe99ae_doubleToLongBits_ccdee ∈ wAll := tb_5 (List.mem_of_getElem? (i := 51) rfl) rfl
theorem st_Jxe99ae_doubleToLongBits_ccdee : Cond.static yJxe99ae_doubleToLongBits_ccdee ∈ wAll := tb_5 (List.mem_of_getElem? (i := 52) rfl) rfl
theorem co_Jxe99ae_doubleToLongBits_ccdee : Cond.code yJxe99ae_doubleToLongBits_ccdee cJxe99ae_doubleToLongBits_ccdee 2 (some .long) ∈ wAll := tb_5 (List.mem_of_getElem? (i := 53) rfl) rfl
theorem ml_Jxe99ae_122 : Cond.methodLink RJxe99ae 122 yJxe99ae_isNaN_b9ae7 ∈ wAll := tb_5 (List.mem_of_getElem? (i := 54) rfl) rfl
theorem st_Jxe99ae_isNaN_b9ae7 : Cond.static yJxe99ae_isNaN_b9ae7 ∈ wAll := tb_5 (List.mem_of_getElem? (i := 55) rfl) rfl
theorem co_Jxe99ae_isNaN_b9ae7 : Cond.code yJxe99ae_isNaN_b9ae7 cJxe99ae_isNaN_b9ae7 2 (some .boolean) ∈ wAll := tb_5 (List.mem_of_getElem? (i := 56) rfl) rfl
theorem kc_Jxe99ae_137 : Cond.constantLong RJxe99ae 137 (9221120237041090560) ∈ wAll := tb_5 (List.mem_of_getElem? (i := 60) rfl) rfl
theorem ac_long : Cond.arrayClass .long ∈ wAll := tb_5 (List.mem_of_getElem? (i := 61) rfl) rfl
theorem se_X3_isToTakeOut : Cond.selects RX3 yX3_isToTakeOut yX3_isToTakeOut ∈ wAll := tb_0 (q := (yX3_isToTakeOut, 6)) (List.mem_append_left _ (List.mem_of_getElem? (i := 0) rfl))
theorem se_X3_empty : Cond.selects RX3 yX3_empty yX3_empty ∈ wAll := tb_0 (q := (yX3_empty, 6)) (List.mem_append_left _ (List.mem_of_getElem? (i := 1) rfl))
theorem se_X3_isSeenByAll : Cond.selects RX3 yX3_isSeenByAll yX3_isSeenByAll ∈ wAll := tb_0 (q := (yX3_isSeenByAll, 6)) (List.mem_append_left _ (List.mem_of_getElem? (i := 2) rfl))
theorem se_X5_readSign : Cond.selects RX5 yX5_readSign yX5_readSign ∈ wAll := tb_0 (q := (yX5_readSign, 6)) (List.mem_append_left _ (List.mem_of_getElem? (i := 3) rfl))
theorem se_X5_readDigit : Cond.selects RX5 yX5_readDigit yX5_readDigit ∈ wAll := tb_0 (q := (yX5_readDigit, 6)) (List.mem_append_left _ (List.mem_of_getElem? (i := 4) rfl))
theorem se_X5_digitHere : Cond.selects RX5 yX5_digitHere yX5_digitHere ∈ wAll := tb_0 (q := (yX5_digitHere, 6)) (List.mem_append_left _ (List.mem_of_getElem? (i := 5) rfl))
theorem se_X5_readPlace : Cond.selects RX5 yX5_readPlace yX5_readPlace ∈ wAll := tb_0 (q := (yX5_readPlace, 6)) (List.mem_append_left _ (List.mem_of_getElem? (i := 6) rfl))
theorem se_X6_mostHolding : Cond.selects RX6 yX6_mostHolding yX6_mostHolding ∈ wAll := tb_0 (q := (yX6_mostHolding, 3)) (List.mem_append_left _ (List.mem_of_getElem? (i := 7) rfl))
theorem se_X6_markedShare : Cond.selects RX6 yX6_markedShare yX6_markedShare ∈ wAll := tb_0 (q := (yX6_markedShare, 3)) (List.mem_append_left _ (List.mem_of_getElem? (i := 8) rfl))
theorem se_X6_countNumber : Cond.selects RX6 yX6_countNumber yX6_countNumber ∈ wAll := tb_0 (q := (yX6_countNumber, 3)) (List.mem_append_left _ (List.mem_of_getElem? (i := 9) rfl))
theorem se_X6_mixParts : Cond.selects RX6 yX6_mixParts yX6_mixParts ∈ wAll := tb_0 (q := (yX6_mixParts, 3)) (List.mem_append_left _ (List.mem_of_getElem? (i := 10) rfl))
theorem se_X6_slotNumber : Cond.selects RX6 yX6_slotNumber yX6_slotNumber ∈ wAll := tb_0 (q := (yX6_slotNumber, 3)) (List.mem_append_left _ (List.mem_of_getElem? (i := 11) rfl))
theorem se_X6_pageNumber : Cond.selects RX6 yX6_pageNumber yX6_pageNumber ∈ wAll := tb_0 (q := (yX6_pageNumber, 3)) (List.mem_append_left _ (List.mem_of_getElem? (i := 12) rfl))
theorem se_X6_askerNumber : Cond.selects RX6 yX6_askerNumber yX6_askerNumber ∈ wAll := tb_0 (q := (yX6_askerNumber, 3)) (List.mem_append_left _ (List.mem_of_getElem? (i := 13) rfl))
theorem se_X6_mixValue : Cond.selects RX6 yX6_mixValue yX6_mixValue ∈ wAll := tb_0 (q := (yX6_mixValue, 3)) (List.mem_append_left _ (List.mem_of_getElem? (i := 14) rfl))
theorem se_X3_indexHas : Cond.selects RX3 yX3_indexHas yX3_indexHas ∈ wAll := tb_0 (q := (yX3_indexHas, 6)) (List.mem_append_left _ (List.mem_of_getElem? (i := 15) rfl))
theorem se_X3_come : Cond.selects RX3 yX3_come yX3_come ∈ wAll := tb_0 (q := (yX3_come, 6)) (List.mem_append_right _ (List.mem_append_left _ (List.mem_of_getElem? (i := 1) rfl)))
theorem se_X3_go : Cond.selects RX3 yX3_go yX3_go ∈ wAll := tb_0 (q := (yX3_go, 6)) (List.mem_append_right _ (List.mem_append_left _ (List.mem_of_getElem? (i := 2) rfl)))
theorem se_X6_makeParts : Cond.selects RX6 yX6_makeParts yX6_makeParts ∈ wAll := tb_0 (q := (yX6_makeParts, 3)) (List.mem_append_right _ (List.mem_append_left _ (List.mem_of_getElem? (i := 3) rfl)))
theorem se_X7_fails : Cond.selects RX7 yX7_fails yX7_fails ∈ wAll := tb_0 (q := (yX7_fails, 11)) (List.mem_append_right _ (List.mem_append_left _ (List.mem_of_getElem? (i := 4) rfl)))
theorem se_X7_canChange : Cond.selects RX7 yX7_canChange yX7_canChange ∈ wAll := tb_0 (q := (yX7_canChange, 11)) (List.mem_append_right _ (List.mem_append_left _ (List.mem_of_getElem? (i := 5) rfl)))
theorem se_X7_isSeen : Cond.selects RX7 yX7_isSeen yX7_isSeen ∈ wAll := tb_0 (q := (yX7_isSeen, 11)) (List.mem_append_right _ (List.mem_append_left _ (List.mem_of_getElem? (i := 6) rfl)))
theorem se_X7_isFull : Cond.selects RX7 yX7_isFull yX7_isFull ∈ wAll := tb_0 (q := (yX7_isFull, 11)) (List.mem_append_right _ (List.mem_append_left _ (List.mem_of_getElem? (i := 7) rfl)))
theorem se_X7_of : Cond.selects RX7 yX7_of yX7_of ∈ wAll := tb_0 (q := (yX7_of, 11)) (List.mem_append_right _ (List.mem_append_left _ (List.mem_of_getElem? (i := 8) rfl)))
theorem se_X7_lowestEmpty : Cond.selects RX7 yX7_lowestEmpty yX7_lowestEmpty ∈ wAll := tb_0 (q := (yX7_lowestEmpty, 11)) (List.mem_append_right _ (List.mem_append_left _ (List.mem_of_getElem? (i := 9) rfl)))
theorem se_X7_saves : Cond.selects RX7 yX7_saves yX7_saves ∈ wAll := tb_0 (q := (yX7_saves, 11)) (List.mem_append_right _ (List.mem_append_left _ (List.mem_of_getElem? (i := 10) rfl)))
theorem se_X7_changes : Cond.selects RX7 yX7_changes yX7_changes ∈ wAll := tb_0 (q := (yX7_changes, 11)) (List.mem_append_right _ (List.mem_append_left _ (List.mem_of_getElem? (i := 11) rfl)))
theorem se_X7_goes : Cond.selects RX7 yX7_goes yX7_goes ∈ wAll := tb_0 (q := (yX7_goes, 11)) (List.mem_append_right _ (List.mem_append_left _ (List.mem_of_getElem? (i := 12) rfl)))
theorem se_X7_unmarks : Cond.selects RX7 yX7_unmarks yX7_unmarks ∈ wAll := tb_0 (q := (yX7_unmarks, 11)) (List.mem_append_right _ (List.mem_append_left _ (List.mem_of_getElem? (i := 13) rfl)))
theorem se_X7_comes : Cond.selects RX7 yX7_comes yX7_comes ∈ wAll := tb_0 (q := (yX7_comes, 11)) (List.mem_append_right _ (List.mem_append_left _ (List.mem_of_getElem? (i := 14) rfl)))
theorem se_X7_lay : Cond.selects RX7 yX7_lay yX7_lay ∈ wAll := tb_0 (q := (yX7_lay, 11)) (List.mem_append_right _ (List.mem_append_left _ (List.mem_of_getElem? (i := 15) rfl)))
theorem se_X7_snapshotOf : Cond.selects RX7 yX7_snapshotOf yX7_snapshotOf ∈ wAll := tb_0 (q := (yX7_snapshotOf, 11)) (List.mem_append_right _ (List.mem_append_right _ (List.mem_append_left _ (List.mem_of_getElem? (i := 0) rfl))))
theorem se_X7_sweeps : Cond.selects RX7 yX7_sweeps yX7_sweeps ∈ wAll := tb_0 (q := (yX7_sweeps, 11)) (List.mem_append_right _ (List.mem_append_right _ (List.mem_append_left _ (List.mem_of_getElem? (i := 1) rfl))))
theorem se_X7_horizon : Cond.selects RX7 yX7_horizon yX7_horizon ∈ wAll := tb_0 (q := (yX7_horizon, 11)) (List.mem_append_right _ (List.mem_append_right _ (List.mem_append_left _ (List.mem_of_getElem? (i := 2) rfl))))
theorem se_X7_horizonBut : Cond.selects RX7 yX7_horizonBut yX7_horizonBut ∈ wAll := tb_0 (q := (yX7_horizonBut, 11)) (List.mem_append_right _ (List.mem_append_right _ (List.mem_append_left _ (List.mem_of_getElem? (i := 3) rfl))))
theorem se_X7_oldIn : Cond.selects RX7 yX7_oldIn yX7_oldIn ∈ wAll := tb_0 (q := (yX7_oldIn, 11)) (List.mem_append_right _ (List.mem_append_right _ (List.mem_append_left _ (List.mem_of_getElem? (i := 4) rfl))))
theorem se_X7_isOld : Cond.selects RX7 yX7_isOld yX7_isOld ∈ wAll := tb_0 (q := (yX7_isOld, 11)) (List.mem_append_right _ (List.mem_append_right _ (List.mem_append_left _ (List.mem_of_getElem? (i := 5) rfl))))
theorem se_X7_markedPages : Cond.selects RX7 yX7_markedPages yX7_markedPages ∈ wAll := tb_0 (q := (yX7_markedPages, 11)) (List.mem_append_right _ (List.mem_append_right _ (List.mem_append_left _ (List.mem_of_getElem? (i := 6) rfl))))
theorem se_X7_ofPage : Cond.selects RX7 yX7_ofPage yX7_ofPage ∈ wAll := tb_0 (q := (yX7_ofPage, 11)) (List.mem_append_right _ (List.mem_append_right _ (List.mem_append_left _ (List.mem_of_getElem? (i := 7) rfl))))
theorem se_X7_truly : Cond.selects RX7 yX7_truly yX7_truly ∈ wAll := tb_0 (q := (yX7_truly, 11)) (List.mem_append_right _ (List.mem_append_right _ (List.mem_append_left _ (List.mem_of_getElem? (i := 8) rfl))))
theorem se_X7_greatestMark : Cond.selects RX7 yX7_greatestMark yX7_greatestMark ∈ wAll := tb_0 (q := (yX7_greatestMark, 11)) (List.mem_append_right _ (List.mem_append_right _ (List.mem_append_left _ (List.mem_of_getElem? (i := 9) rfl))))
theorem se_X7_costs : Cond.selects RX7 yX7_costs yX7_costs ∈ wAll := tb_0 (q := (yX7_costs, 11)) (List.mem_append_right _ (List.mem_append_right _ (List.mem_append_left _ (List.mem_of_getElem? (i := 10) rfl))))
theorem se_X7_hasIn : Cond.selects RX7 yX7_hasIn yX7_hasIn ∈ wAll := tb_0 (q := (yX7_hasIn, 11)) (List.mem_append_right _ (List.mem_append_right _ (List.mem_append_left _ (List.mem_of_getElem? (i := 11) rfl))))
theorem se_X7_hasValue : Cond.selects RX7 yX7_hasValue yX7_hasValue ∈ wAll := tb_0 (q := (yX7_hasValue, 11)) (List.mem_append_right _ (List.mem_append_right _ (List.mem_append_left _ (List.mem_of_getElem? (i := 12) rfl))))
theorem se_X7_answers : Cond.selects RX7 yX7_answers yX7_answers ∈ wAll := tb_0 (q := (yX7_answers, 11)) (List.mem_append_right _ (List.mem_append_right _ (List.mem_append_left _ (List.mem_of_getElem? (i := 13) rfl))))
theorem se_X7_readsAll : Cond.selects RX7 yX7_readsAll yX7_readsAll ∈ wAll := tb_0 (q := (yX7_readsAll, 11)) (List.mem_append_right _ (List.mem_append_right _ (List.mem_append_left _ (List.mem_of_getElem? (i := 14) rfl))))
theorem se_X7_readsChange : Cond.selects RX7 yX7_readsChange yX7_readsChange ∈ wAll := tb_0 (q := (yX7_readsChange, 11)) (List.mem_append_right _ (List.mem_append_right _ (List.mem_append_left _ (List.mem_of_getElem? (i := 15) rfl))))
theorem se_X7_sign : Cond.selects RX7 yX7_sign yX7_sign ∈ wAll := tb_0 (q := (yX7_sign, 11)) (List.mem_append_right _ (List.mem_append_right _ (List.mem_append_right _ (List.mem_of_getElem? (i := 0) rfl))))
theorem se_X7_digit : Cond.selects RX7 yX7_digit yX7_digit ∈ wAll := tb_0 (q := (yX7_digit, 11)) (List.mem_append_right _ (List.mem_append_right _ (List.mem_append_right _ (List.mem_of_getElem? (i := 1) rfl))))
theorem se_X7_placeRead : Cond.selects RX7 yX7_placeRead yX7_placeRead ∈ wAll := tb_0 (q := (yX7_placeRead, 11)) (List.mem_append_right _ (List.mem_append_right _ (List.mem_append_right _ (List.mem_of_getElem? (i := 2) rfl))))
theorem se_X7_makes : Cond.selects RX7 yX7_makes yX7_makes ∈ wAll := tb_0 (q := (yX7_makes, 11)) (List.mem_append_right _ (List.mem_append_right _ (List.mem_append_right _ (List.mem_of_getElem? (i := 3) rfl))))
theorem se_X7_tellsSlot : Cond.selects RX7 yX7_tellsSlot yX7_tellsSlot ∈ wAll := tb_0 (q := (yX7_tellsSlot, 11)) (List.mem_append_right _ (List.mem_append_right _ (List.mem_append_right _ (List.mem_of_getElem? (i := 4) rfl))))
theorem se_X7_tellsPage : Cond.selects RX7 yX7_tellsPage yX7_tellsPage ∈ wAll := tb_0 (q := (yX7_tellsPage, 11)) (List.mem_append_right _ (List.mem_append_right _ (List.mem_append_right _ (List.mem_of_getElem? (i := 5) rfl))))
theorem se_X7_versions : Cond.selects RX7 yX7_versions yX7_versions ∈ wAll := tb_0 (q := (yX7_versions, 11)) (List.mem_append_right _ (List.mem_append_right _ (List.mem_append_right _ (List.mem_of_getElem? (i := 6) rfl))))
theorem se_X7_tellsAsker : Cond.selects RX7 yX7_tellsAsker yX7_tellsAsker ∈ wAll := tb_0 (q := (yX7_tellsAsker, 11)) (List.mem_append_right _ (List.mem_append_right _ (List.mem_append_right _ (List.mem_of_getElem? (i := 7) rfl))))
theorem se_X7_tellsCount : Cond.selects RX7 yX7_tellsCount yX7_tellsCount ∈ wAll := tb_0 (q := (yX7_tellsCount, 11)) (List.mem_append_right _ (List.mem_append_right _ (List.mem_append_right _ (List.mem_of_getElem? (i := 8) rfl))))
theorem se_X7_tellsLies : Cond.selects RX7 yX7_tellsLies yX7_tellsLies ∈ wAll := tb_0 (q := (yX7_tellsLies, 11)) (List.mem_append_right _ (List.mem_append_right _ (List.mem_append_right _ (List.mem_of_getElem? (i := 9) rfl))))
theorem se_X7_cheapestWay : Cond.selects RX7 yX7_cheapestWay yX7_cheapestWay ∈ wAll := tb_0 (q := (yX7_cheapestWay, 11)) (List.mem_append_right _ (List.mem_append_right _ (List.mem_append_right _ (List.mem_of_getElem? (i := 10) rfl))))
theorem se_X7_holderNow : Cond.selects RX7 yX7_holderNow yX7_holderNow ∈ wAll := tb_0 (q := (yX7_holderNow, 11)) (List.mem_append_right _ (List.mem_append_right _ (List.mem_append_right _ (List.mem_of_getElem? (i := 11) rfl))))
theorem se_X7_oldOnes : Cond.selects RX7 yX7_oldOnes yX7_oldOnes ∈ wAll := tb_0 (q := (yX7_oldOnes, 11)) (List.mem_append_right _ (List.mem_append_right _ (List.mem_append_right _ (List.mem_of_getElem? (i := 12) rfl))))
theorem se_X7_share : Cond.selects RX7 yX7_share yX7_share ∈ wAll := tb_0 (q := (yX7_share, 11)) (List.mem_append_right _ (List.mem_append_right _ (List.mem_append_right _ (List.mem_of_getElem? (i := 13) rfl))))
theorem se_X7_hashes : Cond.selects RX7 yX7_hashes yX7_hashes ∈ wAll := tb_0 (q := (yX7_hashes, 11)) (List.mem_append_right _ (List.mem_append_right _ (List.mem_append_right _ (List.mem_of_getElem? (i := 14) rfl))))
theorem se_X7_hashesValue : Cond.selects RX7 yX7_hashesValue yX7_hashesValue ∈ wAll := tb_0 (q := (yX7_hashesValue, 11)) (List.mem_append_right _ (List.mem_append_right _ (List.mem_append_right _ (List.mem_of_getElem? (i := 15) rfl))))
theorem lay_X0_0 : u_lay RX0 TX0 0 ∈ wAll := tb_1 (List.mem_of_getElem? (i := 80) rfl) rfl
theorem lay_X0_1 : u_lay RX0 TX0 1 ∈ wAll := tb_1 (List.mem_of_getElem? (i := 82) rfl) rfl
theorem in_lay_X0 : ∀ w ∈ u_ws RX0 TX0 2, w ∈ wAll := by
  show ∀ w ∈ [u_lay RX0 TX0 0, u_lay RX0 TX0 1], w ∈ wAll
  exact List.forall_mem_cons.mpr ⟨lay_X0_0, List.forall_mem_cons.mpr ⟨lay_X0_1, fun _ h => absurd h List.not_mem_nil⟩⟩
theorem lay_X1_0 : u_lay RX1 TX1 0 ∈ wAll := tb_1 (List.mem_of_getElem? (i := 130) rfl) rfl
theorem lay_X1_1 : u_lay RX1 TX1 1 ∈ wAll := tb_1 (List.mem_of_getElem? (i := 132) rfl) rfl
theorem lay_X1_2 : u_lay RX1 TX1 2 ∈ wAll := tb_1 (List.mem_of_getElem? (i := 134) rfl) rfl
theorem in_lay_X1 : ∀ w ∈ u_ws RX1 TX1 3, w ∈ wAll := by
  show ∀ w ∈ [u_lay RX1 TX1 0, u_lay RX1 TX1 1, u_lay RX1 TX1 2], w ∈ wAll
  exact List.forall_mem_cons.mpr ⟨lay_X1_0, List.forall_mem_cons.mpr ⟨lay_X1_1, List.forall_mem_cons.mpr ⟨lay_X1_2, fun _ h => absurd h List.not_mem_nil⟩⟩⟩
theorem lay_X2_0 : u_lay RX2 TX2 0 ∈ wAll := tb_1 (List.mem_of_getElem? (i := 110) rfl) rfl
theorem lay_X2_1 : u_lay RX2 TX2 1 ∈ wAll := tb_1 (List.mem_of_getElem? (i := 112) rfl) rfl
theorem lay_X2_2 : u_lay RX2 TX2 2 ∈ wAll := tb_1 (List.mem_of_getElem? (i := 114) rfl) rfl
theorem in_lay_X2 : ∀ w ∈ u_ws RX2 TX2 3, w ∈ wAll := by
  show ∀ w ∈ [u_lay RX2 TX2 0, u_lay RX2 TX2 1, u_lay RX2 TX2 2], w ∈ wAll
  exact List.forall_mem_cons.mpr ⟨lay_X2_0, List.forall_mem_cons.mpr ⟨lay_X2_1, List.forall_mem_cons.mpr ⟨lay_X2_2, fun _ h => absurd h List.not_mem_nil⟩⟩⟩
theorem lay_X3_0 : u_lay RX3 TX3 0 ∈ wAll := tb_1 (List.mem_of_getElem? (i := 55) rfl) rfl
theorem lay_X3_1 : u_lay RX3 TX3 1 ∈ wAll := tb_1 (List.mem_of_getElem? (i := 57) rfl) rfl
theorem lay_X3_2 : u_lay RX3 TX3 2 ∈ wAll := tb_1 (List.mem_of_getElem? (i := 59) rfl) rfl
theorem lay_X3_3 : u_lay RX3 TX3 3 ∈ wAll := tb_1 (List.mem_of_getElem? (i := 61) rfl) rfl
theorem lay_X3_4 : u_lay RX3 TX3 4 ∈ wAll := tb_1 (List.mem_of_getElem? (i := 63) rfl) rfl
theorem lay_X3_5 : u_lay RX3 TX3 5 ∈ wAll := tb_1 (List.mem_of_getElem? (i := 65) rfl) rfl
theorem in_lay_X3 : ∀ w ∈ u_ws RX3 TX3 6, w ∈ wAll := by
  show ∀ w ∈ [u_lay RX3 TX3 0, u_lay RX3 TX3 1, u_lay RX3 TX3 2, u_lay RX3 TX3 3, u_lay RX3 TX3 4, u_lay RX3 TX3 5], w ∈ wAll
  exact List.forall_mem_cons.mpr ⟨lay_X3_0, List.forall_mem_cons.mpr ⟨lay_X3_1, List.forall_mem_cons.mpr ⟨lay_X3_2, List.forall_mem_cons.mpr ⟨lay_X3_3, List.forall_mem_cons.mpr ⟨lay_X3_4, List.forall_mem_cons.mpr ⟨lay_X3_5, fun _ h => absurd h List.not_mem_nil⟩⟩⟩⟩⟩⟩
theorem lay_X4_0 : u_lay RX4 TX4 0 ∈ wAll := tb_1 (List.mem_of_getElem? (i := 97) rfl) rfl
theorem lay_X4_1 : u_lay RX4 TX4 1 ∈ wAll := tb_1 (List.mem_of_getElem? (i := 99) rfl) rfl
theorem lay_X4_2 : u_lay RX4 TX4 2 ∈ wAll := tb_1 (List.mem_of_getElem? (i := 101) rfl) rfl
theorem in_lay_X4 : ∀ w ∈ u_ws RX4 TX4 3, w ∈ wAll := by
  show ∀ w ∈ [u_lay RX4 TX4 0, u_lay RX4 TX4 1, u_lay RX4 TX4 2], w ∈ wAll
  exact List.forall_mem_cons.mpr ⟨lay_X4_0, List.forall_mem_cons.mpr ⟨lay_X4_1, List.forall_mem_cons.mpr ⟨lay_X4_2, fun _ h => absurd h List.not_mem_nil⟩⟩⟩
theorem lay_X5_0 : u_lay RX5 TX5 0 ∈ wAll := tb_1 (List.mem_of_getElem? (i := 154) rfl) rfl
theorem lay_X5_1 : u_lay RX5 TX5 1 ∈ wAll := tb_1 (List.mem_of_getElem? (i := 156) rfl) rfl
theorem lay_X5_2 : u_lay RX5 TX5 2 ∈ wAll := tb_1 (List.mem_of_getElem? (i := 158) rfl) rfl
theorem lay_X5_3 : u_lay RX5 TX5 3 ∈ wAll := tb_1 (List.mem_of_getElem? (i := 160) rfl) rfl
theorem lay_X5_4 : u_lay RX5 TX5 4 ∈ wAll := tb_1 (List.mem_of_getElem? (i := 162) rfl) rfl
theorem lay_X5_5 : u_lay RX5 TX5 5 ∈ wAll := tb_1 (List.mem_of_getElem? (i := 164) rfl) rfl
theorem in_lay_X5 : ∀ w ∈ u_ws RX5 TX5 6, w ∈ wAll := by
  show ∀ w ∈ [u_lay RX5 TX5 0, u_lay RX5 TX5 1, u_lay RX5 TX5 2, u_lay RX5 TX5 3, u_lay RX5 TX5 4, u_lay RX5 TX5 5], w ∈ wAll
  exact List.forall_mem_cons.mpr ⟨lay_X5_0, List.forall_mem_cons.mpr ⟨lay_X5_1, List.forall_mem_cons.mpr ⟨lay_X5_2, List.forall_mem_cons.mpr ⟨lay_X5_3, List.forall_mem_cons.mpr ⟨lay_X5_4, List.forall_mem_cons.mpr ⟨lay_X5_5, fun _ h => absurd h List.not_mem_nil⟩⟩⟩⟩⟩⟩
theorem lay_X6_0 : u_lay RX6 TX6 0 ∈ wAll := tb_1 (List.mem_of_getElem? (i := 171) rfl) rfl
theorem lay_X6_1 : u_lay RX6 TX6 1 ∈ wAll := tb_1 (List.mem_of_getElem? (i := 173) rfl) rfl
theorem lay_X6_2 : u_lay RX6 TX6 2 ∈ wAll := tb_1 (List.mem_of_getElem? (i := 175) rfl) rfl
theorem in_lay_X6 : ∀ w ∈ u_ws RX6 TX6 3, w ∈ wAll := by
  show ∀ w ∈ [u_lay RX6 TX6 0, u_lay RX6 TX6 1, u_lay RX6 TX6 2], w ∈ wAll
  exact List.forall_mem_cons.mpr ⟨lay_X6_0, List.forall_mem_cons.mpr ⟨lay_X6_1, List.forall_mem_cons.mpr ⟨lay_X6_2, fun _ h => absurd h List.not_mem_nil⟩⟩⟩
theorem lay_X7_0 : u_lay RX7 TX7 0 ∈ wAll := tb_3 (List.mem_of_getElem? (i := 221) rfl) rfl
theorem lay_X7_1 : u_lay RX7 TX7 1 ∈ wAll := tb_3 (List.mem_of_getElem? (i := 223) rfl) rfl
theorem lay_X7_2 : u_lay RX7 TX7 2 ∈ wAll := tb_3 (List.mem_of_getElem? (i := 225) rfl) rfl
theorem lay_X7_3 : u_lay RX7 TX7 3 ∈ wAll := tb_3 (List.mem_of_getElem? (i := 227) rfl) rfl
theorem lay_X7_4 : u_lay RX7 TX7 4 ∈ wAll := tb_3 (List.mem_of_getElem? (i := 229) rfl) rfl
theorem lay_X7_5 : u_lay RX7 TX7 5 ∈ wAll := tb_3 (List.mem_of_getElem? (i := 231) rfl) rfl
theorem lay_X7_6 : u_lay RX7 TX7 6 ∈ wAll := tb_3 (List.mem_of_getElem? (i := 233) rfl) rfl
theorem lay_X7_7 : u_lay RX7 TX7 7 ∈ wAll := tb_3 (List.mem_of_getElem? (i := 235) rfl) rfl
theorem lay_X7_8 : u_lay RX7 TX7 8 ∈ wAll := tb_3 (List.mem_of_getElem? (i := 237) rfl) rfl
theorem lay_X7_9 : u_lay RX7 TX7 9 ∈ wAll := tb_3 (List.mem_of_getElem? (i := 239) rfl) rfl
theorem lay_X7_10 : u_lay RX7 TX7 10 ∈ wAll := tb_4 (List.mem_of_getElem? (i := 1) rfl) rfl
theorem in_lay_X7 : ∀ w ∈ u_ws RX7 TX7 11, w ∈ wAll := by
  show ∀ w ∈ [u_lay RX7 TX7 0, u_lay RX7 TX7 1, u_lay RX7 TX7 2, u_lay RX7 TX7 3, u_lay RX7 TX7 4, u_lay RX7 TX7 5, u_lay RX7 TX7 6, u_lay RX7 TX7 7, u_lay RX7 TX7 8, u_lay RX7 TX7 9, u_lay RX7 TX7 10], w ∈ wAll
  exact List.forall_mem_cons.mpr ⟨lay_X7_0, List.forall_mem_cons.mpr ⟨lay_X7_1, List.forall_mem_cons.mpr ⟨lay_X7_2, List.forall_mem_cons.mpr ⟨lay_X7_3, List.forall_mem_cons.mpr ⟨lay_X7_4, List.forall_mem_cons.mpr ⟨lay_X7_5, List.forall_mem_cons.mpr ⟨lay_X7_6, List.forall_mem_cons.mpr ⟨lay_X7_7, List.forall_mem_cons.mpr ⟨lay_X7_8, List.forall_mem_cons.mpr ⟨lay_X7_9, List.forall_mem_cons.mpr ⟨lay_X7_10, fun _ h => absurd h List.not_mem_nil⟩⟩⟩⟩⟩⟩⟩⟩⟩⟩⟩
end
