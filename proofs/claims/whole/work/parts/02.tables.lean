-- ===== PART A: goes FIRST, ahead of the names: the tables' words, and 'selects' of the private methods out of them =====
/-- a private method of a class that the tables say can be made, by its rows of tables_1 -/
def lw_okq (q : MethodName × Nat) : Prop := (q.1.cls ≠ "java/lang/invoke/MethodHandle" ∧ q.1.cls ≠ "java/lang/invoke/VarHandle") ∧ Cond.instantiable q.1.cls q.2 ∈ tables_1 ∧ Cond.privateMethod q.1 ∈ tables_1 ∧ Cond.instanceMethod q.1 ∈ tables_1
theorem lw_p0 : lw_okq (⟨"PickedForms", "weight", "()I"⟩, 11) := ⟨⟨by decide +kernel, by decide +kernel⟩, List.mem_of_getElem? (i := 22) (by decide +kernel), List.mem_of_getElem? (i := 324) (by decide +kernel), List.mem_of_getElem? (i := 325) (by decide +kernel)⟩
theorem lw_p1 : lw_okq (⟨"PickedForms", "countNumber", "(I)I"⟩, 11) := ⟨⟨by decide +kernel, by decide +kernel⟩, List.mem_of_getElem? (i := 22) (by decide +kernel), List.mem_of_getElem? (i := 351) (by decide +kernel), List.mem_of_getElem? (i := 352) (by decide +kernel)⟩
theorem lw_p2 : lw_okq (⟨"PickedForms", "usedBits", "()I"⟩, 11) := ⟨⟨by decide +kernel, by decide +kernel⟩, List.mem_of_getElem? (i := 22) (by decide +kernel), List.mem_of_getElem? (i := 355) (by decide +kernel), List.mem_of_getElem? (i := 356) (by decide +kernel)⟩
theorem lw_p3 : lw_okq (⟨"PickedForms", "readShape", "(I)V"⟩, 11) := ⟨⟨by decide +kernel, by decide +kernel⟩, List.mem_of_getElem? (i := 22) (by decide +kernel), List.mem_of_getElem? (i := 359) (by decide +kernel), List.mem_of_getElem? (i := 360) (by decide +kernel)⟩
theorem lw_p4 : lw_okq (⟨"PickedForms$Shape", "addUnlike", "(I)V"⟩, 8) := ⟨⟨by decide +kernel, by decide +kernel⟩, List.mem_of_getElem? (i := 127) (by decide +kernel), List.mem_of_getElem? (i := 387) (by decide +kernel), List.mem_of_getElem? (i := 388) (by decide +kernel)⟩
theorem lw_p5 : lw_okq (⟨"PickedForms", "hashOfValues", "(J)J"⟩, 11) := ⟨⟨by decide +kernel, by decide +kernel⟩, List.mem_of_getElem? (i := 22) (by decide +kernel), List.mem_of_getElem? (i := 414) (by decide +kernel), List.mem_of_getElem? (i := 415) (by decide +kernel)⟩
theorem lw_p6 : lw_okq (⟨"PickedForms", "valueNumber", "(II)I"⟩, 11) := ⟨⟨by decide +kernel, by decide +kernel⟩, List.mem_of_getElem? (i := 22) (by decide +kernel), List.mem_of_getElem? (i := 418) (by decide +kernel), List.mem_of_getElem? (i := 419) (by decide +kernel)⟩
theorem lw_p7 : lw_okq (⟨"PickedForms", "looksInBlock", "(II)I"⟩, 11) := ⟨⟨by decide +kernel, by decide +kernel⟩, List.mem_of_getElem? (i := 22) (by decide +kernel), List.mem_of_getElem? (i := 427) (by decide +kernel), List.mem_of_getElem? (i := 428) (by decide +kernel)⟩
theorem lw_p8 : lw_okq (⟨"PickedForms", "hashOfBlocks", "(J)J"⟩, 11) := ⟨⟨by decide +kernel, by decide +kernel⟩, List.mem_of_getElem? (i := 22) (by decide +kernel), List.mem_of_getElem? (i := 431) (by decide +kernel), List.mem_of_getElem? (i := 432) (by decide +kernel)⟩
theorem lw_p9 : lw_okq (⟨"PickedForms", "blockNumber", "(II)I"⟩, 11) := ⟨⟨by decide +kernel, by decide +kernel⟩, List.mem_of_getElem? (i := 22) (by decide +kernel), List.mem_of_getElem? (i := 435) (by decide +kernel), List.mem_of_getElem? (i := 436) (by decide +kernel)⟩
theorem lw_p10 : lw_okq (⟨"PickedForms", "readBits", "(I)V"⟩, 11) := ⟨⟨by decide +kernel, by decide +kernel⟩, List.mem_of_getElem? (i := 22) (by decide +kernel), List.mem_of_getElem? (i := 457) (by decide +kernel), List.mem_of_getElem? (i := 458) (by decide +kernel)⟩
theorem lw_p11 : lw_okq (⟨"PickedForms$BitRow", "encodePacked", "([IIILPickedForms$Shape;)V"⟩, 2) := ⟨⟨by decide +kernel, by decide +kernel⟩, List.mem_of_getElem? (i := 230) (by decide +kernel), List.mem_of_getElem? (i := 468) (by decide +kernel), List.mem_of_getElem? (i := 469) (by decide +kernel)⟩
theorem lw_p12 : lw_okq (⟨"PickedForms$BitRow", "field", "(II)V"⟩, 2) := ⟨⟨by decide +kernel, by decide +kernel⟩, List.mem_of_getElem? (i := 230) (by decide +kernel), List.mem_of_getElem? (i := 473) (by decide +kernel), List.mem_of_getElem? (i := 474) (by decide +kernel)⟩
theorem lw_p13 : lw_okq (⟨"PickedForms$BitRow", "encodeRuns", "([III)V"⟩, 2) := ⟨⟨by decide +kernel, by decide +kernel⟩, List.mem_of_getElem? (i := 230) (by decide +kernel), List.mem_of_getElem? (i := 481) (by decide +kernel), List.mem_of_getElem? (i := 482) (by decide +kernel)⟩
theorem lw_p14 : lw_okq (⟨"PickedForms$BitRow", "encodeDeltas", "([IIILPickedForms$Shape;)V"⟩, 2) := ⟨⟨by decide +kernel, by decide +kernel⟩, List.mem_of_getElem? (i := 230) (by decide +kernel), List.mem_of_getElem? (i := 485) (by decide +kernel), List.mem_of_getElem? (i := 486) (by decide +kernel)⟩
theorem lw_p15 : lw_okq (⟨"PickedForms$BitRow", "encodeListed", "([IIILPickedForms$Shape;)V"⟩, 2) := ⟨⟨by decide +kernel, by decide +kernel⟩, List.mem_of_getElem? (i := 230) (by decide +kernel), List.mem_of_getElem? (i := 490) (by decide +kernel), List.mem_of_getElem? (i := 491) (by decide +kernel)⟩
def lw_privs_1 : List (MethodName × Nat) := [(⟨"PickedForms", "weight", "()I"⟩, 11), (⟨"PickedForms", "countNumber", "(I)I"⟩, 11), (⟨"PickedForms", "usedBits", "()I"⟩, 11), (⟨"PickedForms", "readShape", "(I)V"⟩, 11), (⟨"PickedForms$Shape", "addUnlike", "(I)V"⟩, 8), (⟨"PickedForms", "hashOfValues", "(J)J"⟩, 11), (⟨"PickedForms", "valueNumber", "(II)I"⟩, 11), (⟨"PickedForms", "looksInBlock", "(II)I"⟩, 11), (⟨"PickedForms", "hashOfBlocks", "(J)J"⟩, 11), (⟨"PickedForms", "blockNumber", "(II)I"⟩, 11), (⟨"PickedForms", "readBits", "(I)V"⟩, 11), (⟨"PickedForms$BitRow", "encodePacked", "([IIILPickedForms$Shape;)V"⟩, 2), (⟨"PickedForms$BitRow", "field", "(II)V"⟩, 2), (⟨"PickedForms$BitRow", "encodeRuns", "([III)V"⟩, 2), (⟨"PickedForms$BitRow", "encodeDeltas", "([IIILPickedForms$Shape;)V"⟩, 2), (⟨"PickedForms$BitRow", "encodeListed", "([IIILPickedForms$Shape;)V"⟩, 2)]
theorem lw_r1 : ∀ q ∈ lw_privs_1, lw_okq q := List.forall_mem_cons.mpr ⟨lw_p0, List.forall_mem_cons.mpr ⟨lw_p1, List.forall_mem_cons.mpr ⟨lw_p2, List.forall_mem_cons.mpr ⟨lw_p3, List.forall_mem_cons.mpr ⟨lw_p4, List.forall_mem_cons.mpr ⟨lw_p5, List.forall_mem_cons.mpr ⟨lw_p6, List.forall_mem_cons.mpr ⟨lw_p7, List.forall_mem_cons.mpr ⟨lw_p8, List.forall_mem_cons.mpr ⟨lw_p9, List.forall_mem_cons.mpr ⟨lw_p10, List.forall_mem_cons.mpr ⟨lw_p11, List.forall_mem_cons.mpr ⟨lw_p12, List.forall_mem_cons.mpr ⟨lw_p13, List.forall_mem_cons.mpr ⟨lw_p14, List.forall_mem_cons.mpr ⟨lw_p15, fun _ h => absurd h List.not_mem_nil⟩⟩⟩⟩⟩⟩⟩⟩⟩⟩⟩⟩⟩⟩⟩⟩
theorem lw_p16 : lw_okq (⟨"PickedForms$BitRow", "encodePlain", "([III)V"⟩, 2) := ⟨⟨by decide +kernel, by decide +kernel⟩, List.mem_of_getElem? (i := 230) (by decide +kernel), List.mem_of_getElem? (i := 498) (by decide +kernel), List.mem_of_getElem? (i := 499) (by decide +kernel)⟩
theorem lw_p17 : lw_okq (⟨"PickedForms", "splitPlace", "(I)I"⟩, 11) := ⟨⟨by decide +kernel, by decide +kernel⟩, List.mem_of_getElem? (i := 22) (by decide +kernel), List.mem_of_getElem? (i := 502) (by decide +kernel), List.mem_of_getElem? (i := 503) (by decide +kernel)⟩
theorem lw_p18 : lw_okq (⟨"PickedForms", "hashOfMatches", "(JII)J"⟩, 11) := ⟨⟨by decide +kernel, by decide +kernel⟩, List.mem_of_getElem? (i := 22) (by decide +kernel), List.mem_of_getElem? (i := 506) (by decide +kernel), List.mem_of_getElem? (i := 507) (by decide +kernel)⟩
theorem lw_p19 : lw_okq (⟨"PickedForms$Matching", "inForm", "(LPickedForms$Column;IIII)V"⟩, 3) := ⟨⟨by decide +kernel, by decide +kernel⟩, List.mem_of_getElem? (i := 192) (by decide +kernel), List.mem_of_getElem? (i := 516) (by decide +kernel), List.mem_of_getElem? (i := 517) (by decide +kernel)⟩
theorem lw_p20 : lw_okq (⟨"PickedForms$Matching", "byRuns", "([IIIII)V"⟩, 3) := ⟨⟨by decide +kernel, by decide +kernel⟩, List.mem_of_getElem? (i := 192) (by decide +kernel), List.mem_of_getElem? (i := 521) (by decide +kernel), List.mem_of_getElem? (i := 522) (by decide +kernel)⟩
theorem lw_p21 : lw_okq (⟨"PickedForms$Matching", "byRanks", "([IIIII)V"⟩, 3) := ⟨⟨by decide +kernel, by decide +kernel⟩, List.mem_of_getElem? (i := 192) (by decide +kernel), List.mem_of_getElem? (i := 529) (by decide +kernel), List.mem_of_getElem? (i := 530) (by decide +kernel)⟩
theorem lw_p22 : lw_okq (⟨"PickedForms$Matching", "byValues", "([IIIII)V"⟩, 3) := ⟨⟨by decide +kernel, by decide +kernel⟩, List.mem_of_getElem? (i := 192) (by decide +kernel), List.mem_of_getElem? (i := 534) (by decide +kernel), List.mem_of_getElem? (i := 535) (by decide +kernel)⟩
theorem lw_p23 : lw_okq (⟨"PickedForms", "hashOfParting", "(J)J"⟩, 11) := ⟨⟨by decide +kernel, by decide +kernel⟩, List.mem_of_getElem? (i := 22) (by decide +kernel), List.mem_of_getElem? (i := 546) (by decide +kernel), List.mem_of_getElem? (i := 547) (by decide +kernel)⟩
theorem lw_p24 : lw_okq (⟨"PickedForms$Parting", "forget", "(II)V"⟩, 3) := ⟨⟨by decide +kernel, by decide +kernel⟩, List.mem_of_getElem? (i := 212) (by decide +kernel), List.mem_of_getElem? (i := 555) (by decide +kernel), List.mem_of_getElem? (i := 556) (by decide +kernel)⟩
theorem lw_p25 : lw_okq (⟨"PickedForms$Parting", "blockBits", "(I)I"⟩, 3) := ⟨⟨by decide +kernel, by decide +kernel⟩, List.mem_of_getElem? (i := 212) (by decide +kernel), List.mem_of_getElem? (i := 565) (by decide +kernel), List.mem_of_getElem? (i := 566) (by decide +kernel)⟩
theorem lw_p26 : lw_okq (⟨"PickedForms$Parting", "offer", "(III)V"⟩, 3) := ⟨⟨by decide +kernel, by decide +kernel⟩, List.mem_of_getElem? (i := 212) (by decide +kernel), List.mem_of_getElem? (i := 571) (by decide +kernel), List.mem_of_getElem? (i := 572) (by decide +kernel)⟩
theorem lw_p27 : lw_okq (⟨"java/lang/Throwable", "fillInStackTrace", "(I)Ljava/lang/Throwable;"⟩, 6) := ⟨⟨by decide +kernel, by decide +kernel⟩, List.mem_of_getElem? (i := 649) (by decide +kernel), List.mem_of_getElem? (i := 647) (by decide +kernel), List.mem_of_getElem? (i := 648) (by decide +kernel)⟩
theorem lw_p28 : lw_okq (⟨"PickedForms$History", "slotAt", "(I)LPickedForms$Column;"⟩, 3) := ⟨⟨by decide +kernel, by decide +kernel⟩, List.mem_of_getElem? (i := 80) (by decide +kernel), List.mem_of_getElem? (i := 705) (by decide +kernel), List.mem_of_getElem? (i := 706) (by decide +kernel)⟩
theorem lw_p29 : lw_okq (⟨"PickedForms", "takeValue", "(I)V"⟩, 11) := ⟨⟨by decide +kernel, by decide +kernel⟩, List.mem_of_getElem? (i := 22) (by decide +kernel), List.mem_of_getElem? (i := 710) (by decide +kernel), List.mem_of_getElem? (i := 711) (by decide +kernel)⟩
theorem lw_p30 : lw_okq (⟨"PickedForms", "writeAnew", "(I)V"⟩, 11) := ⟨⟨by decide +kernel, by decide +kernel⟩, List.mem_of_getElem? (i := 22) (by decide +kernel), List.mem_of_getElem? (i := 720) (by decide +kernel), List.mem_of_getElem? (i := 721) (by decide +kernel)⟩
theorem lw_p31 : lw_okq (⟨"PickedForms", "outcomeOf", "(II)I"⟩, 11) := ⟨⟨by decide +kernel, by decide +kernel⟩, List.mem_of_getElem? (i := 22) (by decide +kernel), List.mem_of_getElem? (i := 760) (by decide +kernel), List.mem_of_getElem? (i := 761) (by decide +kernel)⟩
def lw_privs_2 : List (MethodName × Nat) := [(⟨"PickedForms$BitRow", "encodePlain", "([III)V"⟩, 2), (⟨"PickedForms", "splitPlace", "(I)I"⟩, 11), (⟨"PickedForms", "hashOfMatches", "(JII)J"⟩, 11), (⟨"PickedForms$Matching", "inForm", "(LPickedForms$Column;IIII)V"⟩, 3), (⟨"PickedForms$Matching", "byRuns", "([IIIII)V"⟩, 3), (⟨"PickedForms$Matching", "byRanks", "([IIIII)V"⟩, 3), (⟨"PickedForms$Matching", "byValues", "([IIIII)V"⟩, 3), (⟨"PickedForms", "hashOfParting", "(J)J"⟩, 11), (⟨"PickedForms$Parting", "forget", "(II)V"⟩, 3), (⟨"PickedForms$Parting", "blockBits", "(I)I"⟩, 3), (⟨"PickedForms$Parting", "offer", "(III)V"⟩, 3), (⟨"java/lang/Throwable", "fillInStackTrace", "(I)Ljava/lang/Throwable;"⟩, 6), (⟨"PickedForms$History", "slotAt", "(I)LPickedForms$Column;"⟩, 3), (⟨"PickedForms", "takeValue", "(I)V"⟩, 11), (⟨"PickedForms", "writeAnew", "(I)V"⟩, 11), (⟨"PickedForms", "outcomeOf", "(II)I"⟩, 11)]
theorem lw_r2 : ∀ q ∈ lw_privs_2, lw_okq q := List.forall_mem_cons.mpr ⟨lw_p16, List.forall_mem_cons.mpr ⟨lw_p17, List.forall_mem_cons.mpr ⟨lw_p18, List.forall_mem_cons.mpr ⟨lw_p19, List.forall_mem_cons.mpr ⟨lw_p20, List.forall_mem_cons.mpr ⟨lw_p21, List.forall_mem_cons.mpr ⟨lw_p22, List.forall_mem_cons.mpr ⟨lw_p23, List.forall_mem_cons.mpr ⟨lw_p24, List.forall_mem_cons.mpr ⟨lw_p25, List.forall_mem_cons.mpr ⟨lw_p26, List.forall_mem_cons.mpr ⟨lw_p27, List.forall_mem_cons.mpr ⟨lw_p28, List.forall_mem_cons.mpr ⟨lw_p29, List.forall_mem_cons.mpr ⟨lw_p30, List.forall_mem_cons.mpr ⟨lw_p31, fun _ h => absurd h List.not_mem_nil⟩⟩⟩⟩⟩⟩⟩⟩⟩⟩⟩⟩⟩⟩⟩⟩
theorem lw_p32 : lw_okq (⟨"PickedForms$Column", "moveSlot", "(II)V"⟩, 9) := ⟨⟨by decide +kernel, by decide +kernel⟩, List.mem_of_getElem? (i := 30) (by decide +kernel), List.mem_of_getElem? (i := 789) (by decide +kernel), List.mem_of_getElem? (i := 790) (by decide +kernel)⟩
theorem lw_p33 : lw_okq (⟨"PickedForms$Text", "addPart", "(II)V"⟩, 5) := ⟨⟨by decide +kernel, by decide +kernel⟩, List.mem_of_getElem? (i := 100) (by decide +kernel), List.mem_of_getElem? (i := 862) (by decide +kernel), List.mem_of_getElem? (i := 863) (by decide +kernel)⟩
theorem lw_p34 : lw_okq (⟨"PickedForms", "matchNumber", "(III)I"⟩, 11) := ⟨⟨by decide +kernel, by decide +kernel⟩, List.mem_of_getElem? (i := 22) (by decide +kernel), List.mem_of_getElem? (i := 941) (by decide +kernel), List.mem_of_getElem? (i := 942) (by decide +kernel)⟩
theorem lw_p35 : lw_okq (⟨"PickedForms", "trialGrowth", "(I)I"⟩, 11) := ⟨⟨by decide +kernel, by decide +kernel⟩, List.mem_of_getElem? (i := 22) (by decide +kernel), List.mem_of_getElem? (i := 953) (by decide +kernel), List.mem_of_getElem? (i := 954) (by decide +kernel)⟩
theorem lw_p36 : lw_okq (⟨"PickedFormsModel", "canWrite", "()Z"⟩, 18) := ⟨⟨by decide +kernel, by decide +kernel⟩, List.mem_of_getElem? (i := 972) (by decide +kernel), List.mem_of_getElem? (i := 1047) (by decide +kernel), List.mem_of_getElem? (i := 1048) (by decide +kernel)⟩
theorem lw_p37 : lw_okq (⟨"PickedFormsModel", "holds", "(I)Z"⟩, 18) := ⟨⟨by decide +kernel, by decide +kernel⟩, List.mem_of_getElem? (i := 972) (by decide +kernel), List.mem_of_getElem? (i := 1051) (by decide +kernel), List.mem_of_getElem? (i := 1052) (by decide +kernel)⟩
theorem lw_p38 : lw_okq (⟨"PickedFormsModel", "save", "()V"⟩, 18) := ⟨⟨by decide +kernel, by decide +kernel⟩, List.mem_of_getElem? (i := 972) (by decide +kernel), List.mem_of_getElem? (i := 1055) (by decide +kernel), List.mem_of_getElem? (i := 1056) (by decide +kernel)⟩
theorem lw_p39 : lw_okq (⟨"PickedFormsModel", "put", "(I)V"⟩, 18) := ⟨⟨by decide +kernel, by decide +kernel⟩, List.mem_of_getElem? (i := 972) (by decide +kernel), List.mem_of_getElem? (i := 1062) (by decide +kernel), List.mem_of_getElem? (i := 1063) (by decide +kernel)⟩
theorem lw_p40 : lw_okq (⟨"PickedFormsModel", "values", "()I"⟩, 18) := ⟨⟨by decide +kernel, by decide +kernel⟩, List.mem_of_getElem? (i := 972) (by decide +kernel), List.mem_of_getElem? (i := 1066) (by decide +kernel), List.mem_of_getElem? (i := 1067) (by decide +kernel)⟩
theorem lw_p41 : lw_okq (⟨"PickedFormsModel", "start", "(I)I"⟩, 18) := ⟨⟨by decide +kernel, by decide +kernel⟩, List.mem_of_getElem? (i := 972) (by decide +kernel), List.mem_of_getElem? (i := 1070) (by decide +kernel), List.mem_of_getElem? (i := 1071) (by decide +kernel)⟩
theorem lw_p42 : lw_okq (⟨"PickedFormsModel", "closeTail", "()V"⟩, 18) := ⟨⟨by decide +kernel, by decide +kernel⟩, List.mem_of_getElem? (i := 972) (by decide +kernel), List.mem_of_getElem? (i := 1074) (by decide +kernel), List.mem_of_getElem? (i := 1075) (by decide +kernel)⟩
theorem lw_p43 : lw_okq (⟨"PickedFormsModel", "writeAnew", "(I)V"⟩, 18) := ⟨⟨by decide +kernel, by decide +kernel⟩, List.mem_of_getElem? (i := 972) (by decide +kernel), List.mem_of_getElem? (i := 1078) (by decide +kernel), List.mem_of_getElem? (i := 1079) (by decide +kernel)⟩
theorem lw_p44 : lw_okq (⟨"PickedFormsModel", "picked", "(II)I"⟩, 18) := ⟨⟨by decide +kernel, by decide +kernel⟩, List.mem_of_getElem? (i := 972) (by decide +kernel), List.mem_of_getElem? (i := 1082) (by decide +kernel), List.mem_of_getElem? (i := 1083) (by decide +kernel)⟩
theorem lw_p45 : lw_okq (⟨"PickedFormsModel", "lightest", "(II)I"⟩, 18) := ⟨⟨by decide +kernel, by decide +kernel⟩, List.mem_of_getElem? (i := 972) (by decide +kernel), List.mem_of_getElem? (i := 1086) (by decide +kernel), List.mem_of_getElem? (i := 1087) (by decide +kernel)⟩
theorem lw_p46 : lw_okq (⟨"PickedFormsModel", "sizeOf", "(III)I"⟩, 18) := ⟨⟨by decide +kernel, by decide +kernel⟩, List.mem_of_getElem? (i := 972) (by decide +kernel), List.mem_of_getElem? (i := 1090) (by decide +kernel), List.mem_of_getElem? (i := 1091) (by decide +kernel)⟩
theorem lw_p47 : lw_okq (⟨"PickedFormsModel", "greatestOf", "(II)I"⟩, 18) := ⟨⟨by decide +kernel, by decide +kernel⟩, List.mem_of_getElem? (i := 972) (by decide +kernel), List.mem_of_getElem? (i := 1094) (by decide +kernel), List.mem_of_getElem? (i := 1095) (by decide +kernel)⟩
def lw_privs_3 : List (MethodName × Nat) := [(⟨"PickedForms$Column", "moveSlot", "(II)V"⟩, 9), (⟨"PickedForms$Text", "addPart", "(II)V"⟩, 5), (⟨"PickedForms", "matchNumber", "(III)I"⟩, 11), (⟨"PickedForms", "trialGrowth", "(I)I"⟩, 11), (⟨"PickedFormsModel", "canWrite", "()Z"⟩, 18), (⟨"PickedFormsModel", "holds", "(I)Z"⟩, 18), (⟨"PickedFormsModel", "save", "()V"⟩, 18), (⟨"PickedFormsModel", "put", "(I)V"⟩, 18), (⟨"PickedFormsModel", "values", "()I"⟩, 18), (⟨"PickedFormsModel", "start", "(I)I"⟩, 18), (⟨"PickedFormsModel", "closeTail", "()V"⟩, 18), (⟨"PickedFormsModel", "writeAnew", "(I)V"⟩, 18), (⟨"PickedFormsModel", "picked", "(II)I"⟩, 18), (⟨"PickedFormsModel", "lightest", "(II)I"⟩, 18), (⟨"PickedFormsModel", "sizeOf", "(III)I"⟩, 18), (⟨"PickedFormsModel", "greatestOf", "(II)I"⟩, 18)]
theorem lw_r3 : ∀ q ∈ lw_privs_3, lw_okq q := List.forall_mem_cons.mpr ⟨lw_p32, List.forall_mem_cons.mpr ⟨lw_p33, List.forall_mem_cons.mpr ⟨lw_p34, List.forall_mem_cons.mpr ⟨lw_p35, List.forall_mem_cons.mpr ⟨lw_p36, List.forall_mem_cons.mpr ⟨lw_p37, List.forall_mem_cons.mpr ⟨lw_p38, List.forall_mem_cons.mpr ⟨lw_p39, List.forall_mem_cons.mpr ⟨lw_p40, List.forall_mem_cons.mpr ⟨lw_p41, List.forall_mem_cons.mpr ⟨lw_p42, List.forall_mem_cons.mpr ⟨lw_p43, List.forall_mem_cons.mpr ⟨lw_p44, List.forall_mem_cons.mpr ⟨lw_p45, List.forall_mem_cons.mpr ⟨lw_p46, List.forall_mem_cons.mpr ⟨lw_p47, fun _ h => absurd h List.not_mem_nil⟩⟩⟩⟩⟩⟩⟩⟩⟩⟩⟩⟩⟩⟩⟩⟩
theorem lw_p48 : lw_okq (⟨"PickedFormsModel", "leastOf", "(II)I"⟩, 18) := ⟨⟨by decide +kernel, by decide +kernel⟩, List.mem_of_getElem? (i := 972) (by decide +kernel), List.mem_of_getElem? (i := 1098) (by decide +kernel), List.mem_of_getElem? (i := 1099) (by decide +kernel)⟩
theorem lw_p49 : lw_okq (⟨"PickedFormsModel", "runsOf", "(II)I"⟩, 18) := ⟨⟨by decide +kernel, by decide +kernel⟩, List.mem_of_getElem? (i := 972) (by decide +kernel), List.mem_of_getElem? (i := 1105) (by decide +kernel), List.mem_of_getElem? (i := 1106) (by decide +kernel)⟩
theorem lw_p50 : lw_okq (⟨"PickedFormsModel", "greatestStep", "(II)I"⟩, 18) := ⟨⟨by decide +kernel, by decide +kernel⟩, List.mem_of_getElem? (i := 972) (by decide +kernel), List.mem_of_getElem? (i := 1109) (by decide +kernel), List.mem_of_getElem? (i := 1110) (by decide +kernel)⟩
theorem lw_p51 : lw_okq (⟨"PickedFormsModel", "step", "(I)I"⟩, 18) := ⟨⟨by decide +kernel, by decide +kernel⟩, List.mem_of_getElem? (i := 972) (by decide +kernel), List.mem_of_getElem? (i := 1113) (by decide +kernel), List.mem_of_getElem? (i := 1114) (by decide +kernel)⟩
theorem lw_p52 : lw_okq (⟨"PickedFormsModel", "unlikeOf", "(II)I"⟩, 18) := ⟨⟨by decide +kernel, by decide +kernel⟩, List.mem_of_getElem? (i := 972) (by decide +kernel), List.mem_of_getElem? (i := 1117) (by decide +kernel), List.mem_of_getElem? (i := 1118) (by decide +kernel)⟩
theorem lw_p53 : lw_okq (⟨"PickedFormsModel", "isFirst", "(II)Z"⟩, 18) := ⟨⟨by decide +kernel, by decide +kernel⟩, List.mem_of_getElem? (i := 972) (by decide +kernel), List.mem_of_getElem? (i := 1121) (by decide +kernel), List.mem_of_getElem? (i := 1122) (by decide +kernel)⟩
theorem lw_p54 : lw_okq (⟨"PickedFormsModel", "bitsOf", "(I)I"⟩, 18) := ⟨⟨by decide +kernel, by decide +kernel⟩, List.mem_of_getElem? (i := 972) (by decide +kernel), List.mem_of_getElem? (i := 1125) (by decide +kernel), List.mem_of_getElem? (i := 1126) (by decide +kernel)⟩
theorem lw_p55 : lw_okq (⟨"PickedFormsModel", "replace", "(II)I"⟩, 18) := ⟨⟨by decide +kernel, by decide +kernel⟩, List.mem_of_getElem? (i := 972) (by decide +kernel), List.mem_of_getElem? (i := 1137) (by decide +kernel), List.mem_of_getElem? (i := 1138) (by decide +kernel)⟩
theorem lw_p56 : lw_okq (⟨"PickedFormsModel", "blockOf", "(I)I"⟩, 18) := ⟨⟨by decide +kernel, by decide +kernel⟩, List.mem_of_getElem? (i := 972) (by decide +kernel), List.mem_of_getElem? (i := 1141) (by decide +kernel), List.mem_of_getElem? (i := 1142) (by decide +kernel)⟩
theorem lw_p57 : lw_okq (⟨"PickedFormsModel", "isBlock", "(I)Z"⟩, 18) := ⟨⟨by decide +kernel, by decide +kernel⟩, List.mem_of_getElem? (i := 972) (by decide +kernel), List.mem_of_getElem? (i := 1149) (by decide +kernel), List.mem_of_getElem? (i := 1150) (by decide +kernel)⟩
theorem lw_p58 : lw_okq (⟨"PickedFormsModel", "takeOut", "(I)V"⟩, 18) := ⟨⟨by decide +kernel, by decide +kernel⟩, List.mem_of_getElem? (i := 972) (by decide +kernel), List.mem_of_getElem? (i := 1157) (by decide +kernel), List.mem_of_getElem? (i := 1158) (by decide +kernel)⟩
theorem lw_p59 : lw_okq (⟨"PickedFormsModel", "gain", "(II)I"⟩, 18) := ⟨⟨by decide +kernel, by decide +kernel⟩, List.mem_of_getElem? (i := 972) (by decide +kernel), List.mem_of_getElem? (i := 1165) (by decide +kernel), List.mem_of_getElem? (i := 1166) (by decide +kernel)⟩
theorem lw_p60 : lw_okq (⟨"PickedFormsModel", "roomFor", "(II)I"⟩, 18) := ⟨⟨by decide +kernel, by decide +kernel⟩, List.mem_of_getElem? (i := 972) (by decide +kernel), List.mem_of_getElem? (i := 1169) (by decide +kernel), List.mem_of_getElem? (i := 1170) (by decide +kernel)⟩
theorem lw_p61 : lw_okq (⟨"PickedFormsModel", "makePlace", "(I)V"⟩, 18) := ⟨⟨by decide +kernel, by decide +kernel⟩, List.mem_of_getElem? (i := 972) (by decide +kernel), List.mem_of_getElem? (i := 1173) (by decide +kernel), List.mem_of_getElem? (i := 1174) (by decide +kernel)⟩
theorem lw_p62 : lw_okq (⟨"PickedFormsModel", "readText", "(Z)Z"⟩, 18) := ⟨⟨by decide +kernel, by decide +kernel⟩, List.mem_of_getElem? (i := 972) (by decide +kernel), List.mem_of_getElem? (i := 1197) (by decide +kernel), List.mem_of_getElem? (i := 1198) (by decide +kernel)⟩
theorem lw_p63 : lw_okq (⟨"PickedFormsModel", "readPart", "()Z"⟩, 18) := ⟨⟨by decide +kernel, by decide +kernel⟩, List.mem_of_getElem? (i := 972) (by decide +kernel), List.mem_of_getElem? (i := 1201) (by decide +kernel), List.mem_of_getElem? (i := 1202) (by decide +kernel)⟩
def lw_privs_4 : List (MethodName × Nat) := [(⟨"PickedFormsModel", "leastOf", "(II)I"⟩, 18), (⟨"PickedFormsModel", "runsOf", "(II)I"⟩, 18), (⟨"PickedFormsModel", "greatestStep", "(II)I"⟩, 18), (⟨"PickedFormsModel", "step", "(I)I"⟩, 18), (⟨"PickedFormsModel", "unlikeOf", "(II)I"⟩, 18), (⟨"PickedFormsModel", "isFirst", "(II)Z"⟩, 18), (⟨"PickedFormsModel", "bitsOf", "(I)I"⟩, 18), (⟨"PickedFormsModel", "replace", "(II)I"⟩, 18), (⟨"PickedFormsModel", "blockOf", "(I)I"⟩, 18), (⟨"PickedFormsModel", "isBlock", "(I)Z"⟩, 18), (⟨"PickedFormsModel", "takeOut", "(I)V"⟩, 18), (⟨"PickedFormsModel", "gain", "(II)I"⟩, 18), (⟨"PickedFormsModel", "roomFor", "(II)I"⟩, 18), (⟨"PickedFormsModel", "makePlace", "(I)V"⟩, 18), (⟨"PickedFormsModel", "readText", "(Z)Z"⟩, 18), (⟨"PickedFormsModel", "readPart", "()Z"⟩, 18)]
theorem lw_r4 : ∀ q ∈ lw_privs_4, lw_okq q := List.forall_mem_cons.mpr ⟨lw_p48, List.forall_mem_cons.mpr ⟨lw_p49, List.forall_mem_cons.mpr ⟨lw_p50, List.forall_mem_cons.mpr ⟨lw_p51, List.forall_mem_cons.mpr ⟨lw_p52, List.forall_mem_cons.mpr ⟨lw_p53, List.forall_mem_cons.mpr ⟨lw_p54, List.forall_mem_cons.mpr ⟨lw_p55, List.forall_mem_cons.mpr ⟨lw_p56, List.forall_mem_cons.mpr ⟨lw_p57, List.forall_mem_cons.mpr ⟨lw_p58, List.forall_mem_cons.mpr ⟨lw_p59, List.forall_mem_cons.mpr ⟨lw_p60, List.forall_mem_cons.mpr ⟨lw_p61, List.forall_mem_cons.mpr ⟨lw_p62, List.forall_mem_cons.mpr ⟨lw_p63, fun _ h => absurd h List.not_mem_nil⟩⟩⟩⟩⟩⟩⟩⟩⟩⟩⟩⟩⟩⟩⟩⟩
theorem lw_p64 : lw_okq (⟨"PickedFormsModel", "readValue", "()Z"⟩, 18) := ⟨⟨by decide +kernel, by decide +kernel⟩, List.mem_of_getElem? (i := 972) (by decide +kernel), List.mem_of_getElem? (i := 1205) (by decide +kernel), List.mem_of_getElem? (i := 1206) (by decide +kernel)⟩
theorem lw_p65 : lw_okq (⟨"PickedFormsModel", "isNext", "(II)Z"⟩, 18) := ⟨⟨by decide +kernel, by decide +kernel⟩, List.mem_of_getElem? (i := 972) (by decide +kernel), List.mem_of_getElem? (i := 1209) (by decide +kernel), List.mem_of_getElem? (i := 1210) (by decide +kernel)⟩
theorem lw_p66 : lw_okq (⟨"PickedFormsModel", "takes", "(I)Z"⟩, 18) := ⟨⟨by decide +kernel, by decide +kernel⟩, List.mem_of_getElem? (i := 972) (by decide +kernel), List.mem_of_getElem? (i := 1213) (by decide +kernel), List.mem_of_getElem? (i := 1214) (by decide +kernel)⟩
theorem lw_p67 : lw_okq (⟨"PickedFormsModel", "readTimes", "()Z"⟩, 18) := ⟨⟨by decide +kernel, by decide +kernel⟩, List.mem_of_getElem? (i := 972) (by decide +kernel), List.mem_of_getElem? (i := 1217) (by decide +kernel), List.mem_of_getElem? (i := 1218) (by decide +kernel)⟩
theorem lw_p68 : lw_okq (⟨"PickedFormsModel", "putAll", "()Z"⟩, 18) := ⟨⟨by decide +kernel, by decide +kernel⟩, List.mem_of_getElem? (i := 972) (by decide +kernel), List.mem_of_getElem? (i := 1221) (by decide +kernel), List.mem_of_getElem? (i := 1222) (by decide +kernel)⟩
theorem lw_p69 : lw_okq (⟨"PickedFormsModel", "valueTold", "(II)I"⟩, 18) := ⟨⟨by decide +kernel, by decide +kernel⟩, List.mem_of_getElem? (i := 972) (by decide +kernel), List.mem_of_getElem? (i := 1245) (by decide +kernel), List.mem_of_getElem? (i := 1246) (by decide +kernel)⟩
theorem lw_p70 : lw_okq (⟨"PickedFormsModel", "looksFor", "(I)I"⟩, 18) := ⟨⟨by decide +kernel, by decide +kernel⟩, List.mem_of_getElem? (i := 972) (by decide +kernel), List.mem_of_getElem? (i := 1249) (by decide +kernel), List.mem_of_getElem? (i := 1250) (by decide +kernel)⟩
theorem lw_p71 : lw_okq (⟨"PickedFormsModel", "blockTold", "(II)I"⟩, 18) := ⟨⟨by decide +kernel, by decide +kernel⟩, List.mem_of_getElem? (i := 972) (by decide +kernel), List.mem_of_getElem? (i := 1257) (by decide +kernel), List.mem_of_getElem? (i := 1258) (by decide +kernel)⟩
theorem lw_p72 : lw_okq (⟨"PickedFormsModel", "layBlock", "(I)V"⟩, 18) := ⟨⟨by decide +kernel, by decide +kernel⟩, List.mem_of_getElem? (i := 972) (by decide +kernel), List.mem_of_getElem? (i := 1269) (by decide +kernel), List.mem_of_getElem? (i := 1270) (by decide +kernel)⟩
theorem lw_p73 : lw_okq (⟨"PickedFormsModel", "layRuns", "(II)V"⟩, 18) := ⟨⟨by decide +kernel, by decide +kernel⟩, List.mem_of_getElem? (i := 972) (by decide +kernel), List.mem_of_getElem? (i := 1273) (by decide +kernel), List.mem_of_getElem? (i := 1274) (by decide +kernel)⟩
theorem lw_p74 : lw_okq (⟨"PickedFormsModel", "lay", "(II)V"⟩, 18) := ⟨⟨by decide +kernel, by decide +kernel⟩, List.mem_of_getElem? (i := 972) (by decide +kernel), List.mem_of_getElem? (i := 1277) (by decide +kernel), List.mem_of_getElem? (i := 1278) (by decide +kernel)⟩
theorem lw_p75 : lw_okq (⟨"PickedFormsModel", "layList", "(II)V"⟩, 18) := ⟨⟨by decide +kernel, by decide +kernel⟩, List.mem_of_getElem? (i := 972) (by decide +kernel), List.mem_of_getElem? (i := 1281) (by decide +kernel), List.mem_of_getElem? (i := 1282) (by decide +kernel)⟩
theorem lw_p76 : lw_okq (⟨"PickedFormsModel", "rankOf", "(III)I"⟩, 18) := ⟨⟨by decide +kernel, by decide +kernel⟩, List.mem_of_getElem? (i := 972) (by decide +kernel), List.mem_of_getElem? (i := 1285) (by decide +kernel), List.mem_of_getElem? (i := 1286) (by decide +kernel)⟩
theorem lw_p77 : lw_okq (⟨"PickedFormsModel", "countTold", "(I)I"⟩, 18) := ⟨⟨by decide +kernel, by decide +kernel⟩, List.mem_of_getElem? (i := 972) (by decide +kernel), List.mem_of_getElem? (i := 1293) (by decide +kernel), List.mem_of_getElem? (i := 1294) (by decide +kernel)⟩
theorem lw_p78 : lw_okq (⟨"PickedFormsModel", "allBits", "()I"⟩, 18) := ⟨⟨by decide +kernel, by decide +kernel⟩, List.mem_of_getElem? (i := 972) (by decide +kernel), List.mem_of_getElem? (i := 1297) (by decide +kernel), List.mem_of_getElem? (i := 1298) (by decide +kernel)⟩
theorem lw_p79 : lw_okq (⟨"PickedFormsModel", "unused", "()I"⟩, 18) := ⟨⟨by decide +kernel, by decide +kernel⟩, List.mem_of_getElem? (i := 972) (by decide +kernel), List.mem_of_getElem? (i := 1301) (by decide +kernel), List.mem_of_getElem? (i := 1302) (by decide +kernel)⟩
def lw_privs_5 : List (MethodName × Nat) := [(⟨"PickedFormsModel", "readValue", "()Z"⟩, 18), (⟨"PickedFormsModel", "isNext", "(II)Z"⟩, 18), (⟨"PickedFormsModel", "takes", "(I)Z"⟩, 18), (⟨"PickedFormsModel", "readTimes", "()Z"⟩, 18), (⟨"PickedFormsModel", "putAll", "()Z"⟩, 18), (⟨"PickedFormsModel", "valueTold", "(II)I"⟩, 18), (⟨"PickedFormsModel", "looksFor", "(I)I"⟩, 18), (⟨"PickedFormsModel", "blockTold", "(II)I"⟩, 18), (⟨"PickedFormsModel", "layBlock", "(I)V"⟩, 18), (⟨"PickedFormsModel", "layRuns", "(II)V"⟩, 18), (⟨"PickedFormsModel", "lay", "(II)V"⟩, 18), (⟨"PickedFormsModel", "layList", "(II)V"⟩, 18), (⟨"PickedFormsModel", "rankOf", "(III)I"⟩, 18), (⟨"PickedFormsModel", "countTold", "(I)I"⟩, 18), (⟨"PickedFormsModel", "allBits", "()I"⟩, 18), (⟨"PickedFormsModel", "unused", "()I"⟩, 18)]
theorem lw_r5 : ∀ q ∈ lw_privs_5, lw_okq q := List.forall_mem_cons.mpr ⟨lw_p64, List.forall_mem_cons.mpr ⟨lw_p65, List.forall_mem_cons.mpr ⟨lw_p66, List.forall_mem_cons.mpr ⟨lw_p67, List.forall_mem_cons.mpr ⟨lw_p68, List.forall_mem_cons.mpr ⟨lw_p69, List.forall_mem_cons.mpr ⟨lw_p70, List.forall_mem_cons.mpr ⟨lw_p71, List.forall_mem_cons.mpr ⟨lw_p72, List.forall_mem_cons.mpr ⟨lw_p73, List.forall_mem_cons.mpr ⟨lw_p74, List.forall_mem_cons.mpr ⟨lw_p75, List.forall_mem_cons.mpr ⟨lw_p76, List.forall_mem_cons.mpr ⟨lw_p77, List.forall_mem_cons.mpr ⟨lw_p78, List.forall_mem_cons.mpr ⟨lw_p79, fun _ h => absurd h List.not_mem_nil⟩⟩⟩⟩⟩⟩⟩⟩⟩⟩⟩⟩⟩⟩⟩⟩
theorem lw_p80 : lw_okq (⟨"PickedFormsModel", "sum", "()I"⟩, 18) := ⟨⟨by decide +kernel, by decide +kernel⟩, List.mem_of_getElem? (i := 972) (by decide +kernel), List.mem_of_getElem? (i := 1305) (by decide +kernel), List.mem_of_getElem? (i := 1306) (by decide +kernel)⟩
theorem lw_p81 : lw_okq (⟨"PickedFormsModel", "matchTold", "(III)I"⟩, 18) := ⟨⟨by decide +kernel, by decide +kernel⟩, List.mem_of_getElem? (i := 972) (by decide +kernel), List.mem_of_getElem? (i := 1317) (by decide +kernel), List.mem_of_getElem? (i := 1318) (by decide +kernel)⟩
theorem lw_p82 : lw_okq (⟨"PickedFormsModel", "looksIn", "(III)I"⟩, 18) := ⟨⟨by decide +kernel, by decide +kernel⟩, List.mem_of_getElem? (i := 972) (by decide +kernel), List.mem_of_getElem? (i := 1321) (by decide +kernel), List.mem_of_getElem? (i := 1322) (by decide +kernel)⟩
theorem lw_p83 : lw_okq (⟨"PickedFormsModel", "bestPlace", "(I)I"⟩, 18) := ⟨⟨by decide +kernel, by decide +kernel⟩, List.mem_of_getElem? (i := 972) (by decide +kernel), List.mem_of_getElem? (i := 1333) (by decide +kernel), List.mem_of_getElem? (i := 1334) (by decide +kernel)⟩
theorem lw_p84 : lw_okq (⟨"PickedFormsModel", "leastTold", "(I)I"⟩, 18) := ⟨⟨by decide +kernel, by decide +kernel⟩, List.mem_of_getElem? (i := 972) (by decide +kernel), List.mem_of_getElem? (i := 1341) (by decide +kernel), List.mem_of_getElem? (i := 1342) (by decide +kernel)⟩
theorem lw_p85 : lw_okq (⟨"PickedFormsModel", "partAll", "()V"⟩, 18) := ⟨⟨by decide +kernel, by decide +kernel⟩, List.mem_of_getElem? (i := 972) (by decide +kernel), List.mem_of_getElem? (i := 1345) (by decide +kernel), List.mem_of_getElem? (i := 1346) (by decide +kernel)⟩
theorem lw_p86 : lw_okq (⟨"PickedFormsModel", "shareTold", "()D"⟩, 18) := ⟨⟨by decide +kernel, by decide +kernel⟩, List.mem_of_getElem? (i := 972) (by decide +kernel), List.mem_of_getElem? (i := 1353) (by decide +kernel), List.mem_of_getElem? (i := 1354) (by decide +kernel)⟩
theorem lw_p87 : lw_okq (⟨"PickedFormsModel", "meanTold", "()F"⟩, 18) := ⟨⟨by decide +kernel, by decide +kernel⟩, List.mem_of_getElem? (i := 972) (by decide +kernel), List.mem_of_getElem? (i := 1361) (by decide +kernel), List.mem_of_getElem? (i := 1362) (by decide +kernel)⟩
theorem lw_p88 : lw_okq (⟨"PickedFormsModel", "mix", "(J)V"⟩, 18) := ⟨⟨by decide +kernel, by decide +kernel⟩, List.mem_of_getElem? (i := 972) (by decide +kernel), List.mem_of_getElem? (i := 1370) (by decide +kernel), List.mem_of_getElem? (i := 1371) (by decide +kernel)⟩
theorem lw_p89 : lw_okq (⟨"PickedFormsModel", "mixBlock", "(I)V"⟩, 18) := ⟨⟨by decide +kernel, by decide +kernel⟩, List.mem_of_getElem? (i := 972) (by decide +kernel), List.mem_of_getElem? (i := 1375) (by decide +kernel), List.mem_of_getElem? (i := 1376) (by decide +kernel)⟩
theorem lw_p90 : lw_okq (⟨"PickedFormsModel", "mixMatch", "(II)V"⟩, 18) := ⟨⟨by decide +kernel, by decide +kernel⟩, List.mem_of_getElem? (i := 972) (by decide +kernel), List.mem_of_getElem? (i := 1379) (by decide +kernel), List.mem_of_getElem? (i := 1380) (by decide +kernel)⟩
def lw_privs_6 : List (MethodName × Nat) := [(⟨"PickedFormsModel", "sum", "()I"⟩, 18), (⟨"PickedFormsModel", "matchTold", "(III)I"⟩, 18), (⟨"PickedFormsModel", "looksIn", "(III)I"⟩, 18), (⟨"PickedFormsModel", "bestPlace", "(I)I"⟩, 18), (⟨"PickedFormsModel", "leastTold", "(I)I"⟩, 18), (⟨"PickedFormsModel", "partAll", "()V"⟩, 18), (⟨"PickedFormsModel", "shareTold", "()D"⟩, 18), (⟨"PickedFormsModel", "meanTold", "()F"⟩, 18), (⟨"PickedFormsModel", "mix", "(J)V"⟩, 18), (⟨"PickedFormsModel", "mixBlock", "(I)V"⟩, 18), (⟨"PickedFormsModel", "mixMatch", "(II)V"⟩, 18)]
theorem lw_r6 : ∀ q ∈ lw_privs_6, lw_okq q := List.forall_mem_cons.mpr ⟨lw_p80, List.forall_mem_cons.mpr ⟨lw_p81, List.forall_mem_cons.mpr ⟨lw_p82, List.forall_mem_cons.mpr ⟨lw_p83, List.forall_mem_cons.mpr ⟨lw_p84, List.forall_mem_cons.mpr ⟨lw_p85, List.forall_mem_cons.mpr ⟨lw_p86, List.forall_mem_cons.mpr ⟨lw_p87, List.forall_mem_cons.mpr ⟨lw_p88, List.forall_mem_cons.mpr ⟨lw_p89, List.forall_mem_cons.mpr ⟨lw_p90, fun _ h => absurd h List.not_mem_nil⟩⟩⟩⟩⟩⟩⟩⟩⟩⟩⟩
def lw_privs : List (MethodName × Nat) := lw_privs_1 ++ (lw_privs_2 ++ (lw_privs_3 ++ (lw_privs_4 ++ (lw_privs_5 ++ (lw_privs_6)))))
def lw_tbl : List Cond := k2_sels lw_privs ++ tables_1
theorem lw_privs_ok : ∀ q ∈ lw_privs, lw_okq q := by
  show ∀ q ∈ lw_privs_1 ++ (lw_privs_2 ++ (lw_privs_3 ++ (lw_privs_4 ++ (lw_privs_5 ++ (lw_privs_6))))), lw_okq q
  exact List.forall_mem_append.mpr ⟨lw_r1, List.forall_mem_append.mpr ⟨lw_r2, List.forall_mem_append.mpr ⟨lw_r3, List.forall_mem_append.mpr ⟨lw_r4, List.forall_mem_append.mpr ⟨lw_r5, lw_r6⟩⟩⟩⟩⟩
/-- the streams that the claim lets the run draw from -/
abbrev lw_cs : List Choice := [Jvm.Choice.named "NaN.bits"]
theorem lw_bits : nanBits ∈ lw_cs := by first | decide | exact List.mem_cons_self | simp [lw_cs, nanBits]
-- ===== end of PART A; then your names; then what follows =====
def RX0 : String := "PickedForms$BitRow"
def TX0 : u_T := fun k => match k with
  | 0 => ("PickedForms$BitRow", "bits", "[I", true)
  | _ => ("PickedForms$BitRow", "length", "I", false)
def tyX0 : Nat → FieldType := fun k => match k with
  | 0 => .array .int
  | _ => .int
abbrev wsX00 : List Cond := u_ws RX0 TX0 2
theorem nmX0 : ∀ a, a < 2 → ∀ b, b < 2 → a ≠ b → (TX0 a).2.1 ≠ (TX0 b).2.1 := by decide +kernel
theorem tyX0_ok : ∀ k, k < 2 → parseFieldDescriptor (TX0 k).2.2.1 = some (tyX0 k) := by decide +kernel
def RX1 : String := "PickedForms$Column"
def TX1 : u_T := fun k => match k with
  | 0 => ("PickedForms$Column", "values", "[I", true)
  | 1 => ("PickedForms$Column", "lengths", "[I", true)
  | 2 => ("PickedForms$Column", "forms", "[I", true)
  | 3 => ("PickedForms$Column", "rooms", "[I", true)
  | 4 => ("PickedForms$Column", "settings", "[I", true)
  | 5 => ("PickedForms$Column", "total", "I", false)
  | 6 => ("PickedForms$Column", "blocks", "I", false)
  | 7 => ("PickedForms$Column", "changedInPlace", "I", false)
  | _ => ("PickedForms$Column", "writtenAnew", "I", false)
def tyX1 : Nat → FieldType := fun k => match k with
  | 0 => .array .int
  | 1 => .array .int
  | 2 => .array .int
  | 3 => .array .int
  | 4 => .array .int
  | 5 => .int
  | 6 => .int
  | 7 => .int
  | _ => .int
abbrev wsX10 : List Cond := u_ws RX1 TX1 9
theorem nmX1 : ∀ a, a < 9 → ∀ b, b < 9 → a ≠ b → (TX1 a).2.1 ≠ (TX1 b).2.1 := by decide +kernel
theorem tyX1_ok : ∀ k, k < 9 → parseFieldDescriptor (TX1 k).2.2.1 = some (tyX1 k) := by decide +kernel
def RX2 : String := "PickedForms$Floats"
def TX2 : u_T := fun k => match k with
  | _ => ("", "", "", false)
def tyX2 : Nat → FieldType := fun k => match k with
  | _ => .int
abbrev wsX20 : List Cond := u_ws RX2 TX2 0
theorem nmX2 : ∀ a, a < 0 → ∀ b, b < 0 → a ≠ b → (TX2 a).2.1 ≠ (TX2 b).2.1 := by decide +kernel
theorem tyX2_ok : ∀ k, k < 0 → parseFieldDescriptor (TX2 k).2.2.1 = some (tyX2 k) := by decide +kernel
def RX3 : String := "PickedForms$History"
def TX3 : u_T := fun k => match k with
  | 0 => ("PickedForms$History", "ring", "[LPickedForms$Column;", true)
  | 1 => ("PickedForms$History", "oldest", "I", false)
  | _ => ("PickedForms$History", "held", "I", false)
def tyX3 : Nat → FieldType := fun k => match k with
  | 0 => .array (.object "PickedForms$Column")
  | 1 => .int
  | _ => .int
abbrev wsX30 : List Cond := u_ws RX3 TX3 3
theorem nmX3 : ∀ a, a < 3 → ∀ b, b < 3 → a ≠ b → (TX3 a).2.1 ≠ (TX3 b).2.1 := by decide +kernel
theorem tyX3_ok : ∀ k, k < 3 → parseFieldDescriptor (TX3 k).2.2.1 = some (tyX3 k) := by decide +kernel
def RX4 : String := "PickedForms$Matching"
def TX4 : u_T := fun k => match k with
  | 0 => ("PickedForms$Matching", "shape", "LPickedForms$Shape;", true)
  | 1 => ("PickedForms$Matching", "hits", "I", false)
  | _ => ("PickedForms$Matching", "looks", "I", false)
def tyX4 : Nat → FieldType := fun k => match k with
  | 0 => .object "PickedForms$Shape"
  | 1 => .int
  | _ => .int
abbrev wsX40 : List Cond := u_ws RX4 TX4 3
theorem nmX4 : ∀ a, a < 3 → ∀ b, b < 3 → a ≠ b → (TX4 a).2.1 ≠ (TX4 b).2.1 := by decide +kernel
theorem tyX4_ok : ∀ k, k < 3 → parseFieldDescriptor (TX4 k).2.2.1 = some (tyX4 k) := by decide +kernel
def RX5 : String := "PickedForms$Parting"
def TX5 : u_T := fun k => match k with
  | 0 => ("PickedForms$Parting", "shape", "LPickedForms$Shape;", true)
  | 1 => ("PickedForms$Parting", "bits", "[I", true)
  | _ => ("PickedForms$Parting", "blocks", "[I", true)
def tyX5 : Nat → FieldType := fun k => match k with
  | 0 => .object "PickedForms$Shape"
  | 1 => .array .int
  | _ => .array .int
abbrev wsX50 : List Cond := u_ws RX5 TX5 3
theorem nmX5 : ∀ a, a < 3 → ∀ b, b < 3 → a ≠ b → (TX5 a).2.1 ≠ (TX5 b).2.1 := by decide +kernel
theorem tyX5_ok : ∀ k, k < 3 → parseFieldDescriptor (TX5 k).2.2.1 = some (tyX5 k) := by decide +kernel
def RX6 : String := "PickedForms$Pick"
def TX6 : u_T := fun k => match k with
  | 0 => ("PickedForms$Pick", "shape", "LPickedForms$Shape;", true)
  | 1 => ("PickedForms$Pick", "form", "I", false)
  | _ => ("PickedForms$Pick", "room", "I", false)
def tyX6 : Nat → FieldType := fun k => match k with
  | 0 => .object "PickedForms$Shape"
  | 1 => .int
  | _ => .int
abbrev wsX60 : List Cond := u_ws RX6 TX6 3
theorem nmX6 : ∀ a, a < 3 → ∀ b, b < 3 → a ≠ b → (TX6 a).2.1 ≠ (TX6 b).2.1 := by decide +kernel
theorem tyX6_ok : ∀ k, k < 3 → parseFieldDescriptor (TX6 k).2.2.1 = some (tyX6 k) := by decide +kernel
def RX7 : String := "PickedForms$Rows"
def TX7 : u_T := fun k => match k with
  | _ => ("", "", "", false)
def tyX7 : Nat → FieldType := fun k => match k with
  | _ => .int
abbrev wsX70 : List Cond := u_ws RX7 TX7 0
theorem nmX7 : ∀ a, a < 0 → ∀ b, b < 0 → a ≠ b → (TX7 a).2.1 ≠ (TX7 b).2.1 := by decide +kernel
theorem tyX7_ok : ∀ k, k < 0 → parseFieldDescriptor (TX7 k).2.2.1 = some (tyX7 k) := by decide +kernel
def RX8 : String := "PickedForms$Shape"
def TX8 : u_T := fun k => match k with
  | 0 => ("PickedForms$Shape", "unlike", "[I", true)
  | 1 => ("PickedForms$Shape", "unlikes", "I", false)
  | 2 => ("PickedForms$Shape", "count", "I", false)
  | 3 => ("PickedForms$Shape", "least", "I", false)
  | 4 => ("PickedForms$Shape", "greatest", "I", false)
  | 5 => ("PickedForms$Shape", "runs", "I", false)
  | 6 => ("PickedForms$Shape", "topStep", "I", false)
  | _ => ("PickedForms$Shape", "last", "I", false)
def tyX8 : Nat → FieldType := fun k => match k with
  | 0 => .array .int
  | 1 => .int
  | 2 => .int
  | 3 => .int
  | 4 => .int
  | 5 => .int
  | 6 => .int
  | _ => .int
abbrev wsX80 : List Cond := u_ws RX8 TX8 8
theorem nmX8 : ∀ a, a < 8 → ∀ b, b < 8 → a ≠ b → (TX8 a).2.1 ≠ (TX8 b).2.1 := by decide +kernel
theorem tyX8_ok : ∀ k, k < 8 → parseFieldDescriptor (TX8 k).2.2.1 = some (tyX8 k) := by decide +kernel
def RX9 : String := "PickedForms$Text"
def TX9 : u_T := fun k => match k with
  | 0 => ("PickedForms$Text", "codes", "[I", true)
  | 1 => ("PickedForms$Text", "length", "I", false)
  | 2 => ("PickedForms$Text", "partValues", "[I", true)
  | 3 => ("PickedForms$Text", "partTimes", "[I", true)
  | _ => ("PickedForms$Text", "parts", "I", false)
def tyX9 : Nat → FieldType := fun k => match k with
  | 0 => .array .int
  | 1 => .int
  | 2 => .array .int
  | 3 => .array .int
  | _ => .int
abbrev wsX90 : List Cond := u_ws RX9 TX9 5
theorem nmX9 : ∀ a, a < 5 → ∀ b, b < 5 → a ≠ b → (TX9 a).2.1 ≠ (TX9 b).2.1 := by decide +kernel
theorem tyX9_ok : ∀ k, k < 5 → parseFieldDescriptor (TX9 k).2.2.1 = some (tyX9 k) := by decide +kernel
def RX10 : String := "PickedForms"
def TX10 : u_T := fun k => match k with
  | 0 => ("PickedForms", "column", "LPickedForms$Column;", true)
  | 1 => ("PickedForms", "snapshot", "LPickedForms$Column;", true)
  | 2 => ("PickedForms", "hasSnapshot", "Z", false)
  | 3 => ("PickedForms", "history", "LPickedForms$History;", true)
  | 4 => ("PickedForms", "text", "LPickedForms$Text;", true)
  | 5 => ("PickedForms", "shape", "LPickedForms$Shape;", true)
  | 6 => ("PickedForms", "pick", "LPickedForms$Pick;", true)
  | 7 => ("PickedForms", "matching", "LPickedForms$Matching;", true)
  | 8 => ("PickedForms", "parting", "LPickedForms$Parting;", true)
  | 9 => ("PickedForms", "bitRow", "LPickedForms$BitRow;", true)
  | _ => ("PickedForms", "trial", "[I", true)
def tyX10 : Nat → FieldType := fun k => match k with
  | 0 => .object "PickedForms$Column"
  | 1 => .object "PickedForms$Column"
  | 2 => .boolean
  | 3 => .object "PickedForms$History"
  | 4 => .object "PickedForms$Text"
  | 5 => .object "PickedForms$Shape"
  | 6 => .object "PickedForms$Pick"
  | 7 => .object "PickedForms$Matching"
  | 8 => .object "PickedForms$Parting"
  | 9 => .object "PickedForms$BitRow"
  | _ => .array .int
abbrev wsX100 : List Cond := u_ws RX10 TX10 11
theorem nmX10 : ∀ a, a < 11 → ∀ b, b < 11 → a ≠ b → (TX10 a).2.1 ≠ (TX10 b).2.1 := by decide +kernel
theorem tyX10_ok : ∀ k, k < 11 → parseFieldDescriptor (TX10 k).2.2.1 = some (tyX10 k) := by decide +kernel
def RX11 : String := "PickedFormsModel"
def TX11 : u_T := fun k => match k with
  | 0 => ("PickedFormsModel", "s", "[I", true)
  | 1 => ("PickedFormsModel", "saved", "[I", true)
  | 2 => ("PickedFormsModel", "savedMany", "I", false)
  | 3 => ("PickedFormsModel", "snapshot", "[I", true)
  | 4 => ("PickedFormsModel", "isTaken", "Z", false)
  | 5 => ("PickedFormsModel", "before", "[I", true)
  | 6 => ("PickedFormsModel", "text", "[I", true)
  | 7 => ("PickedFormsModel", "length", "I", false)
  | 8 => ("PickedFormsModel", "thrown", "I", false)
  | 9 => ("PickedFormsModel", "place", "I", false)
  | 10 => ("PickedFormsModel", "one", "I", false)
  | 11 => ("PickedFormsModel", "times", "I", false)
  | 12 => ("PickedFormsModel", "written", "I", false)
  | 13 => ("PickedFormsModel", "field", "[I", true)
  | 14 => ("PickedFormsModel", "bits", "I", false)
  | 15 => ("PickedFormsModel", "fewest", "[I", true)
  | 16 => ("PickedFormsModel", "parts", "[I", true)
  | _ => ("PickedFormsModel", "hash", "J", false)
def tyX11 : Nat → FieldType := fun k => match k with
  | 0 => .array .int
  | 1 => .array .int
  | 2 => .int
  | 3 => .array .int
  | 4 => .boolean
  | 5 => .array .int
  | 6 => .array .int
  | 7 => .int
  | 8 => .int
  | 9 => .int
  | 10 => .int
  | 11 => .int
  | 12 => .int
  | 13 => .array .int
  | 14 => .int
  | 15 => .array .int
  | 16 => .array .int
  | _ => .long
abbrev wsX110 : List Cond := u_ws RX11 TX11 18
theorem nmX11 : ∀ a, a < 18 → ∀ b, b < 18 → a ≠ b → (TX11 a).2.1 ≠ (TX11 b).2.1 := by decide +kernel
theorem tyX11_ok : ∀ k, k < 18 → parseFieldDescriptor (TX11 k).2.2.1 = some (tyX11 k) := by decide +kernel
abbrev vwCl : List vw_C := [(RX0, TX0, 2), (RX1, TX1, 9), (RX3, TX3, 3), (RX4, TX4, 3), (RX5, TX5, 3), (RX6, TX6, 3), (RX8, TX8, 8), (RX9, TX9, 5), (RX10, TX10, 11), (RX11, TX11, 18)]
theorem mj_in0 : ∀ w ∈ u_ws RX0 TX0 2, w ∈ lw_tbl := by decide +kernel
theorem mj_in1 : ∀ w ∈ u_ws RX1 TX1 9, w ∈ lw_tbl := by decide +kernel
theorem mj_in2 : ∀ w ∈ u_ws RX3 TX3 3, w ∈ lw_tbl := by decide +kernel
theorem mj_in3 : ∀ w ∈ u_ws RX4 TX4 3, w ∈ lw_tbl := by decide +kernel
theorem mj_in4 : ∀ w ∈ u_ws RX5 TX5 3, w ∈ lw_tbl := by decide +kernel
theorem mj_in5 : ∀ w ∈ u_ws RX6 TX6 3, w ∈ lw_tbl := by decide +kernel
theorem mj_in6 : ∀ w ∈ u_ws RX8 TX8 8, w ∈ lw_tbl := by decide +kernel
theorem mj_in7 : ∀ w ∈ u_ws RX9 TX9 5, w ∈ lw_tbl := by decide +kernel
theorem mj_in8 : ∀ w ∈ u_ws RX10 TX10 11, w ∈ lw_tbl := by decide +kernel
theorem mj_in9 : ∀ w ∈ u_ws RX11 TX11 18, w ∈ lw_tbl := by decide +kernel
/-! the mini machine's tables, by program out of tables_1 and the decode rows: owners, methods, call sites, fields, classes made, constants, exceptions, handlers, texts -/
def mj_ON : List String := ["PickedFormsLaw", "PickedForms", "PickedForms$BitRow", "PickedForms$Column", "PickedForms$Floats", "PickedForms$History", "PickedForms$Matching", "PickedForms$Parting", "PickedForms$Pick", "PickedForms$Rows", "PickedForms$Shape", "PickedForms$Text",
  "PickedFormsModel"]
def mj_E : List String := ["java/lang/IllegalArgumentException", "java/lang/IllegalStateException", "java/lang/IndexOutOfBoundsException"]
def mj_mO : List Nat := [0, 1, 3, 5, 11, 10, 8, 6, 7, 2, 1, 1, 11, 9, 11, 11, 11, 1, 3, 9, 1, 1, 3, 3, 3, 1, 1, 1, 1, 1, 3, 10, 10, 10, 9, 10, 3, 10, 9, 3,
  1, 3, 1, 1, 3, 1, 1, 1, 3, 8, 10, 1, 2, 2, 2, 9, 2, 2, 2, 10, 2, 1, 1, 6, 6, 6, 6, 6, 6, 6, 6, 1, 7, 7, 7, 7, 7, 7, 7, 4,
  4, 0, 1, 1, 3, 5, 5, 1, 3, 1, 0, 1, 0, 1, 3, 1, 0, 1, 3, 0, 1, 3, 3, 0, 1, 3, 0, 1, 3, 0, 1, 1, 1, 0, 1, 11, 0, 1, 11, 11,
  11, 0, 1, 0, 1, 5, 0, 1, 0, 1, 0, 1, 0, 1, 0, 1, 0, 1, 0, 1, 1, 0, 1, 1, 0, 1, 0, 1, 12, 12, 12, 12, 12, 12, 12, 12, 12, 12, 12, 12,
  12, 12, 12, 12, 12, 12, 12, 12, 12, 12, 12, 12, 12, 12, 12, 12, 12, 12, 12, 12, 12, 12, 12, 12, 12, 12, 12, 12, 12, 12, 12, 12, 12, 12, 12, 12, 12, 12, 12, 12,
  12, 12, 12, 12, 12, 12, 12, 12, 12, 12, 12, 12, 12, 12, 12, 12, 12, 12, 12, 12, 12, 12, 12, 12, 12, 12, 12, 12, 12, 12, 12, 12, 12, 12, 12, 12, 12, 12, 12]
def mj_mY : List MethodName := [⟨"PickedFormsLaw", "law", "([I)Z"⟩, ⟨"PickedForms", "<init>", "()V"⟩, ⟨"PickedForms$Column", "<init>", "()V"⟩,
  ⟨"PickedForms$History", "<init>", "()V"⟩, ⟨"PickedForms$Text", "<init>", "()V"⟩, ⟨"PickedForms$Shape", "<init>", "()V"⟩,
  ⟨"PickedForms$Pick", "<init>", "()V"⟩, ⟨"PickedForms$Matching", "<init>", "()V"⟩, ⟨"PickedForms$Parting", "<init>", "()V"⟩,
  ⟨"PickedForms$BitRow", "<init>", "()V"⟩, ⟨"PickedForms", "clearBuffer", "()I"⟩, ⟨"PickedForms", "firstError", "()I"⟩,
  ⟨"PickedForms$Text", "wrongAt", "()I"⟩, ⟨"PickedForms$Rows", "at", "([II)I"⟩, ⟨"PickedForms$Text", "behind", "(II)I"⟩,
  ⟨"PickedForms$Text", "isDigit", "(I)Z"⟩, ⟨"PickedForms$Text", "behindValue", "(I)I"⟩, ⟨"PickedForms", "keep", "()I"⟩,
  ⟨"PickedForms$Column", "copyFrom", "(LPickedForms$Column;)V"⟩, ⟨"PickedForms$Rows", "copy", "([I[I)V"⟩, ⟨"PickedForms", "sizeShare", "()D"⟩,
  ⟨"PickedForms", "weight", "()I"⟩, ⟨"PickedForms$Column", "roomSum", "()I"⟩, ⟨"PickedForms$Column", "tailLength", "()I"⟩,
  ⟨"PickedForms$Column", "startOf", "(I)I"⟩, ⟨"PickedForms", "meanBits", "()F"⟩, ⟨"PickedForms", "digest", "()J"⟩,
  ⟨"PickedForms", "countNumber", "(I)I"⟩, ⟨"PickedForms", "usedBits", "()I"⟩, ⟨"PickedForms", "readShape", "(I)V"⟩,
  ⟨"PickedForms$Column", "lengthOf", "(I)I"⟩, ⟨"PickedForms$Shape", "read", "([III)V"⟩, ⟨"PickedForms$Shape", "clear", "()V"⟩,
  ⟨"PickedForms$Shape", "add", "(I)V"⟩, ⟨"PickedForms$Rows", "step", "(II)I"⟩, ⟨"PickedForms$Shape", "addUnlike", "(I)V"⟩,
  ⟨"PickedForms$Column", "formOf", "(I)I"⟩, ⟨"PickedForms$Shape", "bitsIn", "(I)I"⟩, ⟨"PickedForms$Rows", "width", "(I)I"⟩,
  ⟨"PickedForms$Column", "sum", "()I"⟩, ⟨"PickedForms", "mixed", "(JJ)J"⟩, ⟨"PickedForms$Column", "settingOf", "(I)I"⟩,
  ⟨"PickedForms", "hashOfValues", "(J)J"⟩, ⟨"PickedForms", "valueNumber", "(II)I"⟩, ⟨"PickedForms$Column", "blockOf", "(I)I"⟩,
  ⟨"PickedForms", "looksInBlock", "(II)I"⟩, ⟨"PickedForms", "hashOfBlocks", "(J)J"⟩, ⟨"PickedForms", "blockNumber", "(II)I"⟩,
  ⟨"PickedForms$Column", "roomOf", "(I)I"⟩, ⟨"PickedForms$Pick", "choose", "([III[I)V"⟩, ⟨"PickedForms$Shape", "lightestForm", "(I)I"⟩,
  ⟨"PickedForms", "readBits", "(I)V"⟩, ⟨"PickedForms$BitRow", "encode", "(LPickedForms$Column;ILPickedForms$Shape;)V"⟩, ⟨"PickedForms$BitRow", "encodePacked", "([IIILPickedForms$Shape;)V"⟩,
  ⟨"PickedForms$BitRow", "field", "(II)V"⟩, ⟨"PickedForms$Rows", "put", "([III)V"⟩, ⟨"PickedForms$BitRow", "encodeRuns", "([III)V"⟩,
  ⟨"PickedForms$BitRow", "encodeDeltas", "([IIILPickedForms$Shape;)V"⟩, ⟨"PickedForms$BitRow", "encodeListed", "([IIILPickedForms$Shape;)V"⟩, ⟨"PickedForms$Shape", "rankOf", "(I)I"⟩,
  ⟨"PickedForms$BitRow", "encodePlain", "([III)V"⟩, ⟨"PickedForms", "splitPlace", "(I)I"⟩, ⟨"PickedForms", "hashOfMatches", "(JII)J"⟩,
  ⟨"PickedForms$Matching", "onForms", "(LPickedForms$Column;II)V"⟩, ⟨"PickedForms$Matching", "inForm", "(LPickedForms$Column;IIII)V"⟩, ⟨"PickedForms$Matching", "byRuns", "([IIIII)V"⟩,
  ⟨"PickedForms$Matching", "isWithin", "(III)Z"⟩, ⟨"PickedForms$Matching", "byRanks", "([IIIII)V"⟩, ⟨"PickedForms$Matching", "byValues", "([IIIII)V"⟩,
  ⟨"PickedForms$Matching", "hitsByReading", "(LPickedForms$Column;II)I"⟩, ⟨"PickedForms$Matching", "firstHit", "(LPickedForms$Column;II)I"⟩, ⟨"PickedForms", "hashOfParting", "(J)J"⟩,
  ⟨"PickedForms$Parting", "readFromFirst", "(LPickedForms$Column;)V"⟩, ⟨"PickedForms$Parting", "forget", "(II)V"⟩, ⟨"PickedForms$Parting", "blockBits", "(I)I"⟩,
  ⟨"PickedForms$Parting", "offer", "(III)V"⟩, ⟨"PickedForms$Parting", "bitsFromFirst", "(LPickedForms$Column;)I"⟩, ⟨"PickedForms$Parting", "blocksFromFirst", "(LPickedForms$Column;)I"⟩,
  ⟨"PickedForms$Parting", "bitsFromLast", "(LPickedForms$Column;)I"⟩, ⟨"PickedForms$Floats", "bitsOfDouble", "(D)J"⟩, ⟨"PickedForms$Floats", "bitsOfFloat", "(F)I"⟩,
  ⟨"PickedFormsLaw", "write", "(LPickedForms;I[J)I"⟩, ⟨"PickedForms", "write", "(I)I"⟩, ⟨"PickedForms", "isValue", "(I)Z"⟩,
  ⟨"PickedForms$Column", "canTake", "()Z"⟩, ⟨"PickedForms$History", "push", "(LPickedForms$Column;)V"⟩, ⟨"PickedForms$History", "slotAt", "(I)LPickedForms$Column;"⟩,
  ⟨"PickedForms", "takeValue", "(I)V"⟩, ⟨"PickedForms$Column", "makeTailBlock", "()V"⟩, ⟨"PickedForms", "writeAnew", "(I)V"⟩,
  ⟨"PickedFormsLaw", "close", "(LPickedForms;[J)I"⟩, ⟨"PickedForms", "close", "()I"⟩, ⟨"PickedFormsLaw", "change", "(LPickedForms;II[J)I"⟩,
  ⟨"PickedForms", "change", "(II)I"⟩, ⟨"PickedForms$Column", "hasIndex", "(I)Z"⟩, ⟨"PickedForms", "outcomeOf", "(II)I"⟩,
  ⟨"PickedFormsLaw", "anew", "(LPickedForms;I[J)I"⟩, ⟨"PickedForms", "anew", "(I)I"⟩, ⟨"PickedForms$Column", "hasBlock", "(I)Z"⟩,
  ⟨"PickedFormsLaw", "join", "(LPickedForms;I[J)I"⟩, ⟨"PickedForms", "join", "(I)I"⟩, ⟨"PickedForms$Column", "closeSlot", "(I)V"⟩,
  ⟨"PickedForms$Column", "moveSlot", "(II)V"⟩, ⟨"PickedFormsLaw", "split", "(LPickedForms;II[J)I"⟩, ⟨"PickedForms", "split", "(II)I"⟩,
  ⟨"PickedForms$Column", "openSlot", "(I)V"⟩, ⟨"PickedFormsLaw", "drop", "(LPickedForms;I[J)I"⟩, ⟨"PickedForms", "drop", "(I)I"⟩,
  ⟨"PickedForms$Column", "removeValues", "(II)V"⟩, ⟨"PickedFormsLaw", "set", "(LPickedForms;II[J)I"⟩, ⟨"PickedForms", "set", "(II)I"⟩,
  ⟨"PickedForms", "isSetting", "(I)Z"⟩, ⟨"PickedForms", "isSettingValue", "(II)Z"⟩, ⟨"PickedFormsLaw", "append", "(LPickedForms;I[J)I"⟩,
  ⟨"PickedForms", "append", "(I)I"⟩, ⟨"PickedForms$Text", "take", "(I)V"⟩, ⟨"PickedFormsLaw", "load", "(LPickedForms;[J)I"⟩,
  ⟨"PickedForms", "load", "()I"⟩, ⟨"PickedForms$Text", "isWhole", "()Z"⟩, ⟨"PickedForms$Text", "readParts", "()V"⟩,
  ⟨"PickedForms$Text", "addPart", "(II)V"⟩, ⟨"PickedFormsLaw", "goBack", "(LPickedForms;[J)I"⟩, ⟨"PickedForms", "goBack", "()I"⟩,
  ⟨"PickedFormsLaw", "undo", "(LPickedForms;[J)I"⟩, ⟨"PickedForms", "undo", "()I"⟩, ⟨"PickedForms$History", "popInto", "(LPickedForms$Column;)V"⟩,
  ⟨"PickedFormsLaw", "value", "(LPickedForms;II[J)I"⟩, ⟨"PickedForms", "value", "(II)I"⟩, ⟨"PickedFormsLaw", "block", "(LPickedForms;II[J)I"⟩,
  ⟨"PickedForms", "block", "(II)I"⟩, ⟨"PickedFormsLaw", "size", "(LPickedForms;II[J)I"⟩, ⟨"PickedForms", "size", "(II)I"⟩,
  ⟨"PickedFormsLaw", "bit", "(LPickedForms;II[J)I"⟩, ⟨"PickedForms", "bit", "(II)I"⟩, ⟨"PickedFormsLaw", "count", "(LPickedForms;I[J)I"⟩,
  ⟨"PickedForms", "count", "(I)I"⟩, ⟨"PickedFormsLaw", "setting", "(LPickedForms;I[J)I"⟩, ⟨"PickedForms", "setting", "(I)I"⟩,
  ⟨"PickedFormsLaw", "match", "(LPickedForms;III[J)I"⟩, ⟨"PickedForms", "match", "(III)I"⟩, ⟨"PickedForms", "matchNumber", "(III)I"⟩,
  ⟨"PickedFormsLaw", "ifChanged", "(LPickedForms;III[J)I"⟩, ⟨"PickedForms", "ifChanged", "(III)I"⟩, ⟨"PickedForms", "trialGrowth", "(I)I"⟩,
  ⟨"PickedFormsLaw", "bestSplit", "(LPickedForms;I[J)I"⟩, ⟨"PickedForms", "bestSplit", "(I)I"⟩, ⟨"PickedFormsLaw", "least", "(LPickedForms;I[J)I"⟩,
  ⟨"PickedForms", "least", "(I)I"⟩, ⟨"PickedFormsModel", "<init>", "()V"⟩, ⟨"PickedFormsModel", "thrown", "()I"⟩,
  ⟨"PickedFormsModel", "write", "(I)I"⟩, ⟨"PickedFormsModel", "isValue", "(I)Z"⟩, ⟨"PickedFormsModel", "in", "(III)Z"⟩,
  ⟨"PickedFormsModel", "canWrite", "()Z"⟩, ⟨"PickedFormsModel", "holds", "(I)Z"⟩, ⟨"PickedFormsModel", "save", "()V"⟩,
  ⟨"PickedFormsModel", "copy", "([II[II)V"⟩, ⟨"PickedFormsModel", "put", "(I)V"⟩, ⟨"PickedFormsModel", "values", "()I"⟩,
  ⟨"PickedFormsModel", "start", "(I)I"⟩, ⟨"PickedFormsModel", "closeTail", "()V"⟩, ⟨"PickedFormsModel", "writeAnew", "(I)V"⟩,
  ⟨"PickedFormsModel", "picked", "(II)I"⟩, ⟨"PickedFormsModel", "lightest", "(II)I"⟩, ⟨"PickedFormsModel", "sizeOf", "(III)I"⟩,
  ⟨"PickedFormsModel", "greatestOf", "(II)I"⟩, ⟨"PickedFormsModel", "leastOf", "(II)I"⟩, ⟨"PickedFormsModel", "wide", "(I)I"⟩,
  ⟨"PickedFormsModel", "runsOf", "(II)I"⟩, ⟨"PickedFormsModel", "greatestStep", "(II)I"⟩, ⟨"PickedFormsModel", "step", "(I)I"⟩,
  ⟨"PickedFormsModel", "unlikeOf", "(II)I"⟩, ⟨"PickedFormsModel", "isFirst", "(II)Z"⟩, ⟨"PickedFormsModel", "bitsOf", "(I)I"⟩,
  ⟨"PickedFormsModel", "close", "()I"⟩, ⟨"PickedFormsModel", "change", "(II)I"⟩, ⟨"PickedFormsModel", "replace", "(II)I"⟩,
  ⟨"PickedFormsModel", "blockOf", "(I)I"⟩, ⟨"PickedFormsModel", "anew", "(I)I"⟩, ⟨"PickedFormsModel", "isBlock", "(I)Z"⟩,
  ⟨"PickedFormsModel", "join", "(I)I"⟩, ⟨"PickedFormsModel", "takeOut", "(I)V"⟩, ⟨"PickedFormsModel", "split", "(II)I"⟩,
  ⟨"PickedFormsModel", "gain", "(II)I"⟩, ⟨"PickedFormsModel", "roomFor", "(II)I"⟩, ⟨"PickedFormsModel", "makePlace", "(I)V"⟩,
  ⟨"PickedFormsModel", "drop", "(I)I"⟩, ⟨"PickedFormsModel", "set", "(II)I"⟩, ⟨"PickedFormsModel", "append", "(I)I"⟩,
  ⟨"PickedFormsModel", "clearBuffer", "()I"⟩, ⟨"PickedFormsModel", "firstError", "()I"⟩, ⟨"PickedFormsModel", "readText", "(Z)Z"⟩,
  ⟨"PickedFormsModel", "readPart", "()Z"⟩, ⟨"PickedFormsModel", "readValue", "()Z"⟩, ⟨"PickedFormsModel", "isNext", "(II)Z"⟩,
  ⟨"PickedFormsModel", "takes", "(I)Z"⟩, ⟨"PickedFormsModel", "readTimes", "()Z"⟩, ⟨"PickedFormsModel", "putAll", "()Z"⟩,
  ⟨"PickedFormsModel", "load", "()I"⟩, ⟨"PickedFormsModel", "keep", "()I"⟩, ⟨"PickedFormsModel", "goBack", "()I"⟩,
  ⟨"PickedFormsModel", "undo", "()I"⟩, ⟨"PickedFormsModel", "value", "(II)I"⟩, ⟨"PickedFormsModel", "valueTold", "(II)I"⟩,
  ⟨"PickedFormsModel", "looksFor", "(I)I"⟩, ⟨"PickedFormsModel", "block", "(II)I"⟩, ⟨"PickedFormsModel", "blockTold", "(II)I"⟩,
  ⟨"PickedFormsModel", "size", "(II)I"⟩, ⟨"PickedFormsModel", "bit", "(II)I"⟩, ⟨"PickedFormsModel", "layBlock", "(I)V"⟩,
  ⟨"PickedFormsModel", "layRuns", "(II)V"⟩, ⟨"PickedFormsModel", "lay", "(II)V"⟩, ⟨"PickedFormsModel", "layList", "(II)V"⟩,
  ⟨"PickedFormsModel", "rankOf", "(III)I"⟩, ⟨"PickedFormsModel", "count", "(I)I"⟩, ⟨"PickedFormsModel", "countTold", "(I)I"⟩,
  ⟨"PickedFormsModel", "allBits", "()I"⟩, ⟨"PickedFormsModel", "unused", "()I"⟩, ⟨"PickedFormsModel", "sum", "()I"⟩,
  ⟨"PickedFormsModel", "setting", "(I)I"⟩, ⟨"PickedFormsModel", "match", "(III)I"⟩, ⟨"PickedFormsModel", "matchTold", "(III)I"⟩,
  ⟨"PickedFormsModel", "looksIn", "(III)I"⟩, ⟨"PickedFormsModel", "ifChanged", "(III)I"⟩, ⟨"PickedFormsModel", "bestSplit", "(I)I"⟩,
  ⟨"PickedFormsModel", "bestPlace", "(I)I"⟩, ⟨"PickedFormsModel", "least", "(I)I"⟩, ⟨"PickedFormsModel", "leastTold", "(I)I"⟩,
  ⟨"PickedFormsModel", "partAll", "()V"⟩, ⟨"PickedFormsModel", "sizeShare", "()D"⟩, ⟨"PickedFormsModel", "shareTold", "()D"⟩,
  ⟨"PickedFormsModel", "meanBits", "()F"⟩, ⟨"PickedFormsModel", "meanTold", "()F"⟩, ⟨"PickedFormsModel", "digest", "()J"⟩,
  ⟨"PickedFormsModel", "mix", "(J)V"⟩, ⟨"PickedFormsModel", "mixBlock", "(I)V"⟩, ⟨"PickedFormsModel", "mixMatch", "(II)V"⟩,
  ⟨"PickedFormsModel", "bitsOfDouble", "(D)J"⟩, ⟨"PickedFormsModel", "bitsOfFloat", "(F)I"⟩]
def mj_mB : List ByteArray := [code, prog_1_method_1_code, prog_3_method_1_code, prog_5_method_1_code, prog_11_method_1_code, prog_10_method_1_code,
  prog_8_method_1_code, prog_6_method_1_code, prog_7_method_1_code, prog_2_method_1_code, prog_1_method_11_code, prog_1_method_12_code,
  prog_11_method_3_code, prog_9_method_2_code, prog_11_method_7_code, prog_11_method_9_code, prog_11_method_8_code, prog_1_method_14_code,
  prog_3_method_2_code, prog_9_method_4_code, prog_1_method_27_code, prog_1_method_44_code, prog_3_method_13_code, prog_3_method_11_code,
  prog_3_method_9_code, prog_1_method_28_code, prog_1_method_29_code, prog_1_method_43_code, prog_1_method_45_code, prog_1_method_38_code,
  prog_3_method_5_code, prog_10_method_3_code, prog_10_method_2_code, prog_10_method_4_code, prog_9_method_6_code, prog_10_method_5_code,
  prog_3_method_6_code, prog_10_method_7_code, prog_9_method_5_code, prog_3_method_14_code, prog_1_method_47_code, prog_3_method_8_code,
  prog_1_method_48_code, prog_1_method_40_code, prog_3_method_10_code, prog_1_method_41_code, prog_1_method_49_code, prog_1_method_42_code,
  prog_3_method_7_code, prog_8_method_2_code, prog_10_method_8_code, prog_1_method_39_code, prog_2_method_2_code, prog_2_method_4_code,
  prog_2_method_8_code, prog_9_method_3_code, prog_2_method_5_code, prog_2_method_6_code, prog_2_method_7_code, prog_10_method_6_code,
  prog_2_method_3_code, prog_1_method_37_code, prog_1_method_50_code, prog_6_method_2_code, prog_6_method_3_code, prog_6_method_5_code,
  prog_6_method_9_code, prog_6_method_6_code, prog_6_method_4_code, prog_6_method_7_code, prog_6_method_8_code, prog_1_method_51_code,
  prog_7_method_2_code, prog_7_method_6_code, prog_7_method_7_code, prog_7_method_8_code, prog_7_method_3_code, prog_7_method_4_code,
  prog_7_method_5_code, prog_4_method_2_code, prog_4_method_3_code, method_3_code, prog_1_method_2_code, prog_1_method_30_code,
  prog_3_method_12_code, prog_5_method_2_code, prog_5_method_4_code, prog_1_method_33_code, prog_3_method_16_code, prog_1_method_34_code,
  method_4_code, prog_1_method_3_code, method_5_code, prog_1_method_4_code, prog_3_method_3_code, prog_1_method_35_code,
  method_6_code, prog_1_method_5_code, prog_3_method_4_code, method_7_code, prog_1_method_6_code, prog_3_method_18_code,
  prog_3_method_19_code, method_8_code, prog_1_method_7_code, prog_3_method_17_code, method_9_code, prog_1_method_8_code,
  prog_3_method_15_code, method_10_code, prog_1_method_9_code, prog_1_method_31_code, prog_1_method_32_code, method_11_code,
  prog_1_method_10_code, prog_11_method_2_code, method_12_code, prog_1_method_13_code, prog_11_method_4_code, prog_11_method_5_code,
  prog_11_method_6_code, method_13_code, prog_1_method_15_code, method_14_code, prog_1_method_16_code, prog_5_method_3_code,
  method_15_code, prog_1_method_17_code, method_16_code, prog_1_method_18_code, method_17_code, prog_1_method_19_code,
  method_18_code, prog_1_method_20_code, method_19_code, prog_1_method_21_code, method_20_code, prog_1_method_22_code,
  method_21_code, prog_1_method_23_code, prog_1_method_46_code, method_22_code, prog_1_method_24_code, prog_1_method_36_code,
  method_23_code, prog_1_method_25_code, method_24_code, prog_1_method_26_code, prog_13_method_1_code, prog_13_method_2_code,
  prog_13_method_32_code, prog_13_method_5_code, prog_13_method_4_code, prog_13_method_27_code, prog_13_method_3_code, prog_13_method_8_code,
  prog_13_method_7_code, prog_13_method_28_code, prog_13_method_10_code, prog_13_method_9_code, prog_13_method_26_code, prog_13_method_25_code,
  prog_13_method_22_code, prog_13_method_21_code, prog_13_method_20_code, prog_13_method_14_code, prog_13_method_13_code, prog_13_method_12_code,
  prog_13_method_15_code, prog_13_method_19_code, prog_13_method_18_code, prog_13_method_17_code, prog_13_method_16_code, prog_13_method_24_code,
  prog_13_method_33_code, prog_13_method_34_code, prog_13_method_29_code, prog_13_method_11_code, prog_13_method_35_code, prog_13_method_6_code,
  prog_13_method_36_code, prog_13_method_30_code, prog_13_method_38_code, prog_13_method_37_code, prog_13_method_23_code, prog_13_method_31_code,
  prog_13_method_39_code, prog_13_method_40_code, prog_13_method_41_code, prog_13_method_42_code, prog_13_method_50_code, prog_13_method_49_code,
  prog_13_method_47_code, prog_13_method_45_code, prog_13_method_43_code, prog_13_method_44_code, prog_13_method_46_code, prog_13_method_48_code,
  prog_13_method_51_code, prog_13_method_52_code, prog_13_method_53_code, prog_13_method_54_code, prog_13_method_57_code, prog_13_method_56_code,
  prog_13_method_55_code, prog_13_method_59_code, prog_13_method_58_code, prog_13_method_60_code, prog_13_method_66_code, prog_13_method_65_code,
  prog_13_method_63_code, prog_13_method_61_code, prog_13_method_64_code, prog_13_method_62_code, prog_13_method_71_code, prog_13_method_70_code,
  prog_13_method_67_code, prog_13_method_68_code, prog_13_method_69_code, prog_13_method_72_code, prog_13_method_75_code, prog_13_method_74_code,
  prog_13_method_73_code, prog_13_method_76_code, prog_13_method_78_code, prog_13_method_77_code, prog_13_method_81_code, prog_13_method_80_code,
  prog_13_method_79_code, prog_13_method_83_code, prog_13_method_82_code, prog_13_method_85_code, prog_13_method_84_code, prog_13_method_91_code,
  prog_13_method_88_code, prog_13_method_89_code, prog_13_method_90_code, prog_13_method_86_code, prog_13_method_87_code]
def mj_mL : List Nat := [9, 1, 1, 2, 1, 1, 1, 1, 1, 1, 2, 1, 3, 2, 2, 1, 1, 1, 2, 2, 1, 1, 3, 1, 4, 1, 4, 2, 3, 2, 2, 5, 1, 2, 3, 4, 2, 2, 3, 3,
  4, 2, 7, 5, 4, 3, 7, 3, 2, 7, 6, 2, 7, 7, 4, 3, 7, 7, 7, 4, 5, 8, 7, 7, 7, 8, 3, 10, 7, 6, 5, 7, 6, 4, 2, 5, 2, 2, 6, 7,
  4, 4, 2, 1, 1, 3, 3, 2, 2, 2, 3, 1, 5, 4, 2, 7, 4, 3, 2, 4, 3, 3, 3, 5, 5, 3, 4, 3, 4, 5, 4, 1, 2, 4, 2, 2, 3, 6, 3, 5,
  3, 3, 1, 3, 1, 3, 5, 3, 5, 3, 5, 3, 5, 3, 4, 2, 4, 2, 6, 4, 4, 6, 5, 2, 4, 2, 4, 2, 1, 1, 2, 1, 3, 1, 2, 2, 5, 2, 1, 4,
  1, 2, 3, 6, 4, 5, 5, 3, 5, 5, 3, 5, 5, 2, 1, 3, 4, 3, 3, 2, 3, 3, 5, 4, 3, 3, 6, 5, 2, 2, 1, 3, 1, 1, 3, 3, 1, 2, 2, 1,
  1, 1, 3, 4, 5, 3, 5, 3, 3, 8, 5, 4, 6, 6, 2, 2, 3, 3, 3, 2, 4, 9, 9, 7, 2, 4, 2, 2, 8, 1, 1, 1, 1, 2, 3, 3, 4, 6, 3]
def mj_mR : List (Option FieldType) := [(some .boolean), none, none, none, none, none, none, none, none, none, (some .int), (some .int),
  (some .int), (some .int), (some .int), (some .boolean), (some .int), (some .int), none, none, (some .double), (some .int), (some .int), (some .int),
  (some .int), (some .float), (some .long), (some .int), (some .int), none, (some .int), none, none, none, (some .int), none,
  (some .int), (some .int), (some .int), (some .int), (some .long), (some .int), (some .long), (some .int), (some .int), (some .int), (some .long), (some .int),
  (some .int), none, (some .int), none, none, none, none, none, none, none, none, (some .int),
  none, (some .int), (some .long), none, none, none, (some .boolean), none, none, (some .int), (some .int), (some .long),
  none, none, (some .int), none, (some .int), (some .int), (some .int), (some .long), (some .int), (some .int), (some .int), (some .boolean),
  (some .boolean), none, (some (.object "PickedForms$Column")), none, none, none, (some .int), (some .int), (some .int), (some .int), (some .boolean), (some .int),
  (some .int), (some .int), (some .boolean), (some .int), (some .int), none, none, (some .int), (some .int), none, (some .int), (some .int),
  none, (some .int), (some .int), (some .boolean), (some .boolean), (some .int), (some .int), none, (some .int), (some .int), (some .boolean), none,
  none, (some .int), (some .int), (some .int), (some .int), none, (some .int), (some .int), (some .int), (some .int), (some .int), (some .int),
  (some .int), (some .int), (some .int), (some .int), (some .int), (some .int), (some .int), (some .int), (some .int), (some .int), (some .int), (some .int),
  (some .int), (some .int), (some .int), (some .int), none, (some .int), (some .int), (some .boolean), (some .boolean), (some .boolean), (some .boolean), none,
  none, none, (some .int), (some .int), none, none, (some .int), (some .int), (some .int), (some .int), (some .int), (some .int),
  (some .int), (some .int), (some .int), (some .int), (some .boolean), (some .int), (some .int), (some .int), (some .int), (some .int), (some .int), (some .boolean),
  (some .int), none, (some .int), (some .int), (some .int), none, (some .int), (some .int), (some .int), (some .int), (some .int), (some .boolean),
  (some .boolean), (some .boolean), (some .boolean), (some .boolean), (some .boolean), (some .boolean), (some .int), (some .int), (some .int), (some .int), (some .int), (some .int),
  (some .int), (some .int), (some .int), (some .int), (some .int), none, none, none, none, (some .int), (some .int), (some .int),
  (some .int), (some .int), (some .int), (some .int), (some .int), (some .int), (some .int), (some .int), (some .int), (some .int), (some .int), (some .int),
  none, (some .double), (some .double), (some .float), (some .float), (some .long), none, none, none, (some .long), (some .int)]
def mj_mH : List (List (Nat × Nat × Nat × Nat)) := [[], [], [], [], [], [], [], [], [], [], [], [],
  [], [], [], [], [], [], [], [], [], [], [], [],
  [], [], [], [], [], [], [], [], [], [], [], [],
  [], [], [], [], [], [], [], [], [], [], [], [],
  [], [], [], [], [], [], [], [], [], [], [], [],
  [], [], [], [], [], [], [], [], [], [], [], [],
  [], [], [], [], [], [], [], [], [], [(0, 9, 12, 13), (0, 9, 15, 15)], [], [],
  [], [], [], [], [], [], [(0, 8, 11, 15)], [], [(0, 10, 13, 25), (0, 10, 17, 13)], [], [], [],
  [(0, 9, 12, 25)], [], [], [(0, 9, 12, 25), (0, 9, 15, 15)], [], [], [], [(0, 10, 13, 25), (0, 10, 17, 15)], [], [], [(0, 9, 12, 25)], [],
  [], [(0, 10, 13, 25), (0, 10, 17, 13)], [], [], [], [(0, 9, 12, 13), (0, 9, 15, 15)], [], [], [(0, 8, 11, 13)], [], [], [],
  [], [(0, 8, 11, 15)], [], [(0, 8, 11, 15)], [], [], [(0, 10, 13, 25), (0, 10, 17, 13)], [], [(0, 10, 13, 25), (0, 10, 17, 13)], [], [(0, 10, 13, 25), (0, 10, 17, 13)], [],
  [(0, 10, 13, 25), (0, 10, 17, 13)], [], [(0, 9, 12, 13)], [], [(0, 9, 12, 25)], [], [(0, 12, 15, 13)], [], [], [(0, 12, 15, 25), (0, 12, 19, 13)], [], [],
  [(0, 9, 12, 25)], [], [(0, 9, 12, 13)], [], [], [], [], [], [], [], [], [],
  [], [], [], [], [], [], [], [], [], [], [], [],
  [], [], [], [], [], [], [], [], [], [], [], [],
  [], [], [], [], [], [], [], [], [], [], [], [],
  [], [], [], [], [], [], [], [], [], [], [], [],
  [], [], [], [], [], [], [], [], [], [], [], [],
  [], [], [], [], [], [], [], [], [], [], [], [],
  [], [], [], [], [], [], [], [], [], [], []]
def mj_mN : List Nat := [1, 1, 1, 1, 1, 1, 1, 1, 1, 1, 1, 1, 1, 2, 2, 1, 1, 1, 2, 2, 1, 1, 1, 1, 2, 1, 1, 2, 1, 2, 2, 4, 1, 2, 2, 2, 2, 2, 1, 1,
  2, 2, 2, 3, 2, 3, 2, 3, 2, 5, 2, 2, 4, 5, 3, 3, 4, 5, 5, 2, 4, 2, 4, 4, 6, 6, 3, 6, 6, 4, 4, 2, 2, 3, 2, 4, 2, 2, 2, 1,
  1, 3, 2, 1, 1, 2, 2, 2, 1, 2, 2, 1, 4, 3, 2, 3, 3, 2, 2, 3, 2, 2, 3, 4, 3, 2, 3, 2, 3, 4, 3, 1, 2, 3, 2, 2, 2, 1, 1, 1,
  3, 2, 1, 2, 1, 2, 4, 3, 4, 3, 4, 3, 4, 3, 3, 2, 3, 2, 5, 4, 4, 5, 4, 2, 3, 2, 3, 2, 1, 1, 2, 1, 3, 1, 2, 1, 4, 2, 1, 2,
  1, 2, 3, 3, 4, 3, 3, 1, 3, 3, 2, 3, 3, 2, 1, 3, 3, 2, 2, 2, 2, 2, 3, 3, 3, 2, 2, 3, 2, 1, 1, 2, 1, 1, 3, 2, 1, 1, 1, 1,
  1, 1, 3, 3, 2, 3, 3, 3, 3, 2, 3, 3, 3, 4, 2, 2, 1, 1, 1, 2, 4, 4, 4, 4, 2, 2, 2, 2, 1, 1, 1, 1, 1, 1, 2, 2, 3, 1, 1]
def mj_mC : List Nat := [99, 8, 1, 2, 7, 6, 5, 3, 4, 0, 8, 8, 7, 99, 7, 7, 7, 8, 1, 99, 8, 8, 1, 1, 1, 8, 8, 8, 8, 8, 1, 6, 6, 6, 99, 6, 1, 6, 99, 1,
  8, 1, 8, 8, 1, 8, 8, 8, 1, 5, 6, 8, 0, 0, 0, 99, 0, 0, 0, 6, 0, 8, 8, 3, 3, 3, 3, 3, 3, 3, 3, 8, 4, 4, 4, 4, 4, 4, 4, 99,
  99, 99, 8, 8, 1, 2, 2, 8, 1, 8, 99, 8, 99, 8, 1, 8, 99, 8, 1, 99, 8, 1, 1, 99, 8, 1, 99, 8, 1, 99, 8, 8, 8, 99, 8, 7, 99, 8, 7, 7,
  7, 99, 8, 99, 8, 2, 99, 8, 99, 8, 99, 8, 99, 8, 99, 8, 99, 8, 99, 8, 8, 99, 8, 8, 99, 8, 99, 8, 9, 9, 9, 9, 9, 9, 9, 9, 9, 9, 9, 9,
  9, 9, 9, 9, 9, 9, 9, 9, 9, 9, 9, 9, 9, 9, 9, 9, 9, 9, 9, 9, 9, 9, 9, 9, 9, 9, 9, 9, 9, 9, 9, 9, 9, 9, 9, 9, 9, 9, 9, 9,
  9, 9, 9, 9, 9, 9, 9, 9, 9, 9, 9, 9, 9, 9, 9, 9, 9, 9, 9, 9, 9, 9, 9, 9, 9, 9, 9, 9, 9, 9, 9, 9, 9, 9, 9, 9, 9, 9, 9]
def mj_mF : List Nat := [13, 3, 1, 2, 1, 1, 2, 2, 2, 1, 0, 3, 2, 0, 1, 0, 0, 3, 2, 1, 4, 3, 1, 2, 1, 4, 6, 5, 4, 3, 1, 2, 0, 1, 0, 0, 1, 1, 0, 1,
  0, 1, 5, 4, 1, 3, 5, 4, 1, 3, 2, 4, 3, 2, 1, 0, 2, 2, 2, 1, 2, 4, 5, 4, 3, 1, 0, 2, 1, 1, 1, 5, 4, 1, 3, 1, 1, 1, 4, 0,
  0, 7, 6, 0, 3, 3, 0, 5, 3, 4, 7, 6, 7, 6, 0, 3, 7, 6, 0, 7, 6, 2, 1, 7, 6, 2, 7, 6, 1, 7, 6, 0, 0, 7, 6, 1, 7, 6, 2, 2,
  1, 7, 6, 7, 6, 3, 7, 6, 7, 6, 7, 6, 7, 6, 7, 6, 7, 6, 7, 6, 5, 7, 6, 4, 7, 6, 7, 6, 1, 0, 8, 1, 0, 0, 0, 1, 0, 7, 1, 0,
  6, 5, 4, 3, 2, 0, 0, 0, 0, 1, 0, 1, 0, 3, 7, 7, 6, 1, 6, 1, 6, 0, 7, 6, 5, 0, 2, 2, 1, 0, 10, 9, 3, 2, 1, 2, 2, 8, 10, 2,
  2, 1, 4, 3, 2, 6, 5, 3, 4, 3, 1, 0, 2, 1, 6, 5, 0, 4, 2, 1, 4, 3, 2, 7, 8, 7, 6, 5, 4, 3, 2, 3, 2, 9, 0, 8, 4, 0, 0]
def mj_mW : List Nat := [488, 61, 20, 40, 20, 20, 40, 40, 40, 20, 0, 63, 41, 0, 20, 0, 0, 68, 47, 26, 84, 64, 21, 44, 21, 84, 151, 114, 92, 71, 21, 47, 0, 26, 0, 0, 21, 22, 0, 21,
  0, 21, 117, 93, 21, 71, 121, 94, 21, 68, 43, 97, 71, 45, 22, 0, 45, 45, 45, 21, 45, 94, 125, 99, 73, 22, 0, 44, 22, 22, 22, 114, 89, 22, 68, 22, 21, 21, 89, 0,
  0, 157, 136, 0, 64, 68, 0, 115, 64, 94, 135, 115, 138, 115, 0, 71, 137, 115, 0, 137, 115, 44, 22, 139, 115, 44, 122, 100, 22, 123, 100, 0, 0, 121, 100, 22, 161, 136, 41, 44,
  22, 120, 100, 120, 100, 68, 139, 117, 138, 116, 122, 100, 140, 118, 156, 135, 121, 100, 171, 148, 125, 139, 115, 94, 142, 121, 135, 114, 20, 0, 180, 22, 0, 0, 0, 24, 0, 159, 23, 0,
  139, 118, 96, 71, 48, 0, 0, 0, 0, 22, 0, 24, 0, 71, 159, 162, 139, 23, 139, 22, 139, 0, 163, 140, 118, 0, 45, 45, 22, 0, 223, 201, 66, 44, 22, 44, 44, 180, 223, 43,
  45, 24, 92, 69, 45, 142, 118, 71, 101, 74, 23, 0, 49, 24, 135, 114, 0, 92, 43, 22, 104, 76, 48, 162, 186, 163, 144, 123, 96, 63, 43, 63, 43, 208, 0, 186, 104, 0, 0]
/-- owner, entry, kind (0 virtual, 1 static, 2 <init>, 3 <init> of a nest mate, 4 Object.<init>, 5 arraycopy, 6 Math.max, 7 Math.min), method -/
def mj_call : List (Nat × Nat × Nat × Nat) := [(0, 85, 2, 1), (0, 88, 2, 148), (0, 89, 1, 81), (0, 94, 0, 150), (0, 95, 0, 149), (0, 98, 1, 90), (0, 101, 0, 174), (0, 102, 1, 92), (0, 105, 0, 175), (0, 106, 1, 96), (0, 108, 0, 178), (0, 109, 1, 99),
  (0, 111, 0, 180), (0, 112, 1, 103), (0, 114, 0, 182), (0, 115, 1, 106), (0, 117, 0, 186), (0, 118, 1, 109), (0, 120, 0, 187), (0, 121, 1, 113), (0, 123, 0, 188), (0, 124, 0, 10), (0, 127, 0, 189), (0, 128, 0, 11),
  (0, 131, 0, 190), (0, 132, 1, 116), (0, 134, 0, 198), (0, 135, 0, 17), (0, 138, 0, 199), (0, 139, 1, 121), (0, 141, 0, 200), (0, 142, 1, 123), (0, 144, 0, 201), (0, 145, 1, 126), (0, 147, 0, 202), (0, 148, 1, 128),
  (0, 150, 0, 205), (0, 151, 1, 130), (0, 153, 0, 207), (0, 154, 1, 132), (0, 156, 0, 208), (0, 157, 1, 134), (0, 159, 0, 214), (0, 160, 1, 136), (0, 162, 0, 219), (0, 163, 1, 138), (0, 166, 0, 220), (0, 167, 1, 141),
  (0, 169, 0, 223), (0, 170, 1, 144), (0, 172, 0, 224), (0, 173, 1, 146), (0, 175, 0, 226), (0, 176, 0, 20), (0, 180, 0, 229), (0, 181, 0, 25), (0, 185, 0, 231), (0, 186, 0, 26), (0, 190, 0, 233), (1, 3, 4, 0),
  (1, 11, 3, 2), (1, 25, 2, 3), (1, 32, 3, 4), (1, 39, 3, 5), (1, 46, 3, 6), (1, 53, 3, 7), (1, 60, 3, 8), (1, 67, 3, 9), (3, 3, 4, 0), (5, 3, 4, 0), (5, 24, 3, 2), (11, 3, 4, 0),
  (10, 3, 4, 0), (8, 3, 4, 0), (8, 11, 3, 5), (6, 3, 4, 0), (6, 11, 3, 5), (7, 3, 4, 0), (7, 11, 3, 5), (2, 3, 4, 0), (1, 216, 0, 12), (11, 34, 1, 13), (11, 38, 1, 14), (11, 42, 1, 15),
  (11, 50, 1, 16), (1, 240, 0, 18), (3, 40, 1, 19), (9, 7, 7, 0), (9, 13, 5, 0), (1, 314, 0, 21), (1, 401, 0, 22), (1, 108, 0, 23), (3, 46, 1, 13), (3, 50, 0, 24), (1, 282, 0, 27), (1, 321, 1, 40),
  (1, 200, 0, 41), (1, 325, 0, 42), (1, 329, 0, 46), (1, 332, 0, 62), (1, 336, 0, 71), (1, 339, 0, 20), (1, 343, 1, 79), (1, 349, 0, 25), (1, 353, 1, 80), (1, 233, 1, 13), (1, 404, 0, 28), (1, 407, 0, 39),
  (1, 265, 0, 29), (1, 123, 0, 36), (1, 268, 0, 37), (1, 182, 0, 24), (1, 164, 0, 30), (1, 379, 0, 31), (10, 37, 0, 32), (10, 40, 1, 13), (10, 46, 0, 33), (10, 50, 1, 34), (10, 54, 6, 0), (10, 59, 0, 35),
  (10, 62, 1, 38), (1, 255, 0, 43), (1, 151, 0, 44), (1, 386, 0, 45), (1, 260, 0, 47), (1, 273, 0, 51), (1, 296, 0, 61), (1, 159, 0, 48), (1, 360, 0, 49), (8, 25, 1, 13), (8, 31, 7, 0), (8, 37, 0, 32),
  (8, 40, 0, 33), (8, 44, 0, 50), (8, 48, 0, 37), (10, 66, 0, 37), (1, 382, 0, 52), (2, 24, 0, 24), (2, 28, 0, 30), (2, 31, 0, 36), (2, 34, 0, 53), (2, 38, 0, 56), (2, 42, 0, 57), (2, 45, 0, 58),
  (2, 48, 0, 60), (2, 69, 1, 38), (2, 57, 0, 54), (2, 51, 1, 13), (2, 88, 1, 55), (2, 75, 1, 34), (2, 85, 0, 59), (1, 410, 0, 63), (1, 417, 0, 69), (1, 424, 0, 70), (6, 30, 0, 30), (6, 38, 0, 31),
  (6, 51, 0, 64), (6, 58, 0, 68), (6, 62, 0, 36), (6, 65, 0, 65), (6, 68, 0, 67), (6, 71, 1, 13), (6, 77, 1, 66), (6, 87, 0, 59), (1, 305, 0, 72), (1, 308, 0, 76), (1, 311, 0, 77), (1, 301, 0, 78),
  (7, 25, 0, 41), (7, 35, 0, 73), (7, 39, 7, 0), (7, 45, 0, 32), (7, 51, 1, 13), (7, 57, 0, 33), (7, 61, 0, 74), (7, 64, 0, 75), (7, 69, 1, 55), (7, 73, 0, 50), (7, 76, 0, 37), (0, 7, 0, 82),
  (1, 76, 1, 83), (1, 87, 0, 84), (1, 96, 0, 85), (1, 100, 0, 87), (3, 54, 0, 23), (3, 58, 0, 41), (5, 25, 0, 86), (5, 29, 0, 18), (1, 142, 1, 55), (1, 117, 0, 88), (1, 120, 0, 89), (3, 61, 1, 55),
  (0, 17, 0, 91), (0, 21, 0, 93), (1, 127, 0, 94), (1, 135, 0, 95), (0, 27, 0, 97), (1, 154, 0, 98), (0, 30, 0, 100), (1, 169, 0, 101), (3, 65, 0, 102), (0, 33, 0, 104), (1, 179, 0, 105), (0, 36, 0, 107),
  (1, 185, 0, 108), (0, 39, 0, 110), (1, 189, 1, 111), (1, 194, 1, 112), (0, 42, 0, 114), (1, 213, 0, 115), (11, 28, 1, 55), (0, 45, 0, 117), (1, 219, 0, 118), (1, 224, 0, 119), (11, 46, 0, 120), (0, 48, 0, 122),
  (0, 51, 0, 124), (1, 250, 0, 125), (0, 54, 0, 127), (0, 57, 0, 129), (0, 60, 0, 131), (0, 63, 0, 133), (0, 66, 0, 135), (0, 69, 0, 137), (0, 72, 0, 139), (1, 287, 0, 140), (0, 76, 0, 142), (1, 293, 0, 143),
  (0, 79, 0, 145), (0, 82, 0, 147), (12, 1, 4, 0), (12, 106, 1, 151), (12, 110, 0, 153), (12, 114, 0, 154), (12, 117, 0, 155), (12, 120, 0, 157), (12, 96, 0, 158), (12, 38, 1, 152), (12, 45, 1, 156), (12, 100, 0, 160),
  (12, 49, 0, 159), (12, 92, 0, 161), (12, 86, 0, 162), (12, 89, 0, 173), (12, 83, 0, 163), (12, 79, 0, 164), (12, 60, 0, 165), (12, 64, 0, 166), (12, 67, 1, 167), (12, 70, 0, 168), (12, 73, 0, 169), (12, 76, 0, 171),
  (12, 57, 0, 170), (12, 53, 0, 172), (12, 123, 0, 176), (12, 103, 0, 177), (12, 126, 0, 179), (12, 129, 0, 181), (12, 135, 0, 183), (12, 138, 0, 185), (12, 132, 0, 184), (12, 174, 0, 191), (12, 168, 0, 192), (12, 171, 0, 197),
  (12, 159, 0, 195), (12, 156, 0, 193), (12, 162, 0, 196), (12, 147, 0, 194), (12, 185, 0, 203), (12, 182, 0, 204), (12, 188, 0, 206), (12, 207, 0, 209), (12, 201, 0, 210), (12, 204, 0, 212), (12, 194, 0, 211), (12, 198, 0, 213),
  (12, 219, 0, 215), (12, 210, 0, 216), (12, 213, 0, 217), (12, 216, 0, 218), (12, 225, 0, 221), (12, 222, 0, 222), (12, 228, 0, 225), (12, 234, 0, 227), (12, 231, 0, 228), (12, 237, 0, 230), (12, 241, 0, 232), (12, 261, 0, 234),
  (12, 267, 0, 235), (12, 270, 0, 236), (12, 273, 1, 237), (12, 277, 1, 238)]
/-- owner, entry, class, field -/
def mj_fld : List (Nat × Nat × Nat × Nat) := [(3, 9, 1, 0), (2, 19, 1, 0), (6, 34, 1, 0), (7, 48, 1, 0), (1, 139, 1, 0), (3, 15, 1, 1), (1, 172, 1, 1), (3, 18, 1, 2), (1, 364, 1, 2), (3, 21, 1, 3), (1, 370, 1, 3), (3, 24, 1, 4),
  (1, 203, 1, 4), (3, 27, 1, 5), (7, 31, 1, 5), (1, 104, 1, 5), (6, 55, 1, 5), (3, 31, 1, 6), (6, 25, 1, 6), (1, 112, 1, 6), (3, 34, 1, 7), (1, 148, 1, 7), (3, 37, 1, 8), (1, 376, 1, 8),
  (5, 11, 2, 0), (5, 17, 2, 1), (5, 21, 2, 2), (1, 245, 2, 2), (11, 9, 7, 0), (1, 357, 7, 0), (11, 15, 7, 1), (1, 208, 7, 1), (11, 19, 7, 2), (1, 230, 7, 2), (11, 22, 7, 3), (1, 237, 7, 3),
  (11, 25, 7, 4), (1, 227, 7, 4), (10, 9, 6, 0), (6, 84, 6, 0), (2, 82, 6, 0), (10, 15, 6, 1), (6, 81, 6, 1), (2, 79, 6, 1), (1, 398, 6, 1), (10, 19, 6, 2), (6, 48, 6, 2), (10, 22, 6, 3),
  (6, 42, 6, 3), (2, 66, 6, 3), (1, 392, 6, 3), (10, 25, 6, 4), (6, 45, 6, 4), (2, 61, 6, 4), (1, 395, 6, 4), (10, 28, 6, 5), (1, 389, 6, 5), (10, 31, 6, 6), (2, 72, 6, 6), (10, 34, 6, 7),
  (8, 12, 5, 0), (8, 18, 5, 1), (1, 367, 5, 1), (8, 22, 5, 2), (1, 373, 5, 2), (6, 12, 3, 0), (6, 18, 3, 1), (1, 414, 3, 1), (6, 22, 3, 2), (1, 421, 3, 2), (7, 12, 4, 0), (7, 18, 4, 1),
  (7, 22, 4, 2), (2, 9, 0, 0), (1, 277, 0, 0), (2, 15, 0, 1), (1, 276, 0, 1), (1, 12, 8, 0), (1, 16, 8, 1), (1, 19, 8, 2), (1, 26, 8, 3), (1, 33, 8, 4), (1, 40, 8, 5), (1, 47, 8, 6),
  (1, 54, 8, 7), (1, 61, 8, 8), (1, 68, 8, 9), (1, 72, 8, 10), (12, 7, 9, 0), (12, 13, 9, 1), (12, 42, 9, 2), (12, 16, 9, 3), (12, 178, 9, 4), (12, 19, 9, 5), (12, 22, 9, 6), (12, 141, 9, 7),
  (12, 34, 9, 8), (12, 144, 9, 9), (12, 150, 9, 10), (12, 153, 9, 11), (12, 165, 9, 12), (12, 25, 9, 13), (12, 191, 9, 14), (12, 28, 9, 15), (12, 31, 9, 16), (12, 257, 9, 17)]
/-- owner, entry, class -/
def mj_cls : List (Nat × Nat × Nat) := [(0, 8, 8), (1, 9, 1), (1, 23, 2), (5, 9, 1), (1, 30, 7), (1, 37, 6), (1, 44, 5), (8, 9, 6), (1, 51, 3), (6, 9, 6), (1, 58, 4), (7, 9, 6),
  (1, 65, 0), (0, 86, 9)]
/-- owner, entry, constant -/
def mj_kst : List (Nat × Nat × Value) := [(1, 317, .double 4621819117588971520), (1, 319, .long 3631), (1, 427, .long 31), (7, 68, .int 1000000), (4, 7, .long 1023), (4, 11, .double 4611686018427387904), (4, 13, .double 4841369599423283200), (4, 15, .float 1258291200), (12, 265, .long 3631), (12, 255, .long 31), (12, 245, .long 1023), (12, 247, .double 4611686018427387904),
  (12, 249, .long 4503599627370496), (12, 251, .double 4841369599423283200), (12, 253, .int 8388608), (12, 254, .float 1258291200)]
/-- owner, entry, exception, its <init>'s entry -/
def mj_exc : List (Nat × Nat × Nat × Nat) := [(1, 80, 0, 84), (1, 91, 1, 95), (1, 130, 2, 134)]
/-- owner, entry, exception that is caught -/
def mj_hdl : List (Nat × Nat × Nat) := [(0, 13, 0), (0, 15, 1), (0, 25, 2)]
/-- owner, entry, text -/
def mj_str : List (Nat × Nat × String) := [(1, 82, "the value is not 0 to 999"), (1, 93, "the tail would be closed, and there are 12 blocks"), (1, 115, "the tail is empty, or there are 12 blocks"),
  (1, 132, "there is no such value"), (1, 157, "there is no such block"), (1, 162, "there is no such block, or none behind it"),
  (1, 167, "both have more than 16 values together"), (1, 175, "there is no such block or place"), (1, 177, "there are 12 blocks"),
  (1, 192, "there is no such setting"), (1, 198, "the setting cannot have this value"), (1, 206, "the code is not 33 to 126"),
  (1, 211, "the buffer has 60 characters"), (1, 222, "the buffer is not a complete column as a text"), (1, 243, "there is no snapshot"),
  (1, 248, "there is no saved state"), (1, 253, "what is not 0 to 3"), (1, 258, "what is not 0 to 9"),
  (1, 263, "the form is not 0 to 4"), (1, 271, "the index is below 0"), (1, 280, "what is not 0 to 8"),
  (1, 285, "an argument is out of range"), (1, 291, "value or what is out of range"), (1, 299, "what is not 0 to 2")]
/-! the words behind the tables, by their places -/
