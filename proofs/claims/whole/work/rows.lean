section
-- ===== PART A: goes FIRST, ahead of the names: the tables' words, and 'selects' of the private methods out of them =====
/-- a private method of a class that the tables say can be made, by its rows of tables_1 -/
def lw_okq (q : MethodName × Nat) : Prop := (q.1.cls ≠ "java/lang/invoke/MethodHandle" ∧ q.1.cls ≠ "java/lang/invoke/VarHandle") ∧ Cond.instantiable q.1.cls q.2 ∈ tables_1 ∧ Cond.privateMethod q.1 ∈ tables_1 ∧ Cond.instanceMethod q.1 ∈ tables_1
theorem lw_p0 : lw_okq (⟨"LineDispatch$Reader", "takeToken", "()Z"⟩, 8) := ⟨⟨by decide +kernel, by decide +kernel⟩, List.mem_of_getElem? (i := 141) (by decide +kernel), List.mem_of_getElem? (i := 238) (by decide +kernel), List.mem_of_getElem? (i := 239) (by decide +kernel)⟩
theorem lw_p1 : lw_okq (⟨"LineDispatch$Reader", "fail", "(I)Z"⟩, 8) := ⟨⟨by decide +kernel, by decide +kernel⟩, List.mem_of_getElem? (i := 141) (by decide +kernel), List.mem_of_getElem? (i := 245) (by decide +kernel), List.mem_of_getElem? (i := 246) (by decide +kernel)⟩
theorem lw_p2 : lw_okq (⟨"LineDispatch$Reader", "takeLine", "(LLineDispatch$Line;)Z"⟩, 8) := ⟨⟨by decide +kernel, by decide +kernel⟩, List.mem_of_getElem? (i := 141) (by decide +kernel), List.mem_of_getElem? (i := 249) (by decide +kernel), List.mem_of_getElem? (i := 250) (by decide +kernel)⟩
theorem lw_p3 : lw_okq (⟨"LineDispatch$Reader", "isWord", "(Ljava/lang/String;)Z"⟩, 8) := ⟨⟨by decide +kernel, by decide +kernel⟩, List.mem_of_getElem? (i := 141) (by decide +kernel), List.mem_of_getElem? (i := 254) (by decide +kernel), List.mem_of_getElem? (i := 255) (by decide +kernel)⟩
theorem lw_p4 : lw_okq (⟨"LineDispatch$Reader", "takePlace", "(LLineDispatch$Line;)Z"⟩, 8) := ⟨⟨by decide +kernel, by decide +kernel⟩, List.mem_of_getElem? (i := 141) (by decide +kernel), List.mem_of_getElem? (i := 306) (by decide +kernel), List.mem_of_getElem? (i := 307) (by decide +kernel)⟩
theorem lw_p5 : lw_okq (⟨"LineDispatch$Reader", "isNumberWithin", "(II)Z"⟩, 8) := ⟨⟨by decide +kernel, by decide +kernel⟩, List.mem_of_getElem? (i := 141) (by decide +kernel), List.mem_of_getElem? (i := 314) (by decide +kernel), List.mem_of_getElem? (i := 315) (by decide +kernel)⟩
theorem lw_p6 : lw_okq (⟨"LineDispatch$Reader", "takeSign", "()Z"⟩, 8) := ⟨⟨by decide +kernel, by decide +kernel⟩, List.mem_of_getElem? (i := 141) (by decide +kernel), List.mem_of_getElem? (i := 322) (by decide +kernel), List.mem_of_getElem? (i := 323) (by decide +kernel)⟩
theorem lw_p7 : lw_okq (⟨"LineDispatch$Reader", "takeSection", "(LLineDispatch$Line;)Z"⟩, 8) := ⟨⟨by decide +kernel, by decide +kernel⟩, List.mem_of_getElem? (i := 141) (by decide +kernel), List.mem_of_getElem? (i := 327) (by decide +kernel), List.mem_of_getElem? (i := 328) (by decide +kernel)⟩
theorem lw_p8 : lw_okq (⟨"LineDispatch$Reader", "takeNumber", "(II)Z"⟩, 8) := ⟨⟨by decide +kernel, by decide +kernel⟩, List.mem_of_getElem? (i := 141) (by decide +kernel), List.mem_of_getElem? (i := 331) (by decide +kernel), List.mem_of_getElem? (i := 332) (by decide +kernel)⟩
theorem lw_p9 : lw_okq (⟨"LineDispatch$Reader", "takeTrain", "(LLineDispatch$Line;)Z"⟩, 8) := ⟨⟨by decide +kernel, by decide +kernel⟩, List.mem_of_getElem? (i := 141) (by decide +kernel), List.mem_of_getElem? (i := 336) (by decide +kernel), List.mem_of_getElem? (i := 337) (by decide +kernel)⟩
theorem lw_p10 : lw_okq (⟨"LineDispatch", "faultBehindAll", "(LLineDispatch$Line;)I"⟩, 8) := ⟨⟨by decide +kernel, by decide +kernel⟩, List.mem_of_getElem? (i := 15) (by decide +kernel), List.mem_of_getElem? (i := 347) (by decide +kernel), List.mem_of_getElem? (i := 348) (by decide +kernel)⟩
theorem lw_p11 : lw_okq (⟨"LineDispatch$Postures", "learnEnds", "(LLineDispatch$Line;)V"⟩, 8) := ⟨⟨by decide +kernel, by decide +kernel⟩, List.mem_of_getElem? (i := 107) (by decide +kernel), List.mem_of_getElem? (i := 376) (by decide +kernel), List.mem_of_getElem? (i := 377) (by decide +kernel)⟩
theorem lw_p12 : lw_okq (⟨"LineDispatch$Postures", "learnOne", "(LLineDispatch$Line;)V"⟩, 8) := ⟨⟨by decide +kernel, by decide +kernel⟩, List.mem_of_getElem? (i := 107) (by decide +kernel), List.mem_of_getElem? (i := 383) (by decide +kernel), List.mem_of_getElem? (i := 384) (by decide +kernel)⟩
theorem lw_p13 : lw_okq (⟨"LineDispatch$Postures", "placeAll", "(LLineDispatch$Line;)V"⟩, 8) := ⟨⟨by decide +kernel, by decide +kernel⟩, List.mem_of_getElem? (i := 107) (by decide +kernel), List.mem_of_getElem? (i := 387) (by decide +kernel), List.mem_of_getElem? (i := 388) (by decide +kernel)⟩
theorem lw_p14 : lw_okq (⟨"LineDispatch$Postures", "code", "()I"⟩, 8) := ⟨⟨by decide +kernel, by decide +kernel⟩, List.mem_of_getElem? (i := 107) (by decide +kernel), List.mem_of_getElem? (i := 398) (by decide +kernel), List.mem_of_getElem? (i := 399) (by decide +kernel)⟩
theorem lw_p15 : lw_okq (⟨"LineDispatch", "isPlain", "()Z"⟩, 8) := ⟨⟨by decide +kernel, by decide +kernel⟩, List.mem_of_getElem? (i := 15) (by decide +kernel), List.mem_of_getElem? (i := 443) (by decide +kernel), List.mem_of_getElem? (i := 444) (by decide +kernel)⟩
def lw_privs_1 : List (MethodName × Nat) := [(⟨"LineDispatch$Reader", "takeToken", "()Z"⟩, 8), (⟨"LineDispatch$Reader", "fail", "(I)Z"⟩, 8), (⟨"LineDispatch$Reader", "takeLine", "(LLineDispatch$Line;)Z"⟩, 8), (⟨"LineDispatch$Reader", "isWord", "(Ljava/lang/String;)Z"⟩, 8), (⟨"LineDispatch$Reader", "takePlace", "(LLineDispatch$Line;)Z"⟩, 8), (⟨"LineDispatch$Reader", "isNumberWithin", "(II)Z"⟩, 8), (⟨"LineDispatch$Reader", "takeSign", "()Z"⟩, 8), (⟨"LineDispatch$Reader", "takeSection", "(LLineDispatch$Line;)Z"⟩, 8), (⟨"LineDispatch$Reader", "takeNumber", "(II)Z"⟩, 8), (⟨"LineDispatch$Reader", "takeTrain", "(LLineDispatch$Line;)Z"⟩, 8), (⟨"LineDispatch", "faultBehindAll", "(LLineDispatch$Line;)I"⟩, 8), (⟨"LineDispatch$Postures", "learnEnds", "(LLineDispatch$Line;)V"⟩, 8), (⟨"LineDispatch$Postures", "learnOne", "(LLineDispatch$Line;)V"⟩, 8), (⟨"LineDispatch$Postures", "placeAll", "(LLineDispatch$Line;)V"⟩, 8), (⟨"LineDispatch$Postures", "code", "()I"⟩, 8), (⟨"LineDispatch", "isPlain", "()Z"⟩, 8)]
theorem lw_r1 : ∀ q ∈ lw_privs_1, lw_okq q := List.forall_mem_cons.mpr ⟨lw_p0, List.forall_mem_cons.mpr ⟨lw_p1, List.forall_mem_cons.mpr ⟨lw_p2, List.forall_mem_cons.mpr ⟨lw_p3, List.forall_mem_cons.mpr ⟨lw_p4, List.forall_mem_cons.mpr ⟨lw_p5, List.forall_mem_cons.mpr ⟨lw_p6, List.forall_mem_cons.mpr ⟨lw_p7, List.forall_mem_cons.mpr ⟨lw_p8, List.forall_mem_cons.mpr ⟨lw_p9, List.forall_mem_cons.mpr ⟨lw_p10, List.forall_mem_cons.mpr ⟨lw_p11, List.forall_mem_cons.mpr ⟨lw_p12, List.forall_mem_cons.mpr ⟨lw_p13, List.forall_mem_cons.mpr ⟨lw_p14, List.forall_mem_cons.mpr ⟨lw_p15, fun _ h => absurd h List.not_mem_nil⟩⟩⟩⟩⟩⟩⟩⟩⟩⟩⟩⟩⟩⟩⟩⟩
theorem lw_p16 : lw_okq (⟨"LineDispatch$Postures", "firstToGoAlone", "(LLineDispatch$Line;)I"⟩, 8) := ⟨⟨by decide +kernel, by decide +kernel⟩, List.mem_of_getElem? (i := 107) (by decide +kernel), List.mem_of_getElem? (i := 452) (by decide +kernel), List.mem_of_getElem? (i := 453) (by decide +kernel)⟩
theorem lw_p17 : lw_okq (⟨"LineDispatch$Postures", "goesAlone", "(LLineDispatch$Line;I)Z"⟩, 8) := ⟨⟨by decide +kernel, by decide +kernel⟩, List.mem_of_getElem? (i := 107) (by decide +kernel), List.mem_of_getElem? (i := 456) (by decide +kernel), List.mem_of_getElem? (i := 457) (by decide +kernel)⟩
theorem lw_p18 : lw_okq (⟨"LineDispatch", "howManyFree", "()I"⟩, 8) := ⟨⟨by decide +kernel, by decide +kernel⟩, List.mem_of_getElem? (i := 15) (by decide +kernel), List.mem_of_getElem? (i := 464) (by decide +kernel), List.mem_of_getElem? (i := 465) (by decide +kernel)⟩
theorem lw_p19 : lw_okq (⟨"LineDispatch", "against", "(LLineDispatch$Line;I)I"⟩, 8) := ⟨⟨by decide +kernel, by decide +kernel⟩, List.mem_of_getElem? (i := 15) (by decide +kernel), List.mem_of_getElem? (i := 468) (by decide +kernel), List.mem_of_getElem? (i := 469) (by decide +kernel)⟩
theorem lw_p20 : lw_okq (⟨"LineDispatch$Postures", "endsBehind", "(I)I"⟩, 8) := ⟨⟨by decide +kernel, by decide +kernel⟩, List.mem_of_getElem? (i := 107) (by decide +kernel), List.mem_of_getElem? (i := 486) (by decide +kernel), List.mem_of_getElem? (i := 487) (by decide +kernel)⟩
theorem lw_p21 : lw_okq (⟨"LineDispatch$Postures", "markNext", "(LLineDispatch$Line;I)V"⟩, 8) := ⟨⟨by decide +kernel, by decide +kernel⟩, List.mem_of_getElem? (i := 107) (by decide +kernel), List.mem_of_getElem? (i := 547) (by decide +kernel), List.mem_of_getElem? (i := 548) (by decide +kernel)⟩
theorem lw_p22 : lw_okq (⟨"LineDispatch", "planned", "(IZ)I"⟩, 8) := ⟨⟨by decide +kernel, by decide +kernel⟩, List.mem_of_getElem? (i := 15) (by decide +kernel), List.mem_of_getElem? (i := 558) (by decide +kernel), List.mem_of_getElem? (i := 559) (by decide +kernel)⟩
theorem lw_p23 : lw_okq (⟨"LineDispatch", "letAllGo", "(LLineDispatch$Line;I)I"⟩, 8) := ⟨⟨by decide +kernel, by decide +kernel⟩, List.mem_of_getElem? (i := 15) (by decide +kernel), List.mem_of_getElem? (i := 562) (by decide +kernel), List.mem_of_getElem? (i := 563) (by decide +kernel)⟩
theorem lw_p24 : lw_okq (⟨"LineDispatch", "firstBy", "(LLineDispatch$Line;I)I"⟩, 8) := ⟨⟨by decide +kernel, by decide +kernel⟩, List.mem_of_getElem? (i := 15) (by decide +kernel), List.mem_of_getElem? (i := 566) (by decide +kernel), List.mem_of_getElem? (i := 567) (by decide +kernel)⟩
theorem lw_p25 : lw_okq (⟨"LineDispatch$Line", "enterJournal", "(II)V"⟩, 16) := ⟨⟨by decide +kernel, by decide +kernel⟩, List.mem_of_getElem? (i := 23) (by decide +kernel), List.mem_of_getElem? (i := 577) (by decide +kernel), List.mem_of_getElem? (i := 578) (by decide +kernel)⟩
theorem lw_p26 : lw_okq (⟨"LineDispatch$Line", "forgetFirstEntry", "()V"⟩, 16) := ⟨⟨by decide +kernel, by decide +kernel⟩, List.mem_of_getElem? (i := 23) (by decide +kernel), List.mem_of_getElem? (i := 581) (by decide +kernel), List.mem_of_getElem? (i := 582) (by decide +kernel)⟩
theorem lw_p27 : lw_okq (⟨"LineDispatch$Line", "removeEntries", "(I)V"⟩, 16) := ⟨⟨by decide +kernel, by decide +kernel⟩, List.mem_of_getElem? (i := 23) (by decide +kernel), List.mem_of_getElem? (i := 637) (by decide +kernel), List.mem_of_getElem? (i := 638) (by decide +kernel)⟩
theorem lw_p28 : lw_okq (⟨"LineDispatchModel", "reads", "()V"⟩, 24) := ⟨⟨by decide +kernel, by decide +kernel⟩, List.mem_of_getElem? (i := 701) (by decide +kernel), List.mem_of_getElem? (i := 796) (by decide +kernel), List.mem_of_getElem? (i := 797) (by decide +kernel)⟩
theorem lw_p29 : lw_okq (⟨"LineDispatchModel", "byteAt", "(I)I"⟩, 24) := ⟨⟨by decide +kernel, by decide +kernel⟩, List.mem_of_getElem? (i := 701) (by decide +kernel), List.mem_of_getElem? (i := 800) (by decide +kernel), List.mem_of_getElem? (i := 801) (by decide +kernel)⟩
theorem lw_p30 : lw_okq (⟨"LineDispatchModel", "requires", "(ZI)V"⟩, 24) := ⟨⟨by decide +kernel, by decide +kernel⟩, List.mem_of_getElem? (i := 701) (by decide +kernel), List.mem_of_getElem? (i := 808) (by decide +kernel), List.mem_of_getElem? (i := 809) (by decide +kernel)⟩
theorem lw_p31 : lw_okq (⟨"LineDispatchModel", "readLine", "()V"⟩, 24) := ⟨⟨by decide +kernel, by decide +kernel⟩, List.mem_of_getElem? (i := 701) (by decide +kernel), List.mem_of_getElem? (i := 812) (by decide +kernel), List.mem_of_getElem? (i := 813) (by decide +kernel)⟩
def lw_privs_2 : List (MethodName × Nat) := [(⟨"LineDispatch$Postures", "firstToGoAlone", "(LLineDispatch$Line;)I"⟩, 8), (⟨"LineDispatch$Postures", "goesAlone", "(LLineDispatch$Line;I)Z"⟩, 8), (⟨"LineDispatch", "howManyFree", "()I"⟩, 8), (⟨"LineDispatch", "against", "(LLineDispatch$Line;I)I"⟩, 8), (⟨"LineDispatch$Postures", "endsBehind", "(I)I"⟩, 8), (⟨"LineDispatch$Postures", "markNext", "(LLineDispatch$Line;I)V"⟩, 8), (⟨"LineDispatch", "planned", "(IZ)I"⟩, 8), (⟨"LineDispatch", "letAllGo", "(LLineDispatch$Line;I)I"⟩, 8), (⟨"LineDispatch", "firstBy", "(LLineDispatch$Line;I)I"⟩, 8), (⟨"LineDispatch$Line", "enterJournal", "(II)V"⟩, 16), (⟨"LineDispatch$Line", "forgetFirstEntry", "()V"⟩, 16), (⟨"LineDispatch$Line", "removeEntries", "(I)V"⟩, 16), (⟨"LineDispatchModel", "reads", "()V"⟩, 24), (⟨"LineDispatchModel", "byteAt", "(I)I"⟩, 24), (⟨"LineDispatchModel", "requires", "(ZI)V"⟩, 24), (⟨"LineDispatchModel", "readLine", "()V"⟩, 24)]
theorem lw_r2 : ∀ q ∈ lw_privs_2, lw_okq q := List.forall_mem_cons.mpr ⟨lw_p16, List.forall_mem_cons.mpr ⟨lw_p17, List.forall_mem_cons.mpr ⟨lw_p18, List.forall_mem_cons.mpr ⟨lw_p19, List.forall_mem_cons.mpr ⟨lw_p20, List.forall_mem_cons.mpr ⟨lw_p21, List.forall_mem_cons.mpr ⟨lw_p22, List.forall_mem_cons.mpr ⟨lw_p23, List.forall_mem_cons.mpr ⟨lw_p24, List.forall_mem_cons.mpr ⟨lw_p25, List.forall_mem_cons.mpr ⟨lw_p26, List.forall_mem_cons.mpr ⟨lw_p27, List.forall_mem_cons.mpr ⟨lw_p28, List.forall_mem_cons.mpr ⟨lw_p29, List.forall_mem_cons.mpr ⟨lw_p30, List.forall_mem_cons.mpr ⟨lw_p31, fun _ h => absurd h List.not_mem_nil⟩⟩⟩⟩⟩⟩⟩⟩⟩⟩⟩⟩⟩⟩⟩⟩
theorem lw_p32 : lw_okq (⟨"LineDispatchModel", "lineNow", "()I"⟩, 24) := ⟨⟨by decide +kernel, by decide +kernel⟩, List.mem_of_getElem? (i := 701) (by decide +kernel), List.mem_of_getElem? (i := 816) (by decide +kernel), List.mem_of_getElem? (i := 817) (by decide +kernel)⟩
theorem lw_p33 : lw_okq (⟨"LineDispatchModel", "is", "(IIIII)Z"⟩, 24) := ⟨⟨by decide +kernel, by decide +kernel⟩, List.mem_of_getElem? (i := 701) (by decide +kernel), List.mem_of_getElem? (i := 820) (by decide +kernel), List.mem_of_getElem? (i := 821) (by decide +kernel)⟩
theorem lw_p34 : lw_okq (⟨"LineDispatchModel", "hasRoom", "(I)Z"⟩, 24) := ⟨⟨by decide +kernel, by decide +kernel⟩, List.mem_of_getElem? (i := 701) (by decide +kernel), List.mem_of_getElem? (i := 824) (by decide +kernel), List.mem_of_getElem? (i := 825) (by decide +kernel)⟩
theorem lw_p35 : lw_okq (⟨"LineDispatchModel", "readPlace", "()V"⟩, 24) := ⟨⟨by decide +kernel, by decide +kernel⟩, List.mem_of_getElem? (i := 701) (by decide +kernel), List.mem_of_getElem? (i := 828) (by decide +kernel), List.mem_of_getElem? (i := 829) (by decide +kernel)⟩
theorem lw_p36 : lw_okq (⟨"LineDispatchModel", "readNumber", "(III)I"⟩, 24) := ⟨⟨by decide +kernel, by decide +kernel⟩, List.mem_of_getElem? (i := 701) (by decide +kernel), List.mem_of_getElem? (i := 832) (by decide +kernel), List.mem_of_getElem? (i := 833) (by decide +kernel)⟩
theorem lw_p37 : lw_okq (⟨"LineDispatchModel", "readTrain", "()V"⟩, 24) := ⟨⟨by decide +kernel, by decide +kernel⟩, List.mem_of_getElem? (i := 701) (by decide +kernel), List.mem_of_getElem? (i := 836) (by decide +kernel), List.mem_of_getElem? (i := 837) (by decide +kernel)⟩
theorem lw_p38 : lw_okq (⟨"LineDispatchModel", "keepBefore", "()V"⟩, 24) := ⟨⟨by decide +kernel, by decide +kernel⟩, List.mem_of_getElem? (i := 701) (by decide +kernel), List.mem_of_getElem? (i := 840) (by decide +kernel), List.mem_of_getElem? (i := 841) (by decide +kernel)⟩
theorem lw_p39 : lw_okq (⟨"LineDispatchModel", "areAllPlaces", "()Z"⟩, 24) := ⟨⟨by decide +kernel, by decide +kernel⟩, List.mem_of_getElem? (i := 701) (by decide +kernel), List.mem_of_getElem? (i := 844) (by decide +kernel), List.mem_of_getElem? (i := 845) (by decide +kernel)⟩
theorem lw_p40 : lw_okq (⟨"LineDispatchModel", "ofTrain", "(II)I"⟩, 24) := ⟨⟨by decide +kernel, by decide +kernel⟩, List.mem_of_getElem? (i := 701) (by decide +kernel), List.mem_of_getElem? (i := 848) (by decide +kernel), List.mem_of_getElem? (i := 849) (by decide +kernel)⟩
theorem lw_p41 : lw_okq (⟨"LineDispatchModel", "isHeldAll", "()Z"⟩, 24) := ⟨⟨by decide +kernel, by decide +kernel⟩, List.mem_of_getElem? (i := 701) (by decide +kernel), List.mem_of_getElem? (i := 852) (by decide +kernel), List.mem_of_getElem? (i := 853) (by decide +kernel)⟩
theorem lw_p42 : lw_okq (⟨"LineDispatchModel", "postureNow", "()I"⟩, 24) := ⟨⟨by decide +kernel, by decide +kernel⟩, List.mem_of_getElem? (i := 701) (by decide +kernel), List.mem_of_getElem? (i := 856) (by decide +kernel), List.mem_of_getElem? (i := 857) (by decide +kernel)⟩
theorem lw_p43 : lw_okq (⟨"LineDispatchModel", "isDoneIn", "(I)Z"⟩, 24) := ⟨⟨by decide +kernel, by decide +kernel⟩, List.mem_of_getElem? (i := 701) (by decide +kernel), List.mem_of_getElem? (i := 860) (by decide +kernel), List.mem_of_getElem? (i := 861) (by decide +kernel)⟩
theorem lw_p44 : lw_okq (⟨"LineDispatchModel", "decode", "(I)V"⟩, 24) := ⟨⟨by decide +kernel, by decide +kernel⟩, List.mem_of_getElem? (i := 701) (by decide +kernel), List.mem_of_getElem? (i := 867) (by decide +kernel), List.mem_of_getElem? (i := 868) (by decide +kernel)⟩
theorem lw_p45 : lw_okq (⟨"LineDispatchModel", "holds", "(I)Z"⟩, 24) := ⟨⟨by decide +kernel, by decide +kernel⟩, List.mem_of_getElem? (i := 701) (by decide +kernel), List.mem_of_getElem? (i := 871) (by decide +kernel), List.mem_of_getElem? (i := 872) (by decide +kernel)⟩
theorem lw_p46 : lw_okq (⟨"LineDispatchModel", "trainsFor", "(II)I"⟩, 24) := ⟨⟨by decide +kernel, by decide +kernel⟩, List.mem_of_getElem? (i := 701) (by decide +kernel), List.mem_of_getElem? (i := 875) (by decide +kernel), List.mem_of_getElem? (i := 876) (by decide +kernel)⟩
theorem lw_p47 : lw_okq (⟨"LineDispatchModel", "tracksFor", "(II)I"⟩, 24) := ⟨⟨by decide +kernel, by decide +kernel⟩, List.mem_of_getElem? (i := 701) (by decide +kernel), List.mem_of_getElem? (i := 882) (by decide +kernel), List.mem_of_getElem? (i := 883) (by decide +kernel)⟩
def lw_privs_3 : List (MethodName × Nat) := [(⟨"LineDispatchModel", "lineNow", "()I"⟩, 24), (⟨"LineDispatchModel", "is", "(IIIII)Z"⟩, 24), (⟨"LineDispatchModel", "hasRoom", "(I)Z"⟩, 24), (⟨"LineDispatchModel", "readPlace", "()V"⟩, 24), (⟨"LineDispatchModel", "readNumber", "(III)I"⟩, 24), (⟨"LineDispatchModel", "readTrain", "()V"⟩, 24), (⟨"LineDispatchModel", "keepBefore", "()V"⟩, 24), (⟨"LineDispatchModel", "areAllPlaces", "()Z"⟩, 24), (⟨"LineDispatchModel", "ofTrain", "(II)I"⟩, 24), (⟨"LineDispatchModel", "isHeldAll", "()Z"⟩, 24), (⟨"LineDispatchModel", "postureNow", "()I"⟩, 24), (⟨"LineDispatchModel", "isDoneIn", "(I)Z"⟩, 24), (⟨"LineDispatchModel", "decode", "(I)V"⟩, 24), (⟨"LineDispatchModel", "holds", "(I)Z"⟩, 24), (⟨"LineDispatchModel", "trainsFor", "(II)I"⟩, 24), (⟨"LineDispatchModel", "tracksFor", "(II)I"⟩, 24)]
theorem lw_r3 : ∀ q ∈ lw_privs_3, lw_okq q := List.forall_mem_cons.mpr ⟨lw_p32, List.forall_mem_cons.mpr ⟨lw_p33, List.forall_mem_cons.mpr ⟨lw_p34, List.forall_mem_cons.mpr ⟨lw_p35, List.forall_mem_cons.mpr ⟨lw_p36, List.forall_mem_cons.mpr ⟨lw_p37, List.forall_mem_cons.mpr ⟨lw_p38, List.forall_mem_cons.mpr ⟨lw_p39, List.forall_mem_cons.mpr ⟨lw_p40, List.forall_mem_cons.mpr ⟨lw_p41, List.forall_mem_cons.mpr ⟨lw_p42, List.forall_mem_cons.mpr ⟨lw_p43, List.forall_mem_cons.mpr ⟨lw_p44, List.forall_mem_cons.mpr ⟨lw_p45, List.forall_mem_cons.mpr ⟨lw_p46, List.forall_mem_cons.mpr ⟨lw_p47, fun _ h => absurd h List.not_mem_nil⟩⟩⟩⟩⟩⟩⟩⟩⟩⟩⟩⟩⟩⟩⟩⟩
theorem lw_p48 : lw_okq (⟨"LineDispatchModel", "ofPlace", "(II)I"⟩, 24) := ⟨⟨by decide +kernel, by decide +kernel⟩, List.mem_of_getElem? (i := 701) (by decide +kernel), List.mem_of_getElem? (i := 886) (by decide +kernel), List.mem_of_getElem? (i := 887) (by decide +kernel)⟩
theorem lw_p49 : lw_okq (⟨"LineDispatchModel", "isSafeNow", "()Z"⟩, 24) := ⟨⟨by decide +kernel, by decide +kernel⟩, List.mem_of_getElem? (i := 701) (by decide +kernel), List.mem_of_getElem? (i := 890) (by decide +kernel), List.mem_of_getElem? (i := 891) (by decide +kernel)⟩
theorem lw_p50 : lw_okq (⟨"LineDispatchModel", "explore", "(I)V"⟩, 24) := ⟨⟨by decide +kernel, by decide +kernel⟩, List.mem_of_getElem? (i := 701) (by decide +kernel), List.mem_of_getElem? (i := 894) (by decide +kernel), List.mem_of_getElem? (i := 895) (by decide +kernel)⟩
theorem lw_p51 : lw_okq (⟨"LineDispatchModel", "movedBy", "(I)I"⟩, 24) := ⟨⟨by decide +kernel, by decide +kernel⟩, List.mem_of_getElem? (i := 701) (by decide +kernel), List.mem_of_getElem? (i := 898) (by decide +kernel), List.mem_of_getElem? (i := 899) (by decide +kernel)⟩
theorem lw_p52 : lw_okq (⟨"LineDispatchModel", "nextFrom", "(II)I"⟩, 24) := ⟨⟨by decide +kernel, by decide +kernel⟩, List.mem_of_getElem? (i := 701) (by decide +kernel), List.mem_of_getElem? (i := 902) (by decide +kernel), List.mem_of_getElem? (i := 903) (by decide +kernel)⟩
theorem lw_p53 : lw_okq (⟨"LineDispatchModel", "encode", "()I"⟩, 24) := ⟨⟨by decide +kernel, by decide +kernel⟩, List.mem_of_getElem? (i := 701) (by decide +kernel), List.mem_of_getElem? (i := 906) (by decide +kernel), List.mem_of_getElem? (i := 907) (by decide +kernel)⟩
theorem lw_p54 : lw_okq (⟨"LineDispatchModel", "backBefore", "()V"⟩, 24) := ⟨⟨by decide +kernel, by decide +kernel⟩, List.mem_of_getElem? (i := 701) (by decide +kernel), List.mem_of_getElem? (i := 910) (by decide +kernel), List.mem_of_getElem? (i := 911) (by decide +kernel)⟩
theorem lw_p55 : lw_okq (⟨"LineDispatchModel", "withStatus", "(I)I"⟩, 24) := ⟨⟨by decide +kernel, by decide +kernel⟩, List.mem_of_getElem? (i := 701) (by decide +kernel), List.mem_of_getElem? (i := 922) (by decide +kernel), List.mem_of_getElem? (i := 923) (by decide +kernel)⟩
theorem lw_p56 : lw_okq (⟨"LineDispatchModel", "isPlain", "()Z"⟩, 24) := ⟨⟨by decide +kernel, by decide +kernel⟩, List.mem_of_getElem? (i := 701) (by decide +kernel), List.mem_of_getElem? (i := 926) (by decide +kernel), List.mem_of_getElem? (i := 927) (by decide +kernel)⟩
theorem lw_p57 : lw_okq (⟨"LineDispatchModel", "findSequence", "()V"⟩, 24) := ⟨⟨by decide +kernel, by decide +kernel⟩, List.mem_of_getElem? (i := 701) (by decide +kernel), List.mem_of_getElem? (i := 930) (by decide +kernel), List.mem_of_getElem? (i := 931) (by decide +kernel)⟩
theorem lw_p58 : lw_okq (⟨"LineDispatchModel", "goesAlone", "(I)Z"⟩, 24) := ⟨⟨by decide +kernel, by decide +kernel⟩, List.mem_of_getElem? (i := 701) (by decide +kernel), List.mem_of_getElem? (i := 934) (by decide +kernel), List.mem_of_getElem? (i := 935) (by decide +kernel)⟩
theorem lw_p59 : lw_okq (⟨"LineDispatchModel", "movesLeft", "()I"⟩, 24) := ⟨⟨by decide +kernel, by decide +kernel⟩, List.mem_of_getElem? (i := 701) (by decide +kernel), List.mem_of_getElem? (i := 938) (by decide +kernel), List.mem_of_getElem? (i := 939) (by decide +kernel)⟩
theorem lw_p60 : lw_okq (⟨"LineDispatchModel", "canGo", "()I"⟩, 24) := ⟨⟨by decide +kernel, by decide +kernel⟩, List.mem_of_getElem? (i := 701) (by decide +kernel), List.mem_of_getElem? (i := 942) (by decide +kernel), List.mem_of_getElem? (i := 943) (by decide +kernel)⟩
theorem lw_p61 : lw_okq (⟨"LineDispatchModel", "against", "(I)I"⟩, 24) := ⟨⟨by decide +kernel, by decide +kernel⟩, List.mem_of_getElem? (i := 701) (by decide +kernel), List.mem_of_getElem? (i := 946) (by decide +kernel), List.mem_of_getElem? (i := 947) (by decide +kernel)⟩
theorem lw_p62 : lw_okq (⟨"LineDispatchModel", "runsBetween", "(II)I"⟩, 24) := ⟨⟨by decide +kernel, by decide +kernel⟩, List.mem_of_getElem? (i := 701) (by decide +kernel), List.mem_of_getElem? (i := 950) (by decide +kernel), List.mem_of_getElem? (i := 951) (by decide +kernel)⟩
theorem lw_p63 : lw_okq (⟨"LineDispatchModel", "leftBy", "(I)I"⟩, 24) := ⟨⟨by decide +kernel, by decide +kernel⟩, List.mem_of_getElem? (i := 701) (by decide +kernel), List.mem_of_getElem? (i := 954) (by decide +kernel), List.mem_of_getElem? (i := 955) (by decide +kernel)⟩
def lw_privs_4 : List (MethodName × Nat) := [(⟨"LineDispatchModel", "ofPlace", "(II)I"⟩, 24), (⟨"LineDispatchModel", "isSafeNow", "()Z"⟩, 24), (⟨"LineDispatchModel", "explore", "(I)V"⟩, 24), (⟨"LineDispatchModel", "movedBy", "(I)I"⟩, 24), (⟨"LineDispatchModel", "nextFrom", "(II)I"⟩, 24), (⟨"LineDispatchModel", "encode", "()I"⟩, 24), (⟨"LineDispatchModel", "backBefore", "()V"⟩, 24), (⟨"LineDispatchModel", "withStatus", "(I)I"⟩, 24), (⟨"LineDispatchModel", "isPlain", "()Z"⟩, 24), (⟨"LineDispatchModel", "findSequence", "()V"⟩, 24), (⟨"LineDispatchModel", "goesAlone", "(I)Z"⟩, 24), (⟨"LineDispatchModel", "movesLeft", "()I"⟩, 24), (⟨"LineDispatchModel", "canGo", "()I"⟩, 24), (⟨"LineDispatchModel", "against", "(I)I"⟩, 24), (⟨"LineDispatchModel", "runsBetween", "(II)I"⟩, 24), (⟨"LineDispatchModel", "leftBy", "(I)I"⟩, 24)]
theorem lw_r4 : ∀ q ∈ lw_privs_4, lw_okq q := List.forall_mem_cons.mpr ⟨lw_p48, List.forall_mem_cons.mpr ⟨lw_p49, List.forall_mem_cons.mpr ⟨lw_p50, List.forall_mem_cons.mpr ⟨lw_p51, List.forall_mem_cons.mpr ⟨lw_p52, List.forall_mem_cons.mpr ⟨lw_p53, List.forall_mem_cons.mpr ⟨lw_p54, List.forall_mem_cons.mpr ⟨lw_p55, List.forall_mem_cons.mpr ⟨lw_p56, List.forall_mem_cons.mpr ⟨lw_p57, List.forall_mem_cons.mpr ⟨lw_p58, List.forall_mem_cons.mpr ⟨lw_p59, List.forall_mem_cons.mpr ⟨lw_p60, List.forall_mem_cons.mpr ⟨lw_p61, List.forall_mem_cons.mpr ⟨lw_p62, List.forall_mem_cons.mpr ⟨lw_p63, fun _ h => absurd h List.not_mem_nil⟩⟩⟩⟩⟩⟩⟩⟩⟩⟩⟩⟩⟩⟩⟩⟩
theorem lw_p64 : lw_okq (⟨"LineDispatchModel", "isPlace", "(I)Z"⟩, 24) := ⟨⟨by decide +kernel, by decide +kernel⟩, List.mem_of_getElem? (i := 701) (by decide +kernel), List.mem_of_getElem? (i := 962) (by decide +kernel), List.mem_of_getElem? (i := 963) (by decide +kernel)⟩
theorem lw_p65 : lw_okq (⟨"LineDispatchModel", "trackOf", "(II)I"⟩, 24) := ⟨⟨by decide +kernel, by decide +kernel⟩, List.mem_of_getElem? (i := 701) (by decide +kernel), List.mem_of_getElem? (i := 966) (by decide +kernel), List.mem_of_getElem? (i := 967) (by decide +kernel)⟩
theorem lw_p66 : lw_okq (⟨"LineDispatchModel", "trainsAt", "(I)I"⟩, 24) := ⟨⟨by decide +kernel, by decide +kernel⟩, List.mem_of_getElem? (i := 701) (by decide +kernel), List.mem_of_getElem? (i := 970) (by decide +kernel), List.mem_of_getElem? (i := 971) (by decide +kernel)⟩
theorem lw_p67 : lw_okq (⟨"LineDispatchModel", "isTrain", "(I)Z"⟩, 24) := ⟨⟨by decide +kernel, by decide +kernel⟩, List.mem_of_getElem? (i := 701) (by decide +kernel), List.mem_of_getElem? (i := 978) (by decide +kernel), List.mem_of_getElem? (i := 979) (by decide +kernel)⟩
theorem lw_p68 : lw_okq (⟨"LineDispatchModel", "minutesStill", "(I)I"⟩, 24) := ⟨⟨by decide +kernel, by decide +kernel⟩, List.mem_of_getElem? (i := 701) (by decide +kernel), List.mem_of_getElem? (i := 982) (by decide +kernel), List.mem_of_getElem? (i := 983) (by decide +kernel)⟩
theorem lw_p69 : lw_okq (⟨"LineDispatchModel", "minutesOf", "(II)I"⟩, 24) := ⟨⟨by decide +kernel, by decide +kernel⟩, List.mem_of_getElem? (i := 701) (by decide +kernel), List.mem_of_getElem? (i := 986) (by decide +kernel), List.mem_of_getElem? (i := 987) (by decide +kernel)⟩
theorem lw_p70 : lw_okq (⟨"LineDispatchModel", "firstAt", "(I)I"⟩, 24) := ⟨⟨by decide +kernel, by decide +kernel⟩, List.mem_of_getElem? (i := 701) (by decide +kernel), List.mem_of_getElem? (i := 998) (by decide +kernel), List.mem_of_getElem? (i := 999) (by decide +kernel)⟩
theorem lw_p71 : lw_okq (⟨"LineDispatchModel", "firstStuck", "(I)I"⟩, 24) := ⟨⟨by decide +kernel, by decide +kernel⟩, List.mem_of_getElem? (i := 701) (by decide +kernel), List.mem_of_getElem? (i := 1002) (by decide +kernel), List.mem_of_getElem? (i := 1003) (by decide +kernel)⟩
theorem lw_p72 : lw_okq (⟨"LineDispatchModel", "isEverDone", "(I)Z"⟩, 24) := ⟨⟨by decide +kernel, by decide +kernel⟩, List.mem_of_getElem? (i := 701) (by decide +kernel), List.mem_of_getElem? (i := 1006) (by decide +kernel), List.mem_of_getElem? (i := 1007) (by decide +kernel)⟩
theorem lw_p73 : lw_okq (⟨"LineDispatchModel", "planned", "(II)I"⟩, 24) := ⟨⟨by decide +kernel, by decide +kernel⟩, List.mem_of_getElem? (i := 701) (by decide +kernel), List.mem_of_getElem? (i := 1023) (by decide +kernel), List.mem_of_getElem? (i := 1024) (by decide +kernel)⟩
theorem lw_p74 : lw_okq (⟨"LineDispatchModel", "sends", "(I)I"⟩, 24) := ⟨⟨by decide +kernel, by decide +kernel⟩, List.mem_of_getElem? (i := 701) (by decide +kernel), List.mem_of_getElem? (i := 1027) (by decide +kernel), List.mem_of_getElem? (i := 1028) (by decide +kernel)⟩
theorem lw_p75 : lw_okq (⟨"LineDispatchModel", "firstBy", "(I)I"⟩, 24) := ⟨⟨by decide +kernel, by decide +kernel⟩, List.mem_of_getElem? (i := 701) (by decide +kernel), List.mem_of_getElem? (i := 1031) (by decide +kernel), List.mem_of_getElem? (i := 1032) (by decide +kernel)⟩
theorem lw_p76 : lw_okq (⟨"LineDispatchModel", "isAhead", "(III)Z"⟩, 24) := ⟨⟨by decide +kernel, by decide +kernel⟩, List.mem_of_getElem? (i := 701) (by decide +kernel), List.mem_of_getElem? (i := 1035) (by decide +kernel), List.mem_of_getElem? (i := 1036) (by decide +kernel)⟩
theorem lw_p77 : lw_okq (⟨"LineDispatchModel", "goes", "(I)V"⟩, 24) := ⟨⟨by decide +kernel, by decide +kernel⟩, List.mem_of_getElem? (i := 701) (by decide +kernel), List.mem_of_getElem? (i := 1039) (by decide +kernel), List.mem_of_getElem? (i := 1040) (by decide +kernel)⟩
theorem lw_p78 : lw_okq (⟨"LineDispatchModel", "enters", "(II)V"⟩, 24) := ⟨⟨by decide +kernel, by decide +kernel⟩, List.mem_of_getElem? (i := 701) (by decide +kernel), List.mem_of_getElem? (i := 1043) (by decide +kernel), List.mem_of_getElem? (i := 1044) (by decide +kernel)⟩
theorem lw_p79 : lw_okq (⟨"LineDispatchModel", "entry", "(II)I"⟩, 24) := ⟨⟨by decide +kernel, by decide +kernel⟩, List.mem_of_getElem? (i := 701) (by decide +kernel), List.mem_of_getElem? (i := 1047) (by decide +kernel), List.mem_of_getElem? (i := 1048) (by decide +kernel)⟩
def lw_privs_5 : List (MethodName × Nat) := [(⟨"LineDispatchModel", "isPlace", "(I)Z"⟩, 24), (⟨"LineDispatchModel", "trackOf", "(II)I"⟩, 24), (⟨"LineDispatchModel", "trainsAt", "(I)I"⟩, 24), (⟨"LineDispatchModel", "isTrain", "(I)Z"⟩, 24), (⟨"LineDispatchModel", "minutesStill", "(I)I"⟩, 24), (⟨"LineDispatchModel", "minutesOf", "(II)I"⟩, 24), (⟨"LineDispatchModel", "firstAt", "(I)I"⟩, 24), (⟨"LineDispatchModel", "firstStuck", "(I)I"⟩, 24), (⟨"LineDispatchModel", "isEverDone", "(I)Z"⟩, 24), (⟨"LineDispatchModel", "planned", "(II)I"⟩, 24), (⟨"LineDispatchModel", "sends", "(I)I"⟩, 24), (⟨"LineDispatchModel", "firstBy", "(I)I"⟩, 24), (⟨"LineDispatchModel", "isAhead", "(III)Z"⟩, 24), (⟨"LineDispatchModel", "goes", "(I)V"⟩, 24), (⟨"LineDispatchModel", "enters", "(II)V"⟩, 24), (⟨"LineDispatchModel", "entry", "(II)I"⟩, 24)]
theorem lw_r5 : ∀ q ∈ lw_privs_5, lw_okq q := List.forall_mem_cons.mpr ⟨lw_p64, List.forall_mem_cons.mpr ⟨lw_p65, List.forall_mem_cons.mpr ⟨lw_p66, List.forall_mem_cons.mpr ⟨lw_p67, List.forall_mem_cons.mpr ⟨lw_p68, List.forall_mem_cons.mpr ⟨lw_p69, List.forall_mem_cons.mpr ⟨lw_p70, List.forall_mem_cons.mpr ⟨lw_p71, List.forall_mem_cons.mpr ⟨lw_p72, List.forall_mem_cons.mpr ⟨lw_p73, List.forall_mem_cons.mpr ⟨lw_p74, List.forall_mem_cons.mpr ⟨lw_p75, List.forall_mem_cons.mpr ⟨lw_p76, List.forall_mem_cons.mpr ⟨lw_p77, List.forall_mem_cons.mpr ⟨lw_p78, List.forall_mem_cons.mpr ⟨lw_p79, fun _ h => absurd h List.not_mem_nil⟩⟩⟩⟩⟩⟩⟩⟩⟩⟩⟩⟩⟩⟩⟩⟩
theorem lw_p80 : lw_okq (⟨"LineDispatchModel", "goesOn", "(I)I"⟩, 24) := ⟨⟨by decide +kernel, by decide +kernel⟩, List.mem_of_getElem? (i := 701) (by decide +kernel), List.mem_of_getElem? (i := 1051) (by decide +kernel), List.mem_of_getElem? (i := 1052) (by decide +kernel)⟩
theorem lw_p81 : lw_okq (⟨"LineDispatchModel", "isGood", "(III)Z"⟩, 24) := ⟨⟨by decide +kernel, by decide +kernel⟩, List.mem_of_getElem? (i := 701) (by decide +kernel), List.mem_of_getElem? (i := 1080) (by decide +kernel), List.mem_of_getElem? (i := 1081) (by decide +kernel)⟩
theorem lw_p82 : lw_okq (⟨"LineDispatchModel", "leavesJournal", "(I)V"⟩, 24) := ⟨⟨by decide +kernel, by decide +kernel⟩, List.mem_of_getElem? (i := 701) (by decide +kernel), List.mem_of_getElem? (i := 1089) (by decide +kernel), List.mem_of_getElem? (i := 1090) (by decide +kernel)⟩
theorem lw_p83 : lw_okq (⟨"LineDispatchModel", "summed", "(III)I"⟩, 24) := ⟨⟨by decide +kernel, by decide +kernel⟩, List.mem_of_getElem? (i := 701) (by decide +kernel), List.mem_of_getElem? (i := 1133) (by decide +kernel), List.mem_of_getElem? (i := 1134) (by decide +kernel)⟩
def lw_privs_6 : List (MethodName × Nat) := [(⟨"LineDispatchModel", "goesOn", "(I)I"⟩, 24), (⟨"LineDispatchModel", "isGood", "(III)Z"⟩, 24), (⟨"LineDispatchModel", "leavesJournal", "(I)V"⟩, 24), (⟨"LineDispatchModel", "summed", "(III)I"⟩, 24)]
theorem lw_r6 : ∀ q ∈ lw_privs_6, lw_okq q := List.forall_mem_cons.mpr ⟨lw_p80, List.forall_mem_cons.mpr ⟨lw_p81, List.forall_mem_cons.mpr ⟨lw_p82, List.forall_mem_cons.mpr ⟨lw_p83, fun _ h => absurd h List.not_mem_nil⟩⟩⟩⟩
def lw_privs : List (MethodName × Nat) := lw_privs_1 ++ (lw_privs_2 ++ (lw_privs_3 ++ (lw_privs_4 ++ (lw_privs_5 ++ (lw_privs_6)))))
def lw_tbl : List Cond := k2_sels lw_privs ++ tables_1
theorem lw_privs_ok : ∀ q ∈ lw_privs, lw_okq q := by
  show ∀ q ∈ lw_privs_1 ++ (lw_privs_2 ++ (lw_privs_3 ++ (lw_privs_4 ++ (lw_privs_5 ++ (lw_privs_6))))), lw_okq q
  exact List.forall_mem_append.mpr ⟨lw_r1, List.forall_mem_append.mpr ⟨lw_r2, List.forall_mem_append.mpr ⟨lw_r3, List.forall_mem_append.mpr ⟨lw_r4, List.forall_mem_append.mpr ⟨lw_r5, lw_r6⟩⟩⟩⟩⟩
-- ===== end of PART A; then your names; then what follows =====
def RX0 : String := "LineDispatch$Line"
def TX0 : u_T := fun k => match k with
  | 0 => ("LineDispatch$Line", "places", "I", false)
  | 1 => ("LineDispatch$Line", "tracks", "[I", true)
  | 2 => ("LineDispatch$Line", "lengths", "[I", true)
  | 3 => ("LineDispatch$Line", "minutes", "[I", true)
  | 4 => ("LineDispatch$Line", "trains", "I", false)
  | 5 => ("LineDispatch$Line", "from", "[I", true)
  | 6 => ("LineDispatch$Line", "to", "[I", true)
  | 7 => ("LineDispatch$Line", "size", "[I", true)
  | 8 => ("LineDispatch$Line", "left", "[I", true)
  | 9 => ("LineDispatch$Line", "status", "[I", true)
  | 10 => ("LineDispatch$Line", "when", "[I", true)
  | 11 => ("LineDispatch$Line", "clock", "I", false)
  | 12 => ("LineDispatch$Line", "entries", "I", false)
  | 13 => ("LineDispatch$Line", "entryMinute", "[I", true)
  | 14 => ("LineDispatch$Line", "entryTrain", "[I", true)
  | _ => ("LineDispatch$Line", "entryPlace", "[I", true)
def tyX0 : Nat → FieldType := fun k => match k with
  | 0 => .int
  | 1 => .array .int
  | 2 => .array .int
  | 3 => .array .int
  | 4 => .int
  | 5 => .array .int
  | 6 => .array .int
  | 7 => .array .int
  | 8 => .array .int
  | 9 => .array .int
  | 10 => .array .int
  | 11 => .int
  | 12 => .int
  | 13 => .array .int
  | 14 => .array .int
  | _ => .array .int
abbrev wsX00 : List Cond := u_ws RX0 TX0 16
theorem nmX0 : ∀ a, a < 16 → ∀ b, b < 16 → a ≠ b → (TX0 a).2.1 ≠ (TX0 b).2.1 := by decide +kernel
theorem tyX0_ok : ∀ k, k < 16 → parseFieldDescriptor (TX0 k).2.2.1 = some (tyX0 k) := by decide +kernel
abbrev cX0_init : ByteArray := prog_2_method_1_code
def yX0_init : MethodName := ⟨RX0, "<init>", "()V"⟩
abbrev cX0_copyFrom : ByteArray := prog_2_method_2_code
def yX0_copyFrom : MethodName := ⟨RX0, "copyFrom", "(LLineDispatch$Line;)V"⟩
abbrev cX0_clearAll : ByteArray := prog_2_method_3_code
def yX0_clearAll : MethodName := ⟨RX0, "clearAll", "()V"⟩
abbrev cX0_hasPlace : ByteArray := prog_2_method_4_code
def yX0_hasPlace : MethodName := ⟨RX0, "hasPlace", "(I)Z"⟩
abbrev cX0_hasTrain : ByteArray := prog_2_method_5_code
def yX0_hasTrain : MethodName := ⟨RX0, "hasTrain", "(I)Z"⟩
abbrev cX0_hasAllToldPlaces : ByteArray := prog_2_method_6_code
def yX0_hasAllToldPlaces : MethodName := ⟨RX0, "hasAllToldPlaces", "()Z"⟩
abbrev cX0_openPlace : ByteArray := prog_2_method_7_code
def yX0_openPlace : MethodName := ⟨RX0, "openPlace", "()V"⟩
abbrev cX0_openTrack : ByteArray := prog_2_method_8_code
def yX0_openTrack : MethodName := ⟨RX0, "openTrack", "(I)V"⟩
abbrev cX0_openTrain : ByteArray := prog_2_method_9_code
def yX0_openTrain : MethodName := ⟨RX0, "openTrain", "(III)V"⟩
abbrev cX0_removeTrain : ByteArray := prog_2_method_10_code
def yX0_removeTrain : MethodName := ⟨RX0, "removeTrain", "(I)V"⟩
abbrev cX0_removeEntries : ByteArray := prog_2_method_11_code
def yX0_removeEntries : MethodName := ⟨RX0, "removeEntries", "(I)V"⟩
abbrev cX0_howMany : ByteArray := prog_2_method_12_code
def yX0_howMany : MethodName := ⟨RX0, "howMany", "(I)I"⟩
abbrev cX0_howManyThere : ByteArray := prog_2_method_13_code
def yX0_howManyThere : MethodName := ⟨RX0, "howManyThere", "(I)I"⟩
abbrev cX0_stepsLeft : ByteArray := prog_2_method_14_code
def yX0_stepsLeft : MethodName := ⟨RX0, "stepsLeft", "()I"⟩
abbrev cX0_spot : ByteArray := prog_2_method_15_code
def yX0_spot : MethodName := ⟨RX0, "spot", "(II)I"⟩
abbrev cX0_sectionAhead : ByteArray := prog_2_method_16_code
def yX0_sectionAhead : MethodName := ⟨RX0, "sectionAhead", "(II)I"⟩
abbrev cX0_minutesLeft : ByteArray := prog_2_method_17_code
def yX0_minutesLeft : MethodName := ⟨RX0, "minutesLeft", "(I)I"⟩
abbrev cX0_runnerIn : ByteArray := prog_2_method_18_code
def yX0_runnerIn : MethodName := ⟨RX0, "runnerIn", "(I)I"⟩
abbrev cX0_depart : ByteArray := prog_2_method_19_code
def yX0_depart : MethodName := ⟨RX0, "depart", "(I)V"⟩
abbrev cX0_enterJournal : ByteArray := prog_2_method_20_code
def yX0_enterJournal : MethodName := ⟨RX0, "enterJournal", "(II)V"⟩
abbrev cX0_forgetFirstEntry : ByteArray := prog_2_method_21_code
def yX0_forgetFirstEntry : MethodName := ⟨RX0, "forgetFirstEntry", "()V"⟩
abbrev cX0_passTime : ByteArray := prog_2_method_22_code
def yX0_passTime : MethodName := ⟨RX0, "passTime", "(I)I"⟩
abbrev cX0_latestEnd : ByteArray := prog_2_method_23_code
def yX0_latestEnd : MethodName := ⟨RX0, "latestEnd", "()I"⟩
abbrev cX0_waitForNext : ByteArray := prog_2_method_24_code
def yX0_waitForNext : MethodName := ⟨RX0, "waitForNext", "()I"⟩
def RX1 : String := "LineDispatch$Postures"
def TX1 : u_T := fun k => match k with
  | 0 => ("LineDispatch$Postures", "rooms", "[Z", true)
  | 1 => ("LineDispatch$Postures", "ends", "[I", true)
  | 2 => ("LineDispatch$Postures", "seen", "[B", true)
  | 3 => ("LineDispatch$Postures", "left", "[I", true)
  | 4 => ("LineDispatch$Postures", "there", "[I", true)
  | 5 => ("LineDispatch$Postures", "row", "[I", true)
  | 6 => ("LineDispatch$Postures", "roomsKnown", "Z", false)
  | _ => ("LineDispatch$Postures", "endsKnown", "Z", false)
def tyX1 : Nat → FieldType := fun k => match k with
  | 0 => .array .boolean
  | 1 => .array .int
  | 2 => .array .byte
  | 3 => .array .int
  | 4 => .array .int
  | 5 => .array .int
  | 6 => .boolean
  | _ => .boolean
abbrev wsX10 : List Cond := u_ws RX1 TX1 8
theorem nmX1 : ∀ a, a < 8 → ∀ b, b < 8 → a ≠ b → (TX1 a).2.1 ≠ (TX1 b).2.1 := by decide +kernel
theorem tyX1_ok : ∀ k, k < 8 → parseFieldDescriptor (TX1 k).2.2.1 = some (tyX1 k) := by decide +kernel
abbrev cX1_init : ByteArray := prog_3_method_1_code
def yX1_init : MethodName := ⟨RX1, "<init>", "()V"⟩
abbrev cX1_forget : ByteArray := prog_3_method_2_code
def yX1_forget : MethodName := ⟨RX1, "forget", "()V"⟩
abbrev cX1_learnRooms : ByteArray := prog_3_method_3_code
def yX1_learnRooms : MethodName := ⟨RX1, "learnRooms", "(LLineDispatch$Line;)V"⟩
abbrev cX1_fits : ByteArray := prog_3_method_4_code
def yX1_fits : MethodName := ⟨RX1, "fits", "(LLineDispatch$Line;II)Z"⟩
abbrev cX1_tracksFor : ByteArray := prog_3_method_5_code
def yX1_tracksFor : MethodName := ⟨RX1, "tracksFor", "(LLineDispatch$Line;II)I"⟩
abbrev cX1_trainsOf : ByteArray := prog_3_method_6_code
def yX1_trainsOf : MethodName := ⟨RX1, "trainsOf", "(LLineDispatch$Line;II)I"⟩
abbrev cX1_learn : ByteArray := prog_3_method_7_code
def yX1_learn : MethodName := ⟨RX1, "learn", "(LLineDispatch$Line;)V"⟩
abbrev cX1_learnEnds : ByteArray := prog_3_method_8_code
def yX1_learnEnds : MethodName := ⟨RX1, "learnEnds", "(LLineDispatch$Line;)V"⟩
abbrev cX1_highest : ByteArray := prog_3_method_9_code
def yX1_highest : MethodName := ⟨RX1, "highest", "(LLineDispatch$Line;I)I"⟩
abbrev cX1_learnOne : ByteArray := prog_3_method_10_code
def yX1_learnOne : MethodName := ⟨RX1, "learnOne", "(LLineDispatch$Line;)V"⟩
abbrev cX1_code : ByteArray := prog_3_method_11_code
def yX1_code : MethodName := ⟨RX1, "code", "()I"⟩
abbrev cX1_placeAll : ByteArray := prog_3_method_12_code
def yX1_placeAll : MethodName := ⟨RX1, "placeAll", "(LLineDispatch$Line;)V"⟩
abbrev cX1_look : ByteArray := prog_3_method_13_code
def yX1_look : MethodName := ⟨RX1, "look", "(LLineDispatch$Line;)V"⟩
abbrev cX1_canStep : ByteArray := prog_3_method_14_code
def yX1_canStep : MethodName := ⟨RX1, "canStep", "(LLineDispatch$Line;I)Z"⟩
abbrev cX1_endsBehind : ByteArray := prog_3_method_15_code
def yX1_endsBehind : MethodName := ⟨RX1, "endsBehind", "(I)I"⟩
abbrev cX1_isSafeBehind : ByteArray := prog_3_method_16_code
def yX1_isSafeBehind : MethodName := ⟨RX1, "isSafeBehind", "(I)Z"⟩
abbrev cX1_firstLostBehind : ByteArray := prog_3_method_17_code
def yX1_firstLostBehind : MethodName := ⟨RX1, "firstLostBehind", "(LLineDispatch$Line;I)I"⟩
abbrev cX1_firstAhead : ByteArray := prog_3_method_18_code
def yX1_firstAhead : MethodName := ⟨RX1, "firstAhead", "(LLineDispatch$Line;I)I"⟩
abbrev cX1_holdsAll : ByteArray := prog_3_method_19_code
def yX1_holdsAll : MethodName := ⟨RX1, "holdsAll", "(LLineDispatch$Line;)Z"⟩
abbrev cX1_isSafe : ByteArray := prog_3_method_20_code
def yX1_isSafe : MethodName := ⟨RX1, "isSafe", "()Z"⟩
abbrev cX1_reached : ByteArray := prog_3_method_21_code
def yX1_reached : MethodName := ⟨RX1, "reached", "(LLineDispatch$Line;Z)I"⟩
abbrev cX1_markNext : ByteArray := prog_3_method_22_code
def yX1_markNext : MethodName := ⟨RX1, "markNext", "(LLineDispatch$Line;I)V"⟩
abbrev cX1_goOneByOne : ByteArray := prog_3_method_23_code
def yX1_goOneByOne : MethodName := ⟨RX1, "goOneByOne", "(LLineDispatch$Line;)I"⟩
abbrev cX1_firstToGoAlone : ByteArray := prog_3_method_24_code
def yX1_firstToGoAlone : MethodName := ⟨RX1, "firstToGoAlone", "(LLineDispatch$Line;)I"⟩
abbrev cX1_goesAlone : ByteArray := prog_3_method_25_code
def yX1_goesAlone : MethodName := ⟨RX1, "goesAlone", "(LLineDispatch$Line;I)Z"⟩
def RX2 : String := "LineDispatch$Reader"
def TX2 : u_T := fun k => match k with
  | 0 => ("LineDispatch$Reader", "tape", "[B", true)
  | 1 => ("LineDispatch$Reader", "size", "I", false)
  | 2 => ("LineDispatch$Reader", "fault", "I", false)
  | 3 => ("LineDispatch$Reader", "faultAt", "I", false)
  | 4 => ("LineDispatch$Reader", "next", "I", false)
  | 5 => ("LineDispatch$Reader", "start", "I", false)
  | 6 => ("LineDispatch$Reader", "kind", "I", false)
  | _ => ("LineDispatch$Reader", "value", "I", false)
def tyX2 : Nat → FieldType := fun k => match k with
  | 0 => .array .byte
  | 1 => .int
  | 2 => .int
  | 3 => .int
  | 4 => .int
  | 5 => .int
  | 6 => .int
  | _ => .int
abbrev wsX20 : List Cond := u_ws RX2 TX2 8
theorem nmX2 : ∀ a, a < 8 → ∀ b, b < 8 → a ≠ b → (TX2 a).2.1 ≠ (TX2 b).2.1 := by decide +kernel
theorem tyX2_ok : ∀ k, k < 8 → parseFieldDescriptor (TX2 k).2.2.1 = some (tyX2 k) := by decide +kernel
abbrev cX2_init : ByteArray := prog_4_method_1_code
def yX2_init : MethodName := ⟨RX2, "<init>", "()V"⟩
abbrev cX2_readInto : ByteArray := prog_4_method_2_code
def yX2_readInto : MethodName := ⟨RX2, "readInto", "(LLineDispatch$Line;)I"⟩
abbrev cX2_failBehindAll : ByteArray := prog_4_method_3_code
def yX2_failBehindAll : MethodName := ⟨RX2, "failBehindAll", "(I)V"⟩
abbrev cX2_fail : ByteArray := prog_4_method_4_code
def yX2_fail : MethodName := ⟨RX2, "fail", "(I)Z"⟩
abbrev cX2_takeLine : ByteArray := prog_4_method_5_code
def yX2_takeLine : MethodName := ⟨RX2, "takeLine", "(LLineDispatch$Line;)Z"⟩
abbrev cX2_takePlace : ByteArray := prog_4_method_6_code
def yX2_takePlace : MethodName := ⟨RX2, "takePlace", "(LLineDispatch$Line;)Z"⟩
abbrev cX2_takeSection : ByteArray := prog_4_method_7_code
def yX2_takeSection : MethodName := ⟨RX2, "takeSection", "(LLineDispatch$Line;)Z"⟩
abbrev cX2_takeTrain : ByteArray := prog_4_method_8_code
def yX2_takeTrain : MethodName := ⟨RX2, "takeTrain", "(LLineDispatch$Line;)Z"⟩
abbrev cX2_takeNumber : ByteArray := prog_4_method_9_code
def yX2_takeNumber : MethodName := ⟨RX2, "takeNumber", "(II)Z"⟩
abbrev cX2_isNumberWithin : ByteArray := prog_4_method_10_code
def yX2_isNumberWithin : MethodName := ⟨RX2, "isNumberWithin", "(II)Z"⟩
abbrev cX2_takeSign : ByteArray := prog_4_method_11_code
def yX2_takeSign : MethodName := ⟨RX2, "takeSign", "()Z"⟩
abbrev cX2_takeToken : ByteArray := prog_4_method_12_code
def yX2_takeToken : MethodName := ⟨RX2, "takeToken", "()Z"⟩
abbrev cX2_kindOf : ByteArray := prog_4_method_13_code
def yX2_kindOf : MethodName := ⟨RX2, "kindOf", "(I)I"⟩
abbrev cX2_isWord : ByteArray := prog_4_method_14_code
def yX2_isWord : MethodName := ⟨RX2, "isWord", "(Ljava/lang/String;)Z"⟩
def RX3 : String := "LineDispatch$Sheet"
def TX3 : u_T := fun k => match k with
  | 0 => ("LineDispatch$Sheet", "size", "I", false)
  | 1 => ("LineDispatch$Sheet", "cells", "[I", true)
  | _ => ("LineDispatch$Sheet", "lane", "I", false)
def tyX3 : Nat → FieldType := fun k => match k with
  | 0 => .int
  | 1 => .array .int
  | _ => .int
abbrev wsX30 : List Cond := u_ws RX3 TX3 3
theorem nmX3 : ∀ a, a < 3 → ∀ b, b < 3 → a ≠ b → (TX3 a).2.1 ≠ (TX3 b).2.1 := by decide +kernel
theorem tyX3_ok : ∀ k, k < 3 → parseFieldDescriptor (TX3 k).2.2.1 = some (tyX3 k) := by decide +kernel
abbrev cX3_init : ByteArray := prog_5_method_1_code
def yX3_init : MethodName := ⟨RX3, "<init>", "()V"⟩
abbrev cX3_renew : ByteArray := prog_5_method_2_code
def yX3_renew : MethodName := ⟨RX3, "renew", "(II)V"⟩
abbrev cX3_faultOfCell : ByteArray := prog_5_method_3_code
def yX3_faultOfCell : MethodName := ⟨RX3, "faultOfCell", "(I)I"⟩
abbrev cX3_faultOfThree : ByteArray := prog_5_method_4_code
def yX3_faultOfThree : MethodName := ⟨RX3, "faultOfThree", "(II)I"⟩
abbrev cX3_put : ByteArray := prog_5_method_5_code
def yX3_put : MethodName := ⟨RX3, "put", "(II)V"⟩
def RX4 : String := "LineDispatch"
def TX4 : u_T := fun k => match k with
  | 0 => ("LineDispatch", "line", "LLineDispatch$Line;", true)
  | 1 => ("LineDispatch", "spare", "LLineDispatch$Line;", true)
  | 2 => ("LineDispatch", "images", "[LLineDispatch$Line;", true)
  | 3 => ("LineDispatch", "kept", "[Z", true)
  | 4 => ("LineDispatch", "sheets", "[LLineDispatch$Sheet;", true)
  | 5 => ("LineDispatch", "postures", "LLineDispatch$Postures;", true)
  | 6 => ("LineDispatch", "reader", "LLineDispatch$Reader;", true)
  | _ => ("LineDispatch", "latestTorn", "I", false)
def tyX4 : Nat → FieldType := fun k => match k with
  | 0 => .object "LineDispatch$Line"
  | 1 => .object "LineDispatch$Line"
  | 2 => .array (.object "LineDispatch$Line")
  | 3 => .array .boolean
  | 4 => .array (.object "LineDispatch$Sheet")
  | 5 => .object "LineDispatch$Postures"
  | 6 => .object "LineDispatch$Reader"
  | _ => .int
abbrev wsX40 : List Cond := u_ws RX4 TX4 8
theorem nmX4 : ∀ a, a < 8 → ∀ b, b < 8 → a ≠ b → (TX4 a).2.1 ≠ (TX4 b).2.1 := by decide +kernel
theorem tyX4_ok : ∀ k, k < 8 → parseFieldDescriptor (TX4 k).2.2.1 = some (tyX4 k) := by decide +kernel
abbrev cX4_init : ByteArray := prog_1_method_1_code
def yX4_init : MethodName := ⟨RX4, "<init>", "()V"⟩
abbrev cX4_feed : ByteArray := prog_1_method_2_code
def yX4_feed : MethodName := ⟨RX4, "feed", "(I)I"⟩
abbrev cX4_end : ByteArray := prog_1_method_3_code
def yX4_end : MethodName := ⟨RX4, "end", "(I)I"⟩
abbrev cX4_text : ByteArray := prog_1_method_4_code
def yX4_text : MethodName := ⟨RX4, "text", "()I"⟩
abbrev cX4_fault : ByteArray := prog_1_method_5_code
def yX4_fault : MethodName := ⟨RX4, "fault", "()I"⟩
abbrev cX4_rule : ByteArray := prog_1_method_6_code
def yX4_rule : MethodName := ⟨RX4, "rule", "(I)I"⟩
abbrev cX4_place : ByteArray := prog_1_method_7_code
def yX4_place : MethodName := ⟨RX4, "place", "(II)I"⟩
abbrev cX4_train : ByteArray := prog_1_method_8_code
def yX4_train : MethodName := ⟨RX4, "train", "(II)I"⟩
abbrev cX4_why : ByteArray := prog_1_method_9_code
def yX4_why : MethodName := ⟨RX4, "why", "(I)I"⟩
abbrev cX4_who : ByteArray := prog_1_method_10_code
def yX4_who : MethodName := ⟨RX4, "who", "(I)I"⟩
abbrev cX4_order : ByteArray := prog_1_method_11_code
def yX4_order : MethodName := ⟨RX4, "order", "(I)I"⟩
abbrev cX4_reach : ByteArray := prog_1_method_12_code
def yX4_reach : MethodName := ⟨RX4, "reach", "(I)I"⟩
abbrev cX4_plan : ByteArray := prog_1_method_13_code
def yX4_plan : MethodName := ⟨RX4, "plan", "(II)I"⟩
abbrev cX4_best : ByteArray := prog_1_method_14_code
def yX4_best : MethodName := ⟨RX4, "best", "()I"⟩
abbrev cX4_let : ByteArray := prog_1_method_15_code
def yX4_let : MethodName := ⟨RX4, "let", "(I)I"⟩
abbrev cX4_tick : ByteArray := prog_1_method_16_code
def yX4_tick : MethodName := ⟨RX4, "tick", "(I)I"⟩
abbrev cX4_send : ByteArray := prog_1_method_17_code
def yX4_send : MethodName := ⟨RX4, "send", "(I)I"⟩
abbrev cX4_journal : ByteArray := prog_1_method_18_code
def yX4_journal : MethodName := ⟨RX4, "journal", "(II)I"⟩
abbrev cX4_add : ByteArray := prog_1_method_19_code
def yX4_add : MethodName := ⟨RX4, "add", "(III)I"⟩
abbrev cX4_drop : ByteArray := prog_1_method_20_code
def yX4_drop : MethodName := ⟨RX4, "drop", "(I)I"⟩
abbrev cX4_draw : ByteArray := prog_1_method_21_code
def yX4_draw : MethodName := ⟨RX4, "draw", "(II)I"⟩
abbrev cX4_keep : ByteArray := prog_1_method_22_code
def yX4_keep : MethodName := ⟨RX4, "keep", "(I)I"⟩
abbrev cX4_back : ByteArray := prog_1_method_23_code
def yX4_back : MethodName := ⟨RX4, "back", "(I)I"⟩
abbrev cX4_sheet : ByteArray := prog_1_method_24_code
def yX4_sheet : MethodName := ⟨RX4, "sheet", "(III)I"⟩
abbrev cX4_lay : ByteArray := prog_1_method_25_code
def yX4_lay : MethodName := ⟨RX4, "lay", "(III)I"⟩
abbrev cX4_read : ByteArray := prog_1_method_26_code
def yX4_read : MethodName := ⟨RX4, "read", "(IIII)I"⟩
abbrev cX4_torn : ByteArray := prog_1_method_27_code
def yX4_torn : MethodName := ⟨RX4, "torn", "()I"⟩
abbrev cX4_count : ByteArray := prog_1_method_28_code
def yX4_count : MethodName := ⟨RX4, "count", "(I)I"⟩
abbrev cX4_isRule : ByteArray := prog_1_method_29_code
def yX4_isRule : MethodName := ⟨RX4, "isRule", "(I)Z"⟩
abbrev cX4_isImage : ByteArray := prog_1_method_30_code
def yX4_isImage : MethodName := ⟨RX4, "isImage", "(I)Z"⟩
abbrev cX4_isSheet : ByteArray := prog_1_method_31_code
def yX4_isSheet : MethodName := ⟨RX4, "isSheet", "(I)Z"⟩
abbrev cX4_isLane : ByteArray := prog_1_method_32_code
def yX4_isLane : MethodName := ⟨RX4, "isLane", "(I)Z"⟩
abbrev cX4_sum : ByteArray := prog_1_method_33_code
def yX4_sum : MethodName := ⟨RX4, "sum", "([II)I"⟩
abbrev cX4_faultBehindAll : ByteArray := prog_1_method_34_code
def yX4_faultBehindAll : MethodName := ⟨RX4, "faultBehindAll", "(LLineDispatch$Line;)I"⟩
abbrev cX4_isPlain : ByteArray := prog_1_method_35_code
def yX4_isPlain : MethodName := ⟨RX4, "isPlain", "()Z"⟩
abbrev cX4_against : ByteArray := prog_1_method_36_code
def yX4_against : MethodName := ⟨RX4, "against", "(LLineDispatch$Line;I)I"⟩
abbrev cX4_letAllGo : ByteArray := prog_1_method_37_code
def yX4_letAllGo : MethodName := ⟨RX4, "letAllGo", "(LLineDispatch$Line;I)I"⟩
abbrev cX4_firstBy : ByteArray := prog_1_method_38_code
def yX4_firstBy : MethodName := ⟨RX4, "firstBy", "(LLineDispatch$Line;I)I"⟩
abbrev cX4_isAhead : ByteArray := prog_1_method_39_code
def yX4_isAhead : MethodName := ⟨RX4, "isAhead", "(LLineDispatch$Line;III)Z"⟩
abbrev cX4_howManyFree : ByteArray := prog_1_method_40_code
def yX4_howManyFree : MethodName := ⟨RX4, "howManyFree", "()I"⟩
abbrev cX4_planned : ByteArray := prog_1_method_41_code
def yX4_planned : MethodName := ⟨RX4, "planned", "(IZ)I"⟩
def RX5 : String := "LineDispatchModel"
def TX5 : u_T := fun k => match k with
  | 0 => ("LineDispatchModel", "st", "[I", true)
  | 1 => ("LineDispatchModel", "draft", "[I", true)
  | 2 => ("LineDispatchModel", "before", "[I", true)
  | 3 => ("LineDispatchModel", "kept", "[I", true)
  | 4 => ("LineDispatchModel", "isKept", "[Z", true)
  | 5 => ("LineDispatchModel", "tape", "[I", true)
  | 6 => ("LineDispatchModel", "taped", "I", false)
  | 7 => ("LineDispatchModel", "pos", "I", false)
  | 8 => ("LineDispatchModel", "begun", "I", false)
  | 9 => ("LineDispatchModel", "sort", "I", false)
  | 10 => ("LineDispatchModel", "figure", "I", false)
  | 11 => ("LineDispatchModel", "fault", "I", false)
  | 12 => ("LineDispatchModel", "wrongAt", "I", false)
  | 13 => ("LineDispatchModel", "spot", "[I", true)
  | 14 => ("LineDispatchModel", "queue", "[I", true)
  | 15 => ("LineDispatchModel", "isSeen", "[Z", true)
  | 16 => ("LineDispatchModel", "isSafe", "[Z", true)
  | 17 => ("LineDispatchModel", "queued", "I", false)
  | 18 => ("LineDispatchModel", "sequence", "[I", true)
  | 19 => ("LineDispatchModel", "sequenceMany", "I", false)
  | 20 => ("LineDispatchModel", "lanes", "[I", true)
  | 21 => ("LineDispatchModel", "sizes", "[I", true)
  | 22 => ("LineDispatchModel", "cells", "[I", true)
  | _ => ("LineDispatchModel", "torn", "I", false)
def tyX5 : Nat → FieldType := fun k => match k with
  | 0 => .array .int
  | 1 => .array .int
  | 2 => .array .int
  | 3 => .array .int
  | 4 => .array .boolean
  | 5 => .array .int
  | 6 => .int
  | 7 => .int
  | 8 => .int
  | 9 => .int
  | 10 => .int
  | 11 => .int
  | 12 => .int
  | 13 => .array .int
  | 14 => .array .int
  | 15 => .array .boolean
  | 16 => .array .boolean
  | 17 => .int
  | 18 => .array .int
  | 19 => .int
  | 20 => .array .int
  | 21 => .array .int
  | 22 => .array .int
  | _ => .int
abbrev wsX50 : List Cond := u_ws RX5 TX5 24
theorem nmX5 : ∀ a, a < 24 → ∀ b, b < 24 → a ≠ b → (TX5 a).2.1 ≠ (TX5 b).2.1 := by decide +kernel
theorem tyX5_ok : ∀ k, k < 24 → parseFieldDescriptor (TX5 k).2.2.1 = some (tyX5 k) := by decide +kernel
abbrev cX5_init : ByteArray := prog_7_method_1_code
def yX5_init : MethodName := ⟨RX5, "<init>", "()V"⟩
abbrev cX5_in : ByteArray := prog_7_method_3_code
def yX5_in : MethodName := ⟨RX5, "in", "(JJJ)Z"⟩
abbrev cX5_flag : ByteArray := prog_7_method_4_code
def yX5_flag : MethodName := ⟨RX5, "flag", "(Z)I"⟩
abbrev cX5_keepBefore : ByteArray := prog_7_method_5_code
def yX5_keepBefore : MethodName := ⟨RX5, "keepBefore", "()V"⟩
abbrev cX5_backBefore : ByteArray := prog_7_method_6_code
def yX5_backBefore : MethodName := ⟨RX5, "backBefore", "()V"⟩
abbrev cX5_feed : ByteArray := prog_7_method_7_code
def yX5_feed : MethodName := ⟨RX5, "feed", "(I)I"⟩
abbrev cX5_end : ByteArray := prog_7_method_8_code
def yX5_end : MethodName := ⟨RX5, "end", "(I)I"⟩
abbrev cX5_requires : ByteArray := prog_7_method_9_code
def yX5_requires : MethodName := ⟨RX5, "requires", "(ZI)V"⟩
abbrev cX5_byteAt : ByteArray := prog_7_method_10_code
def yX5_byteAt : MethodName := ⟨RX5, "byteAt", "(I)I"⟩
abbrev cX5_is : ByteArray := prog_7_method_11_code
def yX5_is : MethodName := ⟨RX5, "is", "(IIIII)Z"⟩
abbrev cX5_lineNow : ByteArray := prog_7_method_12_code
def yX5_lineNow : MethodName := ⟨RX5, "lineNow", "()I"⟩
abbrev cX5_hasRoom : ByteArray := prog_7_method_13_code
def yX5_hasRoom : MethodName := ⟨RX5, "hasRoom", "(I)Z"⟩
abbrev cX5_reads : ByteArray := prog_7_method_14_code
def yX5_reads : MethodName := ⟨RX5, "reads", "()V"⟩
abbrev cX5_readNumber : ByteArray := prog_7_method_15_code
def yX5_readNumber : MethodName := ⟨RX5, "readNumber", "(III)I"⟩
abbrev cX5_readPlace : ByteArray := prog_7_method_16_code
def yX5_readPlace : MethodName := ⟨RX5, "readPlace", "()V"⟩
abbrev cX5_readTrain : ByteArray := prog_7_method_17_code
def yX5_readTrain : MethodName := ⟨RX5, "readTrain", "()V"⟩
abbrev cX5_readLine : ByteArray := prog_7_method_18_code
def yX5_readLine : MethodName := ⟨RX5, "readLine", "()V"⟩
abbrev cX5_areAllPlaces : ByteArray := prog_7_method_19_code
def yX5_areAllPlaces : MethodName := ⟨RX5, "areAllPlaces", "()Z"⟩
abbrev cX5_isHeldAll : ByteArray := prog_7_method_20_code
def yX5_isHeldAll : MethodName := ⟨RX5, "isHeldAll", "()Z"⟩
abbrev cX5_isSafeNow : ByteArray := prog_7_method_21_code
def yX5_isSafeNow : MethodName := ⟨RX5, "isSafeNow", "()Z"⟩
abbrev cX5_text : ByteArray := prog_7_method_22_code
def yX5_text : MethodName := ⟨RX5, "text", "()I"⟩
abbrev cX5_fault : ByteArray := prog_7_method_23_code
def yX5_fault : MethodName := ⟨RX5, "fault", "()I"⟩
abbrev cX5_isPlace : ByteArray := prog_7_method_24_code
def yX5_isPlace : MethodName := ⟨RX5, "isPlace", "(I)Z"⟩
abbrev cX5_isTrain : ByteArray := prog_7_method_25_code
def yX5_isTrain : MethodName := ⟨RX5, "isTrain", "(I)Z"⟩
abbrev cX5_ofTrain : ByteArray := prog_7_method_26_code
def yX5_ofTrain : MethodName := ⟨RX5, "ofTrain", "(II)I"⟩
abbrev cX5_ofPlace : ByteArray := prog_7_method_27_code
def yX5_ofPlace : MethodName := ⟨RX5, "ofPlace", "(II)I"⟩
abbrev cX5_nextFrom : ByteArray := prog_7_method_28_code
def yX5_nextFrom : MethodName := ⟨RX5, "nextFrom", "(II)I"⟩
abbrev cX5_isDoneIn : ByteArray := prog_7_method_29_code
def yX5_isDoneIn : MethodName := ⟨RX5, "isDoneIn", "(I)Z"⟩
abbrev cX5_minutesOf : ByteArray := prog_7_method_30_code
def yX5_minutesOf : MethodName := ⟨RX5, "minutesOf", "(II)I"⟩
abbrev cX5_minutesStill : ByteArray := prog_7_method_31_code
def yX5_minutesStill : MethodName := ⟨RX5, "minutesStill", "(I)I"⟩
abbrev cX5_withStatus : ByteArray := prog_7_method_32_code
def yX5_withStatus : MethodName := ⟨RX5, "withStatus", "(I)I"⟩
abbrev cX5_movesLeft : ByteArray := prog_7_method_33_code
def yX5_movesLeft : MethodName := ⟨RX5, "movesLeft", "()I"⟩
abbrev cX5_weightOf : ByteArray := prog_7_method_34_code
def yX5_weightOf : MethodName := ⟨RX5, "weightOf", "(I)I"⟩
abbrev cX5_postureNow : ByteArray := prog_7_method_35_code
def yX5_postureNow : MethodName := ⟨RX5, "postureNow", "()I"⟩
abbrev cX5_decode : ByteArray := prog_7_method_36_code
def yX5_decode : MethodName := ⟨RX5, "decode", "(I)V"⟩
abbrev cX5_encode : ByteArray := prog_7_method_37_code
def yX5_encode : MethodName := ⟨RX5, "encode", "()I"⟩
abbrev cX5_tracksFor : ByteArray := prog_7_method_38_code
def yX5_tracksFor : MethodName := ⟨RX5, "tracksFor", "(II)I"⟩
abbrev cX5_trainsFor : ByteArray := prog_7_method_39_code
def yX5_trainsFor : MethodName := ⟨RX5, "trainsFor", "(II)I"⟩
abbrev cX5_holds : ByteArray := prog_7_method_40_code
def yX5_holds : MethodName := ⟨RX5, "holds", "(I)Z"⟩
abbrev cX5_movedBy : ByteArray := prog_7_method_41_code
def yX5_movedBy : MethodName := ⟨RX5, "movedBy", "(I)I"⟩
abbrev cX5_explore : ByteArray := prog_7_method_42_code
def yX5_explore : MethodName := ⟨RX5, "explore", "(I)V"⟩
abbrev cX5_goesAlone : ByteArray := prog_7_method_43_code
def yX5_goesAlone : MethodName := ⟨RX5, "goesAlone", "(I)Z"⟩
abbrev cX5_findSequence : ByteArray := prog_7_method_44_code
def yX5_findSequence : MethodName := ⟨RX5, "findSequence", "()V"⟩
abbrev cX5_isPlain : ByteArray := prog_7_method_45_code
def yX5_isPlain : MethodName := ⟨RX5, "isPlain", "()Z"⟩
abbrev cX5_leftBy : ByteArray := prog_7_method_46_code
def yX5_leftBy : MethodName := ⟨RX5, "leftBy", "(I)I"⟩
abbrev cX5_runsBetween : ByteArray := prog_7_method_47_code
def yX5_runsBetween : MethodName := ⟨RX5, "runsBetween", "(II)I"⟩
abbrev cX5_against : ByteArray := prog_7_method_48_code
def yX5_against : MethodName := ⟨RX5, "against", "(I)I"⟩
abbrev cX5_canGo : ByteArray := prog_7_method_49_code
def yX5_canGo : MethodName := ⟨RX5, "canGo", "()I"⟩
abbrev cX5_rule : ByteArray := prog_7_method_50_code
def yX5_rule : MethodName := ⟨RX5, "rule", "(I)I"⟩
abbrev cX5_trackOf : ByteArray := prog_7_method_51_code
def yX5_trackOf : MethodName := ⟨RX5, "trackOf", "(II)I"⟩
abbrev cX5_trainsAt : ByteArray := prog_7_method_52_code
def yX5_trainsAt : MethodName := ⟨RX5, "trainsAt", "(I)I"⟩
abbrev cX5_place : ByteArray := prog_7_method_53_code
def yX5_place : MethodName := ⟨RX5, "place", "(II)I"⟩
abbrev cX5_train : ByteArray := prog_7_method_54_code
def yX5_train : MethodName := ⟨RX5, "train", "(II)I"⟩
abbrev cX5_why : ByteArray := prog_7_method_55_code
def yX5_why : MethodName := ⟨RX5, "why", "(I)I"⟩
abbrev cX5_firstAt : ByteArray := prog_7_method_56_code
def yX5_firstAt : MethodName := ⟨RX5, "firstAt", "(I)I"⟩
abbrev cX5_isEverDone : ByteArray := prog_7_method_57_code
def yX5_isEverDone : MethodName := ⟨RX5, "isEverDone", "(I)Z"⟩
abbrev cX5_firstStuck : ByteArray := prog_7_method_58_code
def yX5_firstStuck : MethodName := ⟨RX5, "firstStuck", "(I)I"⟩
abbrev cX5_who : ByteArray := prog_7_method_59_code
def yX5_who : MethodName := ⟨RX5, "who", "(I)I"⟩
abbrev cX5_order : ByteArray := prog_7_method_60_code
def yX5_order : MethodName := ⟨RX5, "order", "(I)I"⟩
abbrev cX5_reach : ByteArray := prog_7_method_61_code
def yX5_reach : MethodName := ⟨RX5, "reach", "(I)I"⟩
abbrev cX5_enters : ByteArray := prog_7_method_62_code
def yX5_enters : MethodName := ⟨RX5, "enters", "(II)V"⟩
abbrev cX5_entry : ByteArray := prog_7_method_63_code
def yX5_entry : MethodName := ⟨RX5, "entry", "(II)I"⟩
abbrev cX5_goes : ByteArray := prog_7_method_64_code
def yX5_goes : MethodName := ⟨RX5, "goes", "(I)V"⟩
abbrev cX5_goesOn : ByteArray := prog_7_method_65_code
def yX5_goesOn : MethodName := ⟨RX5, "goesOn", "(I)I"⟩
abbrev cX5_isAhead : ByteArray := prog_7_method_66_code
def yX5_isAhead : MethodName := ⟨RX5, "isAhead", "(III)Z"⟩
abbrev cX5_firstBy : ByteArray := prog_7_method_67_code
def yX5_firstBy : MethodName := ⟨RX5, "firstBy", "(I)I"⟩
abbrev cX5_sends : ByteArray := prog_7_method_68_code
def yX5_sends : MethodName := ⟨RX5, "sends", "(I)I"⟩
abbrev cX5_planned : ByteArray := prog_7_method_69_code
def yX5_planned : MethodName := ⟨RX5, "planned", "(II)I"⟩
abbrev cX5_plan : ByteArray := prog_7_method_70_code
def yX5_plan : MethodName := ⟨RX5, "plan", "(II)I"⟩
abbrev cX5_best : ByteArray := prog_7_method_71_code
def yX5_best : MethodName := ⟨RX5, "best", "()I"⟩
abbrev cX5_let : ByteArray := prog_7_method_72_code
def yX5_let : MethodName := ⟨RX5, "let", "(I)I"⟩
abbrev cX5_tick : ByteArray := prog_7_method_73_code
def yX5_tick : MethodName := ⟨RX5, "tick", "(I)I"⟩
abbrev cX5_send : ByteArray := prog_7_method_74_code
def yX5_send : MethodName := ⟨RX5, "send", "(I)I"⟩
abbrev cX5_journal : ByteArray := prog_7_method_75_code
def yX5_journal : MethodName := ⟨RX5, "journal", "(II)I"⟩
abbrev cX5_isGood : ByteArray := prog_7_method_76_code
def yX5_isGood : MethodName := ⟨RX5, "isGood", "(III)Z"⟩
abbrev cX5_add : ByteArray := prog_7_method_77_code
def yX5_add : MethodName := ⟨RX5, "add", "(III)I"⟩
abbrev cX5_leavesJournal : ByteArray := prog_7_method_78_code
def yX5_leavesJournal : MethodName := ⟨RX5, "leavesJournal", "(I)V"⟩
abbrev cX5_drop : ByteArray := prog_7_method_79_code
def yX5_drop : MethodName := ⟨RX5, "drop", "(I)I"⟩
abbrev cX5_draw : ByteArray := prog_7_method_80_code
def yX5_draw : MethodName := ⟨RX5, "draw", "(II)I"⟩
abbrev cX5_keep : ByteArray := prog_7_method_81_code
def yX5_keep : MethodName := ⟨RX5, "keep", "(I)I"⟩
abbrev cX5_back : ByteArray := prog_7_method_82_code
def yX5_back : MethodName := ⟨RX5, "back", "(I)I"⟩
abbrev cX5_isSheet : ByteArray := prog_7_method_83_code
def yX5_isSheet : MethodName := ⟨RX5, "isSheet", "(II)Z"⟩
abbrev cX5_sheet : ByteArray := prog_7_method_84_code
def yX5_sheet : MethodName := ⟨RX5, "sheet", "(III)I"⟩
abbrev cX5_lay : ByteArray := prog_7_method_85_code
def yX5_lay : MethodName := ⟨RX5, "lay", "(III)I"⟩
abbrev cX5_read : ByteArray := prog_7_method_86_code
def yX5_read : MethodName := ⟨RX5, "read", "(IIII)I"⟩
abbrev cX5_torn : ByteArray := prog_7_method_87_code
def yX5_torn : MethodName := ⟨RX5, "torn", "()I"⟩
abbrev cX5_summed : ByteArray := prog_7_method_88_code
def yX5_summed : MethodName := ⟨RX5, "summed", "(III)I"⟩
abbrev cX5_count : ByteArray := prog_7_method_89_code
def yX5_count : MethodName := ⟨RX5, "count", "(I)I"⟩
def RJx145de : String := "java/io/Serializable"
def TJx145de : u_T := fun k => match k with
  | _ => ("", "", "", false)
def tyJx145de : Nat → FieldType := fun k => match k with
  | _ => .int
abbrev wsJx145de0 : List Cond := u_ws RJx145de TJx145de 0
theorem nmJx145de : ∀ a, a < 0 → ∀ b, b < 0 → a ≠ b → (TJx145de a).2.1 ≠ (TJx145de b).2.1 := by decide +kernel
theorem tyJx145de_ok : ∀ k, k < 0 → parseFieldDescriptor (TJx145de k).2.2.1 = some (tyJx145de k) := by decide +kernel
def RJx9f9b0 : String := "java/lang/CharSequence"
def TJx9f9b0 : u_T := fun k => match k with
  | _ => ("", "", "", false)
def tyJx9f9b0 : Nat → FieldType := fun k => match k with
  | _ => .int
abbrev wsJx9f9b00 : List Cond := u_ws RJx9f9b0 TJx9f9b0 0
theorem nmJx9f9b0 : ∀ a, a < 0 → ∀ b, b < 0 → a ≠ b → (TJx9f9b0 a).2.1 ≠ (TJx9f9b0 b).2.1 := by decide +kernel
theorem tyJx9f9b0_ok : ∀ k, k < 0 → parseFieldDescriptor (TJx9f9b0 k).2.2.1 = some (tyJx9f9b0 k) := by decide +kernel
def RJxb160c : String := "java/lang/Comparable"
def TJxb160c : u_T := fun k => match k with
  | _ => ("", "", "", false)
def tyJxb160c : Nat → FieldType := fun k => match k with
  | _ => .int
abbrev wsJxb160c0 : List Cond := u_ws RJxb160c TJxb160c 0
theorem nmJxb160c : ∀ a, a < 0 → ∀ b, b < 0 → a ≠ b → (TJxb160c a).2.1 ≠ (TJxb160c b).2.1 := by decide +kernel
theorem tyJxb160c_ok : ∀ k, k < 0 → parseFieldDescriptor (TJxb160c k).2.2.1 = some (tyJxb160c k) := by decide +kernel
def RJ9 : String := "java/lang/Math"
def TJ9 : u_T := fun k => match k with
  | _ => ("", "", "", false)
def tyJ9 : Nat → FieldType := fun k => match k with
  | _ => .int
abbrev wsJ90 : List Cond := u_ws RJ9 TJ9 0
theorem nmJ9 : ∀ a, a < 0 → ∀ b, b < 0 → a ≠ b → (TJ9 a).2.1 ≠ (TJ9 b).2.1 := by decide +kernel
theorem tyJ9_ok : ∀ k, k < 0 → parseFieldDescriptor (TJ9 k).2.2.1 = some (tyJ9 k) := by decide +kernel
abbrev cJ9_abs_0f7a4 : ByteArray := prog_8_method_59_code
def yJ9_abs_0f7a4 : MethodName := ⟨RJ9, "abs", "(I)I"⟩
abbrev cJ9_max_7cf53 : ByteArray := prog_8_method_65_code
def yJ9_max_7cf53 : MethodName := ⟨RJ9, "max", "(II)I"⟩
def RJ0 : String := "java/lang/String"
def TJ0 : u_T := fun k => match k with
  | _ => ("", "", "", false)
def tyJ0 : Nat → FieldType := fun k => match k with
  | _ => .int
abbrev wsJ00 : List Cond := u_ws RJ0 TJ0 0
theorem nmJ0 : ∀ a, a < 0 → ∀ b, b < 0 → a ≠ b → (TJ0 a).2.1 ≠ (TJ0 b).2.1 := by decide +kernel
theorem tyJ0_ok : ∀ k, k < 0 → parseFieldDescriptor (TJ0 k).2.2.1 = some (tyJ0 k) := by decide +kernel
abbrev cJ0_length_8abf5 : ByteArray := prog_9_method_54_code
def yJ0_length_8abf5 : MethodName := ⟨RJ0, "length", "()I"⟩
abbrev cJ0_charAt_5068e : ByteArray := prog_9_method_56_code
def yJ0_charAt_5068e : MethodName := ⟨RJ0, "charAt", "(I)C"⟩
abbrev cJ0_coder_7d493 : ByteArray := prog_9_method_152_code
def yJ0_coder_7d493 : MethodName := ⟨RJ0, "coder", "()B"⟩
abbrev cJ0_isLatin1_aae02 : ByteArray := prog_9_method_154_code
def yJ0_isLatin1_aae02 : MethodName := ⟨RJ0, "isLatin1", "()Z"⟩
abbrev cJ0_checkIndex_df160 : ByteArray := prog_9_method_155_code
def yJ0_checkIndex_df160 : MethodName := ⟨RJ0, "checkIndex", "(II)V"⟩
def RJ1 : String := "java/lang/StringLatin1"
def TJ1 : u_T := fun k => match k with
  | _ => ("", "", "", false)
def tyJ1 : Nat → FieldType := fun k => match k with
  | _ => .int
abbrev wsJ10 : List Cond := u_ws RJ1 TJ1 0
theorem nmJ1 : ∀ a, a < 0 → ∀ b, b < 0 → a ≠ b → (TJ1 a).2.1 ≠ (TJ1 b).2.1 := by decide +kernel
theorem tyJ1_ok : ∀ k, k < 0 → parseFieldDescriptor (TJ1 k).2.2.1 = some (tyJ1 k) := by decide +kernel
abbrev cJ1_charAt_3b067 : ByteArray := prog_10_method_2_code
def yJ1_charAt_3b067 : MethodName := ⟨RJ1, "charAt", "([BI)C"⟩
def RJ2 : String := "java/lang/StringUTF16"
def TJ2 : u_T := fun k => match k with
  | _ => ("", "", "", false)
def tyJ2 : Nat → FieldType := fun k => match k with
  | _ => .int
abbrev wsJ20 : List Cond := u_ws RJ2 TJ2 0
theorem nmJ2 : ∀ a, a < 0 → ∀ b, b < 0 → a ≠ b → (TJ2 a).2.1 ≠ (TJ2 b).2.1 := by decide +kernel
theorem tyJ2_ok : ∀ k, k < 0 → parseFieldDescriptor (TJ2 k).2.2.1 = some (tyJ2 k) := by decide +kernel
abbrev cJ2_getChar_3b067 : ByteArray := prog_11_method_5_code
def yJ2_getChar_3b067 : MethodName := ⟨RJ2, "getChar", "([BI)C"⟩
abbrev cJ2_length_9d52b : ByteArray := prog_11_method_6_code
def yJ2_length_9d52b : MethodName := ⟨RJ2, "length", "([B)I"⟩
abbrev cJ2_charAt_3b067 : ByteArray := prog_11_method_83_code
def yJ2_charAt_3b067 : MethodName := ⟨RJ2, "charAt", "([BI)C"⟩
abbrev cJ2_checkIndex_2214a : ByteArray := prog_11_method_91_code
def yJ2_checkIndex_2214a : MethodName := ⟨RJ2, "checkIndex", "(I[B)V"⟩
def RJ10 : String := "java/lang/System"
def TJ10 : u_T := fun k => match k with
  | _ => ("", "", "", false)
def tyJ10 : Nat → FieldType := fun k => match k with
  | _ => .int
abbrev wsJ100 : List Cond := u_ws RJ10 TJ10 0
theorem nmJ10 : ∀ a, a < 0 → ∀ b, b < 0 → a ≠ b → (TJ10 a).2.1 ≠ (TJ10 b).2.1 := by decide +kernel
theorem tyJ10_ok : ∀ k, k < 0 → parseFieldDescriptor (TJ10 k).2.2.1 = some (tyJ10 k) := by decide +kernel
def RJxfd54e : String := "java/lang/constant/Constable"
def TJxfd54e : u_T := fun k => match k with
  | _ => ("", "", "", false)
def tyJxfd54e : Nat → FieldType := fun k => match k with
  | _ => .int
abbrev wsJxfd54e0 : List Cond := u_ws RJxfd54e TJxfd54e 0
theorem nmJxfd54e : ∀ a, a < 0 → ∀ b, b < 0 → a ≠ b → (TJxfd54e a).2.1 ≠ (TJxfd54e b).2.1 := by decide +kernel
theorem tyJxfd54e_ok : ∀ k, k < 0 → parseFieldDescriptor (TJxfd54e k).2.2.1 = some (tyJxfd54e k) := by decide +kernel
def RJx3cf43 : String := "java/lang/constant/ConstantDesc"
def TJx3cf43 : u_T := fun k => match k with
  | _ => ("", "", "", false)
def tyJx3cf43 : Nat → FieldType := fun k => match k with
  | _ => .int
abbrev wsJx3cf430 : List Cond := u_ws RJx3cf43 TJx3cf43 0
theorem nmJx3cf43 : ∀ a, a < 0 → ∀ b, b < 0 → a ≠ b → (TJx3cf43 a).2.1 ≠ (TJx3cf43 b).2.1 := by decide +kernel
theorem tyJx3cf43_ok : ∀ k, k < 0 → parseFieldDescriptor (TJx3cf43 k).2.2.1 = some (tyJx3cf43 k) := by decide +kernel
def RJ7 : String := "java/util/Arrays"
def TJ7 : u_T := fun k => match k with
  | _ => ("", "", "", false)
def tyJ7 : Nat → FieldType := fun k => match k with
  | _ => .int
abbrev wsJ70 : List Cond := u_ws RJ7 TJ7 0
theorem nmJ7 : ∀ a, a < 0 → ∀ b, b < 0 → a ≠ b → (TJ7 a).2.1 ≠ (TJ7 b).2.1 := by decide +kernel
theorem tyJ7_ok : ∀ k, k < 0 → parseFieldDescriptor (TJ7 k).2.2.1 = some (tyJ7 k) := by decide +kernel
abbrev cJ7_fill_53178 : ByteArray := prog_13_method_103_code
def yJ7_fill_53178 : MethodName := ⟨RJ7, "fill", "([II)V"⟩
abbrev cJ7_fill_031fb : ByteArray := prog_13_method_109_code
def yJ7_fill_031fb : MethodName := ⟨RJ7, "fill", "([BB)V"⟩
def RJ3 : String := "jdk/internal/util/Preconditions"
def TJ3 : u_T := fun k => match k with
  | _ => ("", "", "", false)
def tyJ3 : Nat → FieldType := fun k => match k with
  | _ => .int
abbrev wsJ30 : List Cond := u_ws RJ3 TJ3 0
theorem nmJ3 : ∀ a, a < 0 → ∀ b, b < 0 → a ≠ b → (TJ3 a).2.1 ≠ (TJ3 b).2.1 := by decide +kernel
theorem tyJ3_ok : ∀ k, k < 0 → parseFieldDescriptor (TJ3 k).2.2.1 = some (tyJ3 k) := by decide +kernel
abbrev cJ3_checkIndex_8e157 : ByteArray := prog_14_method_11_code
def yJ3_checkIndex_8e157 : MethodName := ⟨RJ3, "checkIndex", "(IILjava/util/function/BiFunction;)I"⟩
def RL : String := "LineDispatchLaw"
abbrev cL_law : ByteArray := code
def yL_law : MethodName := ⟨RL, "law", "([I)Z"⟩
abbrev vwCl : List vw_C := [(RX0, TX0, 16), (RX1, TX1, 8), (RX2, TX2, 8), (RX3, TX3, 3), (RX4, TX4, 8), (RX5, TX5, 24)]
/-- the words of the tables that hold at every state behind the start -/
def lw_ok : List Cond := lw_tbl.filter goodWord
theorem ok_mem {w : Cond} (h : w ∈ lw_tbl) (g : goodWord w = true) : w ∈ lw_ok := List.mem_filter.mpr ⟨h, g⟩
theorem ok_good {x y : Cond} (hy : y ∈ lw_ok) : GoodIn (x :: lw_ok) (y :: lw_ok) := by
  have key : ∀ w ∈ lw_ok, w ∈ x :: lw_ok ∧ ((w.onTables && w.keeps) = true ∨ ∃ ty, w = .arrayClass ty) := fun w h => ⟨List.mem_cons_of_mem _ h, good_of_word (List.mem_filter.mp h).2⟩
  intro w hw
  rcases List.mem_cons.mp hw with rfl | h
  · exact key _ hy
  · exact key w h
end
section
theorem dJ9_abs_0f7a4_0 : decode cJ9_abs_0f7a4 0 = .ok (.iload_n 0, 1) := by decide +kernel
theorem dJ9_abs_0f7a4_1 : decode cJ9_abs_0f7a4 1 = .ok (.ifCond .ge 8, 3) := by decide +kernel
theorem dJ9_abs_0f7a4_4 : decode cJ9_abs_0f7a4 4 = .ok (.iload_n 0, 1) := by decide +kernel
theorem dJ9_abs_0f7a4_5 : decode cJ9_abs_0f7a4 5 = .ok (.ineg, 1) := by decide +kernel
theorem dJ9_abs_0f7a4_6 : decode cJ9_abs_0f7a4 6 = .ok (.goto 4, 3) := by decide +kernel
theorem dJ9_abs_0f7a4_9 : decode cJ9_abs_0f7a4 9 = .ok (.iload_n 0, 1) := by decide +kernel
theorem dJ9_abs_0f7a4_10 : decode cJ9_abs_0f7a4 10 = .ok (.ireturn, 1) := by decide +kernel
theorem dJ9_max_7cf53_0 : decode cJ9_max_7cf53 0 = .ok (.iload_n 0, 1) := by decide +kernel
theorem dJ9_max_7cf53_1 : decode cJ9_max_7cf53 1 = .ok (.iload_n 1, 1) := by decide +kernel
theorem dJ9_max_7cf53_2 : decode cJ9_max_7cf53 2 = .ok (.if_icmp .lt 7, 3) := by decide +kernel
theorem dJ9_max_7cf53_5 : decode cJ9_max_7cf53 5 = .ok (.iload_n 0, 1) := by decide +kernel
theorem dJ9_max_7cf53_6 : decode cJ9_max_7cf53 6 = .ok (.goto 4, 3) := by decide +kernel
theorem dJ9_max_7cf53_9 : decode cJ9_max_7cf53 9 = .ok (.iload_n 1, 1) := by decide +kernel
theorem dJ9_max_7cf53_10 : decode cJ9_max_7cf53 10 = .ok (.ireturn, 1) := by decide +kernel
theorem dJ0_length_8abf5_0 : decode cJ0_length_8abf5 0 = .ok (.aload_n 0, 1) := by decide +kernel
theorem dJ0_length_8abf5_1 : decode cJ0_length_8abf5 1 = .ok (.getfield 9, 3) := by decide +kernel
theorem dJ0_length_8abf5_4 : decode cJ0_length_8abf5 4 = .ok (.arraylength, 1) := by decide +kernel
theorem dJ0_length_8abf5_5 : decode cJ0_length_8abf5 5 = .ok (.aload_n 0, 1) := by decide +kernel
theorem dJ0_length_8abf5_6 : decode cJ0_length_8abf5 6 = .ok (.invokevirtual 335, 3) := by decide +kernel
theorem dJ0_length_8abf5_9 : decode cJ0_length_8abf5 9 = .ok (.ishr, 1) := by decide +kernel
theorem dJ0_length_8abf5_10 : decode cJ0_length_8abf5 10 = .ok (.ireturn, 1) := by decide +kernel
theorem dJ0_charAt_5068e_0 : decode cJ0_charAt_5068e 0 = .ok (.aload_n 0, 1) := by decide +kernel
theorem dJ0_charAt_5068e_1 : decode cJ0_charAt_5068e 1 = .ok (.invokevirtual 492, 3) := by decide +kernel
theorem dJ0_charAt_5068e_4 : decode cJ0_charAt_5068e 4 = .ok (.ifCond .eq 12, 3) := by decide +kernel
theorem dJ0_charAt_5068e_7 : decode cJ0_charAt_5068e 7 = .ok (.aload_n 0, 1) := by decide +kernel
theorem dJ0_charAt_5068e_8 : decode cJ0_charAt_5068e 8 = .ok (.getfield 9, 3) := by decide +kernel
theorem dJ0_charAt_5068e_11 : decode cJ0_charAt_5068e 11 = .ok (.iload_n 1, 1) := by decide +kernel
theorem dJ0_charAt_5068e_12 : decode cJ0_charAt_5068e 12 = .ok (.invokestatic 495, 3) := by decide +kernel
theorem dJ0_charAt_5068e_15 : decode cJ0_charAt_5068e 15 = .ok (.ireturn, 1) := by decide +kernel
theorem dJ0_charAt_5068e_16 : decode cJ0_charAt_5068e 16 = .ok (.aload_n 0, 1) := by decide +kernel
theorem dJ0_charAt_5068e_17 : decode cJ0_charAt_5068e 17 = .ok (.getfield 9, 3) := by decide +kernel
theorem dJ0_charAt_5068e_20 : decode cJ0_charAt_5068e 20 = .ok (.iload_n 1, 1) := by decide +kernel
theorem dJ0_charAt_5068e_21 : decode cJ0_charAt_5068e 21 = .ok (.invokestatic 498, 3) := by decide +kernel
theorem dJ0_charAt_5068e_24 : decode cJ0_charAt_5068e 24 = .ok (.ireturn, 1) := by decide +kernel
theorem dJ0_coder_7d493_0 : decode cJ0_coder_7d493 0 = .ok (.getstatic 38, 3) := by decide +kernel
theorem dJ0_coder_7d493_3 : decode cJ0_coder_7d493 3 = .ok (.ifCond .eq 10, 3) := by decide +kernel
theorem dJ0_coder_7d493_6 : decode cJ0_coder_7d493 6 = .ok (.aload_n 0, 1) := by decide +kernel
theorem dJ0_coder_7d493_7 : decode cJ0_coder_7d493 7 = .ok (.getfield 15, 3) := by decide +kernel
theorem dJ0_coder_7d493_10 : decode cJ0_coder_7d493 10 = .ok (.goto 4, 3) := by decide +kernel
theorem dJ0_coder_7d493_13 : decode cJ0_coder_7d493 13 = .ok (.iconst 1, 1) := by decide +kernel
theorem dJ0_coder_7d493_14 : decode cJ0_coder_7d493 14 = .ok (.ireturn, 1) := by decide +kernel
theorem dJ0_isLatin1_aae02_0 : decode cJ0_isLatin1_aae02 0 = .ok (.getstatic 38, 3) := by decide +kernel
theorem dJ0_isLatin1_aae02_3 : decode cJ0_isLatin1_aae02 3 = .ok (.ifCond .eq 14, 3) := by decide +kernel
theorem dJ0_isLatin1_aae02_6 : decode cJ0_isLatin1_aae02 6 = .ok (.aload_n 0, 1) := by decide +kernel
theorem dJ0_isLatin1_aae02_7 : decode cJ0_isLatin1_aae02 7 = .ok (.getfield 15, 3) := by decide +kernel
theorem dJ0_isLatin1_aae02_10 : decode cJ0_isLatin1_aae02 10 = .ok (.ifCond .ne 7, 3) := by decide +kernel
theorem dJ0_isLatin1_aae02_13 : decode cJ0_isLatin1_aae02 13 = .ok (.iconst 1, 1) := by decide +kernel
theorem dJ0_isLatin1_aae02_14 : decode cJ0_isLatin1_aae02 14 = .ok (.goto 4, 3) := by decide +kernel
theorem dJ0_isLatin1_aae02_17 : decode cJ0_isLatin1_aae02 17 = .ok (.iconst 0, 1) := by decide +kernel
theorem dJ0_isLatin1_aae02_18 : decode cJ0_isLatin1_aae02 18 = .ok (.ireturn, 1) := by decide +kernel
theorem dJ0_checkIndex_df160_0 : decode cJ0_checkIndex_df160 0 = .ok (.iload_n 0, 1) := by decide +kernel
theorem dJ0_checkIndex_df160_1 : decode cJ0_checkIndex_df160 1 = .ok (.iload_n 1, 1) := by decide +kernel
theorem dJ0_checkIndex_df160_2 : decode cJ0_checkIndex_df160 2 = .ok (.getstatic 1053, 3) := by decide +kernel
theorem dJ0_checkIndex_df160_5 : decode cJ0_checkIndex_df160 5 = .ok (.invokestatic 1059, 3) := by decide +kernel
theorem dJ0_checkIndex_df160_8 : decode cJ0_checkIndex_df160 8 = .ok (.pop, 1) := by decide +kernel
theorem dJ0_checkIndex_df160_9 : decode cJ0_checkIndex_df160 9 = .ok (.return_, 1) := by decide +kernel
theorem dJ1_charAt_3b067_0 : decode cJ1_charAt_3b067 0 = .ok (.iload_n 1, 1) := by decide +kernel
theorem dJ1_charAt_3b067_1 : decode cJ1_charAt_3b067 1 = .ok (.aload_n 0, 1) := by decide +kernel
theorem dJ1_charAt_3b067_2 : decode cJ1_charAt_3b067 2 = .ok (.arraylength, 1) := by decide +kernel
theorem dJ1_charAt_3b067_3 : decode cJ1_charAt_3b067 3 = .ok (.invokestatic 9, 3) := by decide +kernel
theorem dJ1_charAt_3b067_6 : decode cJ1_charAt_3b067 6 = .ok (.aload_n 0, 1) := by decide +kernel
theorem dJ1_charAt_3b067_7 : decode cJ1_charAt_3b067 7 = .ok (.iload_n 1, 1) := by decide +kernel
theorem dJ1_charAt_3b067_8 : decode cJ1_charAt_3b067 8 = .ok (.baload, 1) := by decide +kernel
theorem dJ1_charAt_3b067_9 : decode cJ1_charAt_3b067 9 = .ok (.sipush 255, 3) := by decide +kernel
theorem dJ1_charAt_3b067_12 : decode cJ1_charAt_3b067 12 = .ok (.iand, 1) := by decide +kernel
theorem dJ1_charAt_3b067_13 : decode cJ1_charAt_3b067 13 = .ok (.i2c, 1) := by decide +kernel
theorem dJ1_charAt_3b067_14 : decode cJ1_charAt_3b067 14 = .ok (.ireturn, 1) := by decide +kernel
theorem dJ2_getChar_3b067_0 : decode cJ2_getChar_3b067 0 = .ok (.getstatic 44, 3) := by decide +kernel
theorem dJ2_getChar_3b067_3 : decode cJ2_getChar_3b067 3 = .ok (.ifCond .ne 25, 3) := by decide +kernel
theorem dJ2_getChar_3b067_6 : decode cJ2_getChar_3b067 6 = .ok (.iload_n 1, 1) := by decide +kernel
theorem dJ2_getChar_3b067_7 : decode cJ2_getChar_3b067 7 = .ok (.ifCond .lt 11, 3) := by decide +kernel
theorem dJ2_getChar_3b067_10 : decode cJ2_getChar_3b067 10 = .ok (.iload_n 1, 1) := by decide +kernel
theorem dJ2_getChar_3b067_11 : decode cJ2_getChar_3b067 11 = .ok (.aload_n 0, 1) := by decide +kernel
theorem dJ2_getChar_3b067_12 : decode cJ2_getChar_3b067 12 = .ok (.invokestatic 48, 3) := by decide +kernel
theorem dJ2_getChar_3b067_15 : decode cJ2_getChar_3b067 15 = .ok (.if_icmp .lt 13, 3) := by decide +kernel
theorem dJ2_getChar_3b067_18 : decode cJ2_getChar_3b067 18 = .ok (.new 52, 3) := by decide +kernel
theorem dJ2_getChar_3b067_21 : decode cJ2_getChar_3b067 21 = .ok (.dup, 1) := by decide +kernel
theorem dJ2_getChar_3b067_22 : decode cJ2_getChar_3b067 22 = .ok (.ldc 54, 2) := by decide +kernel
theorem dJ2_getChar_3b067_24 : decode cJ2_getChar_3b067 24 = .ok (.invokespecial 56, 3) := by decide +kernel
theorem dJ2_getChar_3b067_27 : decode cJ2_getChar_3b067 27 = .ok (.athrow, 1) := by decide +kernel
theorem dJ2_getChar_3b067_28 : decode cJ2_getChar_3b067 28 = .ok (.iload_n 1, 1) := by decide +kernel
theorem dJ2_getChar_3b067_29 : decode cJ2_getChar_3b067 29 = .ok (.iconst 1, 1) := by decide +kernel
theorem dJ2_getChar_3b067_30 : decode cJ2_getChar_3b067 30 = .ok (.ishl, 1) := by decide +kernel
theorem dJ2_getChar_3b067_31 : decode cJ2_getChar_3b067 31 = .ok (.istore_n 1, 1) := by decide +kernel
theorem dJ2_getChar_3b067_32 : decode cJ2_getChar_3b067 32 = .ok (.aload_n 0, 1) := by decide +kernel
theorem dJ2_getChar_3b067_33 : decode cJ2_getChar_3b067 33 = .ok (.iload_n 1, 1) := by decide +kernel
theorem dJ2_getChar_3b067_34 : decode cJ2_getChar_3b067 34 = .ok (.iinc 1 1, 3) := by decide +kernel
theorem dJ2_getChar_3b067_37 : decode cJ2_getChar_3b067 37 = .ok (.baload, 1) := by decide +kernel
theorem dJ2_getChar_3b067_38 : decode cJ2_getChar_3b067 38 = .ok (.sipush 255, 3) := by decide +kernel
theorem dJ2_getChar_3b067_41 : decode cJ2_getChar_3b067 41 = .ok (.iand, 1) := by decide +kernel
theorem dJ2_getChar_3b067_42 : decode cJ2_getChar_3b067 42 = .ok (.getstatic 59, 3) := by decide +kernel
theorem dJ2_getChar_3b067_45 : decode cJ2_getChar_3b067 45 = .ok (.ishl, 1) := by decide +kernel
theorem dJ2_getChar_3b067_46 : decode cJ2_getChar_3b067 46 = .ok (.aload_n 0, 1) := by decide +kernel
theorem dJ2_getChar_3b067_47 : decode cJ2_getChar_3b067 47 = .ok (.iload_n 1, 1) := by decide +kernel
theorem dJ2_getChar_3b067_48 : decode cJ2_getChar_3b067 48 = .ok (.baload, 1) := by decide +kernel
theorem dJ2_getChar_3b067_49 : decode cJ2_getChar_3b067 49 = .ok (.sipush 255, 3) := by decide +kernel
theorem dJ2_getChar_3b067_52 : decode cJ2_getChar_3b067 52 = .ok (.iand, 1) := by decide +kernel
theorem dJ2_getChar_3b067_53 : decode cJ2_getChar_3b067 53 = .ok (.getstatic 63, 3) := by decide +kernel
theorem dJ2_getChar_3b067_56 : decode cJ2_getChar_3b067 56 = .ok (.ishl, 1) := by decide +kernel
theorem dJ2_getChar_3b067_57 : decode cJ2_getChar_3b067 57 = .ok (.ior, 1) := by decide +kernel
theorem dJ2_getChar_3b067_58 : decode cJ2_getChar_3b067 58 = .ok (.i2c, 1) := by decide +kernel
theorem dJ2_getChar_3b067_59 : decode cJ2_getChar_3b067 59 = .ok (.ireturn, 1) := by decide +kernel
theorem dJ2_length_9d52b_0 : decode cJ2_length_9d52b 0 = .ok (.aload_n 0, 1) := by decide +kernel
theorem dJ2_length_9d52b_1 : decode cJ2_length_9d52b 1 = .ok (.arraylength, 1) := by decide +kernel
theorem dJ2_length_9d52b_2 : decode cJ2_length_9d52b 2 = .ok (.iconst 1, 1) := by decide +kernel
theorem dJ2_length_9d52b_3 : decode cJ2_length_9d52b 3 = .ok (.ishr, 1) := by decide +kernel
theorem dJ2_length_9d52b_4 : decode cJ2_length_9d52b 4 = .ok (.ireturn, 1) := by decide +kernel
theorem dJ2_charAt_3b067_0 : decode cJ2_charAt_3b067 0 = .ok (.iload_n 1, 1) := by decide +kernel
theorem dJ2_charAt_3b067_1 : decode cJ2_charAt_3b067 1 = .ok (.aload_n 0, 1) := by decide +kernel
theorem dJ2_charAt_3b067_2 : decode cJ2_charAt_3b067 2 = .ok (.invokestatic 67, 3) := by decide +kernel
theorem dJ2_charAt_3b067_5 : decode cJ2_charAt_3b067 5 = .ok (.aload_n 0, 1) := by decide +kernel
theorem dJ2_charAt_3b067_6 : decode cJ2_charAt_3b067 6 = .ok (.iload_n 1, 1) := by decide +kernel
theorem dJ2_charAt_3b067_7 : decode cJ2_charAt_3b067 7 = .ok (.invokestatic 71, 3) := by decide +kernel
theorem dJ2_charAt_3b067_10 : decode cJ2_charAt_3b067 10 = .ok (.ireturn, 1) := by decide +kernel
theorem dJ2_checkIndex_2214a_0 : decode cJ2_checkIndex_2214a 0 = .ok (.iload_n 0, 1) := by decide +kernel
theorem dJ2_checkIndex_2214a_1 : decode cJ2_checkIndex_2214a 1 = .ok (.aload_n 1, 1) := by decide +kernel
theorem dJ2_checkIndex_2214a_2 : decode cJ2_checkIndex_2214a 2 = .ok (.invokestatic 48, 3) := by decide +kernel
theorem dJ2_checkIndex_2214a_5 : decode cJ2_checkIndex_2214a 5 = .ok (.invokestatic 414, 3) := by decide +kernel
theorem dJ2_checkIndex_2214a_8 : decode cJ2_checkIndex_2214a 8 = .ok (.return_, 1) := by decide +kernel
theorem dJ7_fill_53178_0 : decode cJ7_fill_53178 0 = .ok (.iconst 0, 1) := by decide +kernel
theorem dJ7_fill_53178_1 : decode cJ7_fill_53178 1 = .ok (.istore_n 2, 1) := by decide +kernel
theorem dJ7_fill_53178_2 : decode cJ7_fill_53178 2 = .ok (.aload_n 0, 1) := by decide +kernel
theorem dJ7_fill_53178_3 : decode cJ7_fill_53178 3 = .ok (.arraylength, 1) := by decide +kernel
theorem dJ7_fill_53178_4 : decode cJ7_fill_53178 4 = .ok (.istore_n 3, 1) := by decide +kernel
theorem dJ7_fill_53178_5 : decode cJ7_fill_53178 5 = .ok (.iload_n 2, 1) := by decide +kernel
theorem dJ7_fill_53178_6 : decode cJ7_fill_53178 6 = .ok (.iload_n 3, 1) := by decide +kernel
theorem dJ7_fill_53178_7 : decode cJ7_fill_53178 7 = .ok (.if_icmp .ge 13, 3) := by decide +kernel
theorem dJ7_fill_53178_10 : decode cJ7_fill_53178 10 = .ok (.aload_n 0, 1) := by decide +kernel
theorem dJ7_fill_53178_11 : decode cJ7_fill_53178 11 = .ok (.iload_n 2, 1) := by decide +kernel
theorem dJ7_fill_53178_12 : decode cJ7_fill_53178 12 = .ok (.iload_n 1, 1) := by decide +kernel
theorem dJ7_fill_53178_13 : decode cJ7_fill_53178 13 = .ok (.iastore, 1) := by decide +kernel
theorem dJ7_fill_53178_14 : decode cJ7_fill_53178 14 = .ok (.iinc 2 1, 3) := by decide +kernel
theorem dJ7_fill_53178_17 : decode cJ7_fill_53178 17 = .ok (.goto (-12), 3) := by decide +kernel
theorem dJ7_fill_53178_20 : decode cJ7_fill_53178 20 = .ok (.return_, 1) := by decide +kernel
theorem dJ7_fill_031fb_0 : decode cJ7_fill_031fb 0 = .ok (.iconst 0, 1) := by decide +kernel
theorem dJ7_fill_031fb_1 : decode cJ7_fill_031fb 1 = .ok (.istore_n 2, 1) := by decide +kernel
theorem dJ7_fill_031fb_2 : decode cJ7_fill_031fb 2 = .ok (.aload_n 0, 1) := by decide +kernel
theorem dJ7_fill_031fb_3 : decode cJ7_fill_031fb 3 = .ok (.arraylength, 1) := by decide +kernel
theorem dJ7_fill_031fb_4 : decode cJ7_fill_031fb 4 = .ok (.istore_n 3, 1) := by decide +kernel
theorem dJ7_fill_031fb_5 : decode cJ7_fill_031fb 5 = .ok (.iload_n 2, 1) := by decide +kernel
theorem dJ7_fill_031fb_6 : decode cJ7_fill_031fb 6 = .ok (.iload_n 3, 1) := by decide +kernel
theorem dJ7_fill_031fb_7 : decode cJ7_fill_031fb 7 = .ok (.if_icmp .ge 13, 3) := by decide +kernel
theorem dJ7_fill_031fb_10 : decode cJ7_fill_031fb 10 = .ok (.aload_n 0, 1) := by decide +kernel
theorem dJ7_fill_031fb_11 : decode cJ7_fill_031fb 11 = .ok (.iload_n 2, 1) := by decide +kernel
theorem dJ7_fill_031fb_12 : decode cJ7_fill_031fb 12 = .ok (.iload_n 1, 1) := by decide +kernel
theorem dJ7_fill_031fb_13 : decode cJ7_fill_031fb 13 = .ok (.bastore, 1) := by decide +kernel
theorem dJ7_fill_031fb_14 : decode cJ7_fill_031fb 14 = .ok (.iinc 2 1, 3) := by decide +kernel
theorem dJ7_fill_031fb_17 : decode cJ7_fill_031fb 17 = .ok (.goto (-12), 3) := by decide +kernel
theorem dJ7_fill_031fb_20 : decode cJ7_fill_031fb 20 = .ok (.return_, 1) := by decide +kernel
theorem dJ3_checkIndex_8e157_0 : decode cJ3_checkIndex_8e157 0 = .ok (.iload_n 0, 1) := by decide +kernel
theorem dJ3_checkIndex_8e157_1 : decode cJ3_checkIndex_8e157 1 = .ok (.ifCond .lt 8, 3) := by decide +kernel
theorem dJ3_checkIndex_8e157_4 : decode cJ3_checkIndex_8e157 4 = .ok (.iload_n 0, 1) := by decide +kernel
theorem dJ3_checkIndex_8e157_5 : decode cJ3_checkIndex_8e157 5 = .ok (.iload_n 1, 1) := by decide +kernel
theorem dJ3_checkIndex_8e157_6 : decode cJ3_checkIndex_8e157 6 = .ok (.if_icmp .lt 10, 3) := by decide +kernel
theorem dJ3_checkIndex_8e157_9 : decode cJ3_checkIndex_8e157 9 = .ok (.aload_n 2, 1) := by decide +kernel
theorem dJ3_checkIndex_8e157_10 : decode cJ3_checkIndex_8e157 10 = .ok (.iload_n 0, 1) := by decide +kernel
theorem dJ3_checkIndex_8e157_11 : decode cJ3_checkIndex_8e157 11 = .ok (.iload_n 1, 1) := by decide +kernel
theorem dJ3_checkIndex_8e157_12 : decode cJ3_checkIndex_8e157 12 = .ok (.invokestatic 95, 3) := by decide +kernel
theorem dJ3_checkIndex_8e157_15 : decode cJ3_checkIndex_8e157 15 = .ok (.athrow, 1) := by decide +kernel
theorem dJ3_checkIndex_8e157_16 : decode cJ3_checkIndex_8e157 16 = .ok (.iload_n 0, 1) := by decide +kernel
theorem dJ3_checkIndex_8e157_17 : decode cJ3_checkIndex_8e157 17 = .ok (.ireturn, 1) := by decide +kernel
end
section
theorem dL_law_0 : decode cL_law 0 = .ok (.new 7, 3) := by decide +kernel
theorem dL_law_3 : decode cL_law 3 = .ok (.dup, 1) := by decide +kernel
theorem dL_law_4 : decode cL_law 4 = .ok (.invokespecial 9, 3) := by decide +kernel
theorem dL_law_7 : decode cL_law 7 = .ok (.astore_n 1, 1) := by decide +kernel
theorem dL_law_8 : decode cL_law 8 = .ok (.new 10, 3) := by decide +kernel
theorem dL_law_11 : decode cL_law 11 = .ok (.dup, 1) := by decide +kernel
theorem dL_law_12 : decode cL_law 12 = .ok (.invokespecial 12, 3) := by decide +kernel
theorem dL_law_15 : decode cL_law 15 = .ok (.astore_n 2, 1) := by decide +kernel
theorem dL_law_16 : decode cL_law 16 = .ok (.iconst 0, 1) := by decide +kernel
theorem dL_law_17 : decode cL_law 17 = .ok (.istore_n 3, 1) := by decide +kernel
theorem dL_law_18 : decode cL_law 18 = .ok (.iload_n 3, 1) := by decide +kernel
theorem dL_law_19 : decode cL_law 19 = .ok (.aload_n 0, 1) := by decide +kernel
theorem dL_law_20 : decode cL_law 20 = .ok (.arraylength, 1) := by decide +kernel
theorem dL_law_21 : decode cL_law 21 = .ok (.iconst 5, 1) := by decide +kernel
theorem dL_law_22 : decode cL_law 22 = .ok (.isub, 1) := by decide +kernel
theorem dL_law_23 : decode cL_law 23 = .ok (.if_icmp .gt 860, 3) := by decide +kernel
theorem dL_law_26 : decode cL_law 26 = .ok (.aload_n 0, 1) := by decide +kernel
theorem dL_law_27 : decode cL_law 27 = .ok (.iload_n 3, 1) := by decide +kernel
theorem dL_law_28 : decode cL_law 28 = .ok (.iaload, 1) := by decide +kernel
theorem dL_law_29 : decode cL_law 29 = .ok (.bipush 31, 2) := by decide +kernel
theorem dL_law_31 : decode cL_law 31 = .ok (.iand, 1) := by decide +kernel
theorem dL_law_32 : decode cL_law 32 = .ok (.tableswitch 845 0 26 #[124, 147, 170, 183, 196, 219, 252, 285, 308, 331, 354, 377, 410, 423, 446, 469, 492, 525, 568, 591, 624, 647, 670, 713, 756, 809, 822], 124) := by decide +kernel
theorem dL_law_156 : decode cL_law 156 = .ok (.aload_n 1, 1) := by decide +kernel
theorem dL_law_157 : decode cL_law 157 = .ok (.aload_n 0, 1) := by decide +kernel
theorem dL_law_158 : decode cL_law 158 = .ok (.iload_n 3, 1) := by decide +kernel
theorem dL_law_159 : decode cL_law 159 = .ok (.iconst 1, 1) := by decide +kernel
theorem dL_law_160 : decode cL_law 160 = .ok (.iadd, 1) := by decide +kernel
theorem dL_law_161 : decode cL_law 161 = .ok (.iaload, 1) := by decide +kernel
theorem dL_law_162 : decode cL_law 162 = .ok (.invokevirtual 13, 3) := by decide +kernel
theorem dL_law_165 : decode cL_law 165 = .ok (.aload_n 2, 1) := by decide +kernel
theorem dL_law_166 : decode cL_law 166 = .ok (.aload_n 0, 1) := by decide +kernel
theorem dL_law_167 : decode cL_law 167 = .ok (.iload_n 3, 1) := by decide +kernel
theorem dL_law_168 : decode cL_law 168 = .ok (.iconst 1, 1) := by decide +kernel
theorem dL_law_169 : decode cL_law 169 = .ok (.iadd, 1) := by decide +kernel
theorem dL_law_170 : decode cL_law 170 = .ok (.iaload, 1) := by decide +kernel
theorem dL_law_171 : decode cL_law 171 = .ok (.invokevirtual 17, 3) := by decide +kernel
theorem dL_law_174 : decode cL_law 174 = .ok (.if_icmp .eq 703, 3) := by decide +kernel
theorem dL_law_177 : decode cL_law 177 = .ok (.iconst 0, 1) := by decide +kernel
theorem dL_law_178 : decode cL_law 178 = .ok (.ireturn, 1) := by decide +kernel
theorem dL_law_179 : decode cL_law 179 = .ok (.aload_n 1, 1) := by decide +kernel
theorem dL_law_180 : decode cL_law 180 = .ok (.aload_n 0, 1) := by decide +kernel
theorem dL_law_181 : decode cL_law 181 = .ok (.iload_n 3, 1) := by decide +kernel
theorem dL_law_182 : decode cL_law 182 = .ok (.iconst 1, 1) := by decide +kernel
theorem dL_law_183 : decode cL_law 183 = .ok (.iadd, 1) := by decide +kernel
theorem dL_law_184 : decode cL_law 184 = .ok (.iaload, 1) := by decide +kernel
theorem dL_law_185 : decode cL_law 185 = .ok (.invokevirtual 18, 3) := by decide +kernel
theorem dL_law_188 : decode cL_law 188 = .ok (.aload_n 2, 1) := by decide +kernel
theorem dL_law_189 : decode cL_law 189 = .ok (.aload_n 0, 1) := by decide +kernel
theorem dL_law_190 : decode cL_law 190 = .ok (.iload_n 3, 1) := by decide +kernel
theorem dL_law_191 : decode cL_law 191 = .ok (.iconst 1, 1) := by decide +kernel
theorem dL_law_192 : decode cL_law 192 = .ok (.iadd, 1) := by decide +kernel
theorem dL_law_193 : decode cL_law 193 = .ok (.iaload, 1) := by decide +kernel
theorem dL_law_194 : decode cL_law 194 = .ok (.invokevirtual 21, 3) := by decide +kernel
theorem dL_law_197 : decode cL_law 197 = .ok (.if_icmp .eq 680, 3) := by decide +kernel
theorem dL_law_200 : decode cL_law 200 = .ok (.iconst 0, 1) := by decide +kernel
theorem dL_law_201 : decode cL_law 201 = .ok (.ireturn, 1) := by decide +kernel
theorem dL_law_202 : decode cL_law 202 = .ok (.aload_n 1, 1) := by decide +kernel
theorem dL_law_203 : decode cL_law 203 = .ok (.invokevirtual 22, 3) := by decide +kernel
theorem dL_law_206 : decode cL_law 206 = .ok (.aload_n 2, 1) := by decide +kernel
theorem dL_law_207 : decode cL_law 207 = .ok (.invokevirtual 26, 3) := by decide +kernel
theorem dL_law_210 : decode cL_law 210 = .ok (.if_icmp .eq 667, 3) := by decide +kernel
theorem dL_law_213 : decode cL_law 213 = .ok (.iconst 0, 1) := by decide +kernel
theorem dL_law_214 : decode cL_law 214 = .ok (.ireturn, 1) := by decide +kernel
theorem dL_law_215 : decode cL_law 215 = .ok (.aload_n 1, 1) := by decide +kernel
theorem dL_law_216 : decode cL_law 216 = .ok (.invokevirtual 27, 3) := by decide +kernel
theorem dL_law_219 : decode cL_law 219 = .ok (.aload_n 2, 1) := by decide +kernel
theorem dL_law_220 : decode cL_law 220 = .ok (.invokevirtual 30, 3) := by decide +kernel
theorem dL_law_223 : decode cL_law 223 = .ok (.if_icmp .eq 654, 3) := by decide +kernel
theorem dL_law_226 : decode cL_law 226 = .ok (.iconst 0, 1) := by decide +kernel
theorem dL_law_227 : decode cL_law 227 = .ok (.ireturn, 1) := by decide +kernel
theorem dL_law_228 : decode cL_law 228 = .ok (.aload_n 1, 1) := by decide +kernel
theorem dL_law_229 : decode cL_law 229 = .ok (.aload_n 0, 1) := by decide +kernel
theorem dL_law_230 : decode cL_law 230 = .ok (.iload_n 3, 1) := by decide +kernel
theorem dL_law_231 : decode cL_law 231 = .ok (.iconst 1, 1) := by decide +kernel
theorem dL_law_232 : decode cL_law 232 = .ok (.iadd, 1) := by decide +kernel
theorem dL_law_233 : decode cL_law 233 = .ok (.iaload, 1) := by decide +kernel
theorem dL_law_234 : decode cL_law 234 = .ok (.invokevirtual 31, 3) := by decide +kernel
theorem dL_law_237 : decode cL_law 237 = .ok (.aload_n 2, 1) := by decide +kernel
theorem dL_law_238 : decode cL_law 238 = .ok (.aload_n 0, 1) := by decide +kernel
theorem dL_law_239 : decode cL_law 239 = .ok (.iload_n 3, 1) := by decide +kernel
theorem dL_law_240 : decode cL_law 240 = .ok (.iconst 1, 1) := by decide +kernel
theorem dL_law_241 : decode cL_law 241 = .ok (.iadd, 1) := by decide +kernel
theorem dL_law_242 : decode cL_law 242 = .ok (.iaload, 1) := by decide +kernel
theorem dL_law_243 : decode cL_law 243 = .ok (.invokevirtual 34, 3) := by decide +kernel
theorem dL_law_246 : decode cL_law 246 = .ok (.if_icmp .eq 631, 3) := by decide +kernel
theorem dL_law_249 : decode cL_law 249 = .ok (.iconst 0, 1) := by decide +kernel
theorem dL_law_250 : decode cL_law 250 = .ok (.ireturn, 1) := by decide +kernel
theorem dL_law_251 : decode cL_law 251 = .ok (.aload_n 1, 1) := by decide +kernel
theorem dL_law_252 : decode cL_law 252 = .ok (.aload_n 0, 1) := by decide +kernel
theorem dL_law_253 : decode cL_law 253 = .ok (.iload_n 3, 1) := by decide +kernel
theorem dL_law_254 : decode cL_law 254 = .ok (.iconst 1, 1) := by decide +kernel
theorem dL_law_255 : decode cL_law 255 = .ok (.iadd, 1) := by decide +kernel
theorem dL_law_256 : decode cL_law 256 = .ok (.iaload, 1) := by decide +kernel
theorem dL_law_257 : decode cL_law 257 = .ok (.aload_n 0, 1) := by decide +kernel
theorem dL_law_258 : decode cL_law 258 = .ok (.iload_n 3, 1) := by decide +kernel
theorem dL_law_259 : decode cL_law 259 = .ok (.iconst 2, 1) := by decide +kernel
theorem dL_law_260 : decode cL_law 260 = .ok (.iadd, 1) := by decide +kernel
theorem dL_law_261 : decode cL_law 261 = .ok (.iaload, 1) := by decide +kernel
theorem dL_law_262 : decode cL_law 262 = .ok (.invokevirtual 35, 3) := by decide +kernel
theorem dL_law_265 : decode cL_law 265 = .ok (.aload_n 2, 1) := by decide +kernel
theorem dL_law_266 : decode cL_law 266 = .ok (.aload_n 0, 1) := by decide +kernel
theorem dL_law_267 : decode cL_law 267 = .ok (.iload_n 3, 1) := by decide +kernel
theorem dL_law_268 : decode cL_law 268 = .ok (.iconst 1, 1) := by decide +kernel
theorem dL_law_269 : decode cL_law 269 = .ok (.iadd, 1) := by decide +kernel
theorem dL_law_270 : decode cL_law 270 = .ok (.iaload, 1) := by decide +kernel
theorem dL_law_271 : decode cL_law 271 = .ok (.aload_n 0, 1) := by decide +kernel
theorem dL_law_272 : decode cL_law 272 = .ok (.iload_n 3, 1) := by decide +kernel
theorem dL_law_273 : decode cL_law 273 = .ok (.iconst 2, 1) := by decide +kernel
theorem dL_law_274 : decode cL_law 274 = .ok (.iadd, 1) := by decide +kernel
theorem dL_law_275 : decode cL_law 275 = .ok (.iaload, 1) := by decide +kernel
theorem dL_law_276 : decode cL_law 276 = .ok (.invokevirtual 39, 3) := by decide +kernel
theorem dL_law_279 : decode cL_law 279 = .ok (.if_icmp .eq 598, 3) := by decide +kernel
theorem dL_law_282 : decode cL_law 282 = .ok (.iconst 0, 1) := by decide +kernel
theorem dL_law_283 : decode cL_law 283 = .ok (.ireturn, 1) := by decide +kernel
theorem dL_law_284 : decode cL_law 284 = .ok (.aload_n 1, 1) := by decide +kernel
theorem dL_law_285 : decode cL_law 285 = .ok (.aload_n 0, 1) := by decide +kernel
theorem dL_law_286 : decode cL_law 286 = .ok (.iload_n 3, 1) := by decide +kernel
theorem dL_law_287 : decode cL_law 287 = .ok (.iconst 1, 1) := by decide +kernel
theorem dL_law_288 : decode cL_law 288 = .ok (.iadd, 1) := by decide +kernel
theorem dL_law_289 : decode cL_law 289 = .ok (.iaload, 1) := by decide +kernel
theorem dL_law_290 : decode cL_law 290 = .ok (.aload_n 0, 1) := by decide +kernel
theorem dL_law_291 : decode cL_law 291 = .ok (.iload_n 3, 1) := by decide +kernel
theorem dL_law_292 : decode cL_law 292 = .ok (.iconst 2, 1) := by decide +kernel
theorem dL_law_293 : decode cL_law 293 = .ok (.iadd, 1) := by decide +kernel
theorem dL_law_294 : decode cL_law 294 = .ok (.iaload, 1) := by decide +kernel
theorem dL_law_295 : decode cL_law 295 = .ok (.invokevirtual 40, 3) := by decide +kernel
theorem dL_law_298 : decode cL_law 298 = .ok (.aload_n 2, 1) := by decide +kernel
theorem dL_law_299 : decode cL_law 299 = .ok (.aload_n 0, 1) := by decide +kernel
theorem dL_law_300 : decode cL_law 300 = .ok (.iload_n 3, 1) := by decide +kernel
theorem dL_law_301 : decode cL_law 301 = .ok (.iconst 1, 1) := by decide +kernel
theorem dL_law_302 : decode cL_law 302 = .ok (.iadd, 1) := by decide +kernel
theorem dL_law_303 : decode cL_law 303 = .ok (.iaload, 1) := by decide +kernel
theorem dL_law_304 : decode cL_law 304 = .ok (.aload_n 0, 1) := by decide +kernel
theorem dL_law_305 : decode cL_law 305 = .ok (.iload_n 3, 1) := by decide +kernel
theorem dL_law_306 : decode cL_law 306 = .ok (.iconst 2, 1) := by decide +kernel
theorem dL_law_307 : decode cL_law 307 = .ok (.iadd, 1) := by decide +kernel
theorem dL_law_308 : decode cL_law 308 = .ok (.iaload, 1) := by decide +kernel
theorem dL_law_309 : decode cL_law 309 = .ok (.invokevirtual 43, 3) := by decide +kernel
theorem dL_law_312 : decode cL_law 312 = .ok (.if_icmp .eq 565, 3) := by decide +kernel
theorem dL_law_315 : decode cL_law 315 = .ok (.iconst 0, 1) := by decide +kernel
theorem dL_law_316 : decode cL_law 316 = .ok (.ireturn, 1) := by decide +kernel
theorem dL_law_317 : decode cL_law 317 = .ok (.aload_n 1, 1) := by decide +kernel
theorem dL_law_318 : decode cL_law 318 = .ok (.aload_n 0, 1) := by decide +kernel
theorem dL_law_319 : decode cL_law 319 = .ok (.iload_n 3, 1) := by decide +kernel
theorem dL_law_320 : decode cL_law 320 = .ok (.iconst 1, 1) := by decide +kernel
theorem dL_law_321 : decode cL_law 321 = .ok (.iadd, 1) := by decide +kernel
theorem dL_law_322 : decode cL_law 322 = .ok (.iaload, 1) := by decide +kernel
theorem dL_law_323 : decode cL_law 323 = .ok (.invokevirtual 44, 3) := by decide +kernel
theorem dL_law_326 : decode cL_law 326 = .ok (.aload_n 2, 1) := by decide +kernel
theorem dL_law_327 : decode cL_law 327 = .ok (.aload_n 0, 1) := by decide +kernel
theorem dL_law_328 : decode cL_law 328 = .ok (.iload_n 3, 1) := by decide +kernel
theorem dL_law_329 : decode cL_law 329 = .ok (.iconst 1, 1) := by decide +kernel
theorem dL_law_330 : decode cL_law 330 = .ok (.iadd, 1) := by decide +kernel
theorem dL_law_331 : decode cL_law 331 = .ok (.iaload, 1) := by decide +kernel
theorem dL_law_332 : decode cL_law 332 = .ok (.invokevirtual 47, 3) := by decide +kernel
theorem dL_law_335 : decode cL_law 335 = .ok (.if_icmp .eq 542, 3) := by decide +kernel
theorem dL_law_338 : decode cL_law 338 = .ok (.iconst 0, 1) := by decide +kernel
theorem dL_law_339 : decode cL_law 339 = .ok (.ireturn, 1) := by decide +kernel
theorem dL_law_340 : decode cL_law 340 = .ok (.aload_n 1, 1) := by decide +kernel
theorem dL_law_341 : decode cL_law 341 = .ok (.aload_n 0, 1) := by decide +kernel
theorem dL_law_342 : decode cL_law 342 = .ok (.iload_n 3, 1) := by decide +kernel
theorem dL_law_343 : decode cL_law 343 = .ok (.iconst 1, 1) := by decide +kernel
theorem dL_law_344 : decode cL_law 344 = .ok (.iadd, 1) := by decide +kernel
theorem dL_law_345 : decode cL_law 345 = .ok (.iaload, 1) := by decide +kernel
theorem dL_law_346 : decode cL_law 346 = .ok (.invokevirtual 48, 3) := by decide +kernel
theorem dL_law_349 : decode cL_law 349 = .ok (.aload_n 2, 1) := by decide +kernel
theorem dL_law_350 : decode cL_law 350 = .ok (.aload_n 0, 1) := by decide +kernel
theorem dL_law_351 : decode cL_law 351 = .ok (.iload_n 3, 1) := by decide +kernel
theorem dL_law_352 : decode cL_law 352 = .ok (.iconst 1, 1) := by decide +kernel
theorem dL_law_353 : decode cL_law 353 = .ok (.iadd, 1) := by decide +kernel
theorem dL_law_354 : decode cL_law 354 = .ok (.iaload, 1) := by decide +kernel
theorem dL_law_355 : decode cL_law 355 = .ok (.invokevirtual 51, 3) := by decide +kernel
theorem dL_law_358 : decode cL_law 358 = .ok (.if_icmp .eq 519, 3) := by decide +kernel
theorem dL_law_361 : decode cL_law 361 = .ok (.iconst 0, 1) := by decide +kernel
theorem dL_law_362 : decode cL_law 362 = .ok (.ireturn, 1) := by decide +kernel
theorem dL_law_363 : decode cL_law 363 = .ok (.aload_n 1, 1) := by decide +kernel
theorem dL_law_364 : decode cL_law 364 = .ok (.aload_n 0, 1) := by decide +kernel
theorem dL_law_365 : decode cL_law 365 = .ok (.iload_n 3, 1) := by decide +kernel
theorem dL_law_366 : decode cL_law 366 = .ok (.iconst 1, 1) := by decide +kernel
theorem dL_law_367 : decode cL_law 367 = .ok (.iadd, 1) := by decide +kernel
theorem dL_law_368 : decode cL_law 368 = .ok (.iaload, 1) := by decide +kernel
theorem dL_law_369 : decode cL_law 369 = .ok (.invokevirtual 52, 3) := by decide +kernel
theorem dL_law_372 : decode cL_law 372 = .ok (.aload_n 2, 1) := by decide +kernel
theorem dL_law_373 : decode cL_law 373 = .ok (.aload_n 0, 1) := by decide +kernel
theorem dL_law_374 : decode cL_law 374 = .ok (.iload_n 3, 1) := by decide +kernel
theorem dL_law_375 : decode cL_law 375 = .ok (.iconst 1, 1) := by decide +kernel
theorem dL_law_376 : decode cL_law 376 = .ok (.iadd, 1) := by decide +kernel
theorem dL_law_377 : decode cL_law 377 = .ok (.iaload, 1) := by decide +kernel
theorem dL_law_378 : decode cL_law 378 = .ok (.invokevirtual 55, 3) := by decide +kernel
theorem dL_law_381 : decode cL_law 381 = .ok (.if_icmp .eq 496, 3) := by decide +kernel
theorem dL_law_384 : decode cL_law 384 = .ok (.iconst 0, 1) := by decide +kernel
theorem dL_law_385 : decode cL_law 385 = .ok (.ireturn, 1) := by decide +kernel
theorem dL_law_386 : decode cL_law 386 = .ok (.aload_n 1, 1) := by decide +kernel
theorem dL_law_387 : decode cL_law 387 = .ok (.aload_n 0, 1) := by decide +kernel
theorem dL_law_388 : decode cL_law 388 = .ok (.iload_n 3, 1) := by decide +kernel
theorem dL_law_389 : decode cL_law 389 = .ok (.iconst 1, 1) := by decide +kernel
theorem dL_law_390 : decode cL_law 390 = .ok (.iadd, 1) := by decide +kernel
theorem dL_law_391 : decode cL_law 391 = .ok (.iaload, 1) := by decide +kernel
theorem dL_law_392 : decode cL_law 392 = .ok (.invokevirtual 56, 3) := by decide +kernel
theorem dL_law_395 : decode cL_law 395 = .ok (.aload_n 2, 1) := by decide +kernel
theorem dL_law_396 : decode cL_law 396 = .ok (.aload_n 0, 1) := by decide +kernel
theorem dL_law_397 : decode cL_law 397 = .ok (.iload_n 3, 1) := by decide +kernel
theorem dL_law_398 : decode cL_law 398 = .ok (.iconst 1, 1) := by decide +kernel
theorem dL_law_399 : decode cL_law 399 = .ok (.iadd, 1) := by decide +kernel
theorem dL_law_400 : decode cL_law 400 = .ok (.iaload, 1) := by decide +kernel
theorem dL_law_401 : decode cL_law 401 = .ok (.invokevirtual 59, 3) := by decide +kernel
theorem dL_law_404 : decode cL_law 404 = .ok (.if_icmp .eq 473, 3) := by decide +kernel
theorem dL_law_407 : decode cL_law 407 = .ok (.iconst 0, 1) := by decide +kernel
theorem dL_law_408 : decode cL_law 408 = .ok (.ireturn, 1) := by decide +kernel
theorem dL_law_409 : decode cL_law 409 = .ok (.aload_n 1, 1) := by decide +kernel
theorem dL_law_410 : decode cL_law 410 = .ok (.aload_n 0, 1) := by decide +kernel
theorem dL_law_411 : decode cL_law 411 = .ok (.iload_n 3, 1) := by decide +kernel
theorem dL_law_412 : decode cL_law 412 = .ok (.iconst 1, 1) := by decide +kernel
theorem dL_law_413 : decode cL_law 413 = .ok (.iadd, 1) := by decide +kernel
theorem dL_law_414 : decode cL_law 414 = .ok (.iaload, 1) := by decide +kernel
theorem dL_law_415 : decode cL_law 415 = .ok (.aload_n 0, 1) := by decide +kernel
theorem dL_law_416 : decode cL_law 416 = .ok (.iload_n 3, 1) := by decide +kernel
theorem dL_law_417 : decode cL_law 417 = .ok (.iconst 2, 1) := by decide +kernel
theorem dL_law_418 : decode cL_law 418 = .ok (.iadd, 1) := by decide +kernel
theorem dL_law_419 : decode cL_law 419 = .ok (.iaload, 1) := by decide +kernel
theorem dL_law_420 : decode cL_law 420 = .ok (.invokevirtual 60, 3) := by decide +kernel
theorem dL_law_423 : decode cL_law 423 = .ok (.aload_n 2, 1) := by decide +kernel
theorem dL_law_424 : decode cL_law 424 = .ok (.aload_n 0, 1) := by decide +kernel
theorem dL_law_425 : decode cL_law 425 = .ok (.iload_n 3, 1) := by decide +kernel
theorem dL_law_426 : decode cL_law 426 = .ok (.iconst 1, 1) := by decide +kernel
theorem dL_law_427 : decode cL_law 427 = .ok (.iadd, 1) := by decide +kernel
theorem dL_law_428 : decode cL_law 428 = .ok (.iaload, 1) := by decide +kernel
theorem dL_law_429 : decode cL_law 429 = .ok (.aload_n 0, 1) := by decide +kernel
theorem dL_law_430 : decode cL_law 430 = .ok (.iload_n 3, 1) := by decide +kernel
theorem dL_law_431 : decode cL_law 431 = .ok (.iconst 2, 1) := by decide +kernel
theorem dL_law_432 : decode cL_law 432 = .ok (.iadd, 1) := by decide +kernel
theorem dL_law_433 : decode cL_law 433 = .ok (.iaload, 1) := by decide +kernel
theorem dL_law_434 : decode cL_law 434 = .ok (.invokevirtual 63, 3) := by decide +kernel
theorem dL_law_437 : decode cL_law 437 = .ok (.if_icmp .eq 440, 3) := by decide +kernel
theorem dL_law_440 : decode cL_law 440 = .ok (.iconst 0, 1) := by decide +kernel
theorem dL_law_441 : decode cL_law 441 = .ok (.ireturn, 1) := by decide +kernel
theorem dL_law_442 : decode cL_law 442 = .ok (.aload_n 1, 1) := by decide +kernel
theorem dL_law_443 : decode cL_law 443 = .ok (.invokevirtual 64, 3) := by decide +kernel
theorem dL_law_446 : decode cL_law 446 = .ok (.aload_n 2, 1) := by decide +kernel
theorem dL_law_447 : decode cL_law 447 = .ok (.invokevirtual 67, 3) := by decide +kernel
theorem dL_law_450 : decode cL_law 450 = .ok (.if_icmp .eq 427, 3) := by decide +kernel
theorem dL_law_453 : decode cL_law 453 = .ok (.iconst 0, 1) := by decide +kernel
theorem dL_law_454 : decode cL_law 454 = .ok (.ireturn, 1) := by decide +kernel
theorem dL_law_455 : decode cL_law 455 = .ok (.aload_n 1, 1) := by decide +kernel
theorem dL_law_456 : decode cL_law 456 = .ok (.aload_n 0, 1) := by decide +kernel
theorem dL_law_457 : decode cL_law 457 = .ok (.iload_n 3, 1) := by decide +kernel
theorem dL_law_458 : decode cL_law 458 = .ok (.iconst 1, 1) := by decide +kernel
theorem dL_law_459 : decode cL_law 459 = .ok (.iadd, 1) := by decide +kernel
theorem dL_law_460 : decode cL_law 460 = .ok (.iaload, 1) := by decide +kernel
theorem dL_law_461 : decode cL_law 461 = .ok (.invokevirtual 68, 3) := by decide +kernel
theorem dL_law_464 : decode cL_law 464 = .ok (.aload_n 2, 1) := by decide +kernel
theorem dL_law_465 : decode cL_law 465 = .ok (.aload_n 0, 1) := by decide +kernel
theorem dL_law_466 : decode cL_law 466 = .ok (.iload_n 3, 1) := by decide +kernel
theorem dL_law_467 : decode cL_law 467 = .ok (.iconst 1, 1) := by decide +kernel
theorem dL_law_468 : decode cL_law 468 = .ok (.iadd, 1) := by decide +kernel
theorem dL_law_469 : decode cL_law 469 = .ok (.iaload, 1) := by decide +kernel
theorem dL_law_470 : decode cL_law 470 = .ok (.invokevirtual 71, 3) := by decide +kernel
theorem dL_law_473 : decode cL_law 473 = .ok (.if_icmp .eq 404, 3) := by decide +kernel
theorem dL_law_476 : decode cL_law 476 = .ok (.iconst 0, 1) := by decide +kernel
theorem dL_law_477 : decode cL_law 477 = .ok (.ireturn, 1) := by decide +kernel
theorem dL_law_478 : decode cL_law 478 = .ok (.aload_n 1, 1) := by decide +kernel
theorem dL_law_479 : decode cL_law 479 = .ok (.aload_n 0, 1) := by decide +kernel
theorem dL_law_480 : decode cL_law 480 = .ok (.iload_n 3, 1) := by decide +kernel
theorem dL_law_481 : decode cL_law 481 = .ok (.iconst 1, 1) := by decide +kernel
theorem dL_law_482 : decode cL_law 482 = .ok (.iadd, 1) := by decide +kernel
theorem dL_law_483 : decode cL_law 483 = .ok (.iaload, 1) := by decide +kernel
theorem dL_law_484 : decode cL_law 484 = .ok (.invokevirtual 72, 3) := by decide +kernel
theorem dL_law_487 : decode cL_law 487 = .ok (.aload_n 2, 1) := by decide +kernel
theorem dL_law_488 : decode cL_law 488 = .ok (.aload_n 0, 1) := by decide +kernel
theorem dL_law_489 : decode cL_law 489 = .ok (.iload_n 3, 1) := by decide +kernel
theorem dL_law_490 : decode cL_law 490 = .ok (.iconst 1, 1) := by decide +kernel
theorem dL_law_491 : decode cL_law 491 = .ok (.iadd, 1) := by decide +kernel
theorem dL_law_492 : decode cL_law 492 = .ok (.iaload, 1) := by decide +kernel
theorem dL_law_493 : decode cL_law 493 = .ok (.invokevirtual 75, 3) := by decide +kernel
theorem dL_law_496 : decode cL_law 496 = .ok (.if_icmp .eq 381, 3) := by decide +kernel
theorem dL_law_499 : decode cL_law 499 = .ok (.iconst 0, 1) := by decide +kernel
theorem dL_law_500 : decode cL_law 500 = .ok (.ireturn, 1) := by decide +kernel
theorem dL_law_501 : decode cL_law 501 = .ok (.aload_n 1, 1) := by decide +kernel
theorem dL_law_502 : decode cL_law 502 = .ok (.aload_n 0, 1) := by decide +kernel
theorem dL_law_503 : decode cL_law 503 = .ok (.iload_n 3, 1) := by decide +kernel
theorem dL_law_504 : decode cL_law 504 = .ok (.iconst 1, 1) := by decide +kernel
theorem dL_law_505 : decode cL_law 505 = .ok (.iadd, 1) := by decide +kernel
theorem dL_law_506 : decode cL_law 506 = .ok (.iaload, 1) := by decide +kernel
theorem dL_law_507 : decode cL_law 507 = .ok (.invokevirtual 76, 3) := by decide +kernel
theorem dL_law_510 : decode cL_law 510 = .ok (.aload_n 2, 1) := by decide +kernel
theorem dL_law_511 : decode cL_law 511 = .ok (.aload_n 0, 1) := by decide +kernel
theorem dL_law_512 : decode cL_law 512 = .ok (.iload_n 3, 1) := by decide +kernel
theorem dL_law_513 : decode cL_law 513 = .ok (.iconst 1, 1) := by decide +kernel
theorem dL_law_514 : decode cL_law 514 = .ok (.iadd, 1) := by decide +kernel
theorem dL_law_515 : decode cL_law 515 = .ok (.iaload, 1) := by decide +kernel
theorem dL_law_516 : decode cL_law 516 = .ok (.invokevirtual 79, 3) := by decide +kernel
theorem dL_law_519 : decode cL_law 519 = .ok (.if_icmp .eq 358, 3) := by decide +kernel
theorem dL_law_522 : decode cL_law 522 = .ok (.iconst 0, 1) := by decide +kernel
theorem dL_law_523 : decode cL_law 523 = .ok (.ireturn, 1) := by decide +kernel
theorem dL_law_524 : decode cL_law 524 = .ok (.aload_n 1, 1) := by decide +kernel
theorem dL_law_525 : decode cL_law 525 = .ok (.aload_n 0, 1) := by decide +kernel
theorem dL_law_526 : decode cL_law 526 = .ok (.iload_n 3, 1) := by decide +kernel
theorem dL_law_527 : decode cL_law 527 = .ok (.iconst 1, 1) := by decide +kernel
theorem dL_law_528 : decode cL_law 528 = .ok (.iadd, 1) := by decide +kernel
theorem dL_law_529 : decode cL_law 529 = .ok (.iaload, 1) := by decide +kernel
theorem dL_law_530 : decode cL_law 530 = .ok (.aload_n 0, 1) := by decide +kernel
theorem dL_law_531 : decode cL_law 531 = .ok (.iload_n 3, 1) := by decide +kernel
theorem dL_law_532 : decode cL_law 532 = .ok (.iconst 2, 1) := by decide +kernel
theorem dL_law_533 : decode cL_law 533 = .ok (.iadd, 1) := by decide +kernel
theorem dL_law_534 : decode cL_law 534 = .ok (.iaload, 1) := by decide +kernel
theorem dL_law_535 : decode cL_law 535 = .ok (.invokevirtual 80, 3) := by decide +kernel
theorem dL_law_538 : decode cL_law 538 = .ok (.aload_n 2, 1) := by decide +kernel
theorem dL_law_539 : decode cL_law 539 = .ok (.aload_n 0, 1) := by decide +kernel
theorem dL_law_540 : decode cL_law 540 = .ok (.iload_n 3, 1) := by decide +kernel
theorem dL_law_541 : decode cL_law 541 = .ok (.iconst 1, 1) := by decide +kernel
theorem dL_law_542 : decode cL_law 542 = .ok (.iadd, 1) := by decide +kernel
theorem dL_law_543 : decode cL_law 543 = .ok (.iaload, 1) := by decide +kernel
theorem dL_law_544 : decode cL_law 544 = .ok (.aload_n 0, 1) := by decide +kernel
theorem dL_law_545 : decode cL_law 545 = .ok (.iload_n 3, 1) := by decide +kernel
theorem dL_law_546 : decode cL_law 546 = .ok (.iconst 2, 1) := by decide +kernel
theorem dL_law_547 : decode cL_law 547 = .ok (.iadd, 1) := by decide +kernel
theorem dL_law_548 : decode cL_law 548 = .ok (.iaload, 1) := by decide +kernel
theorem dL_law_549 : decode cL_law 549 = .ok (.invokevirtual 83, 3) := by decide +kernel
theorem dL_law_552 : decode cL_law 552 = .ok (.if_icmp .eq 325, 3) := by decide +kernel
theorem dL_law_555 : decode cL_law 555 = .ok (.iconst 0, 1) := by decide +kernel
theorem dL_law_556 : decode cL_law 556 = .ok (.ireturn, 1) := by decide +kernel
theorem dL_law_557 : decode cL_law 557 = .ok (.aload_n 1, 1) := by decide +kernel
theorem dL_law_558 : decode cL_law 558 = .ok (.aload_n 0, 1) := by decide +kernel
theorem dL_law_559 : decode cL_law 559 = .ok (.iload_n 3, 1) := by decide +kernel
theorem dL_law_560 : decode cL_law 560 = .ok (.iconst 1, 1) := by decide +kernel
theorem dL_law_561 : decode cL_law 561 = .ok (.iadd, 1) := by decide +kernel
theorem dL_law_562 : decode cL_law 562 = .ok (.iaload, 1) := by decide +kernel
theorem dL_law_563 : decode cL_law 563 = .ok (.aload_n 0, 1) := by decide +kernel
theorem dL_law_564 : decode cL_law 564 = .ok (.iload_n 3, 1) := by decide +kernel
theorem dL_law_565 : decode cL_law 565 = .ok (.iconst 2, 1) := by decide +kernel
theorem dL_law_566 : decode cL_law 566 = .ok (.iadd, 1) := by decide +kernel
theorem dL_law_567 : decode cL_law 567 = .ok (.iaload, 1) := by decide +kernel
theorem dL_law_568 : decode cL_law 568 = .ok (.aload_n 0, 1) := by decide +kernel
theorem dL_law_569 : decode cL_law 569 = .ok (.iload_n 3, 1) := by decide +kernel
theorem dL_law_570 : decode cL_law 570 = .ok (.iconst 3, 1) := by decide +kernel
theorem dL_law_571 : decode cL_law 571 = .ok (.iadd, 1) := by decide +kernel
theorem dL_law_572 : decode cL_law 572 = .ok (.iaload, 1) := by decide +kernel
theorem dL_law_573 : decode cL_law 573 = .ok (.invokevirtual 84, 3) := by decide +kernel
theorem dL_law_576 : decode cL_law 576 = .ok (.aload_n 2, 1) := by decide +kernel
theorem dL_law_577 : decode cL_law 577 = .ok (.aload_n 0, 1) := by decide +kernel
theorem dL_law_578 : decode cL_law 578 = .ok (.iload_n 3, 1) := by decide +kernel
theorem dL_law_579 : decode cL_law 579 = .ok (.iconst 1, 1) := by decide +kernel
theorem dL_law_580 : decode cL_law 580 = .ok (.iadd, 1) := by decide +kernel
theorem dL_law_581 : decode cL_law 581 = .ok (.iaload, 1) := by decide +kernel
theorem dL_law_582 : decode cL_law 582 = .ok (.aload_n 0, 1) := by decide +kernel
theorem dL_law_583 : decode cL_law 583 = .ok (.iload_n 3, 1) := by decide +kernel
theorem dL_law_584 : decode cL_law 584 = .ok (.iconst 2, 1) := by decide +kernel
theorem dL_law_585 : decode cL_law 585 = .ok (.iadd, 1) := by decide +kernel
theorem dL_law_586 : decode cL_law 586 = .ok (.iaload, 1) := by decide +kernel
theorem dL_law_587 : decode cL_law 587 = .ok (.aload_n 0, 1) := by decide +kernel
theorem dL_law_588 : decode cL_law 588 = .ok (.iload_n 3, 1) := by decide +kernel
theorem dL_law_589 : decode cL_law 589 = .ok (.iconst 3, 1) := by decide +kernel
theorem dL_law_590 : decode cL_law 590 = .ok (.iadd, 1) := by decide +kernel
theorem dL_law_591 : decode cL_law 591 = .ok (.iaload, 1) := by decide +kernel
theorem dL_law_592 : decode cL_law 592 = .ok (.invokevirtual 88, 3) := by decide +kernel
theorem dL_law_595 : decode cL_law 595 = .ok (.if_icmp .eq 282, 3) := by decide +kernel
theorem dL_law_598 : decode cL_law 598 = .ok (.iconst 0, 1) := by decide +kernel
theorem dL_law_599 : decode cL_law 599 = .ok (.ireturn, 1) := by decide +kernel
theorem dL_law_600 : decode cL_law 600 = .ok (.aload_n 1, 1) := by decide +kernel
theorem dL_law_601 : decode cL_law 601 = .ok (.aload_n 0, 1) := by decide +kernel
theorem dL_law_602 : decode cL_law 602 = .ok (.iload_n 3, 1) := by decide +kernel
theorem dL_law_603 : decode cL_law 603 = .ok (.iconst 1, 1) := by decide +kernel
theorem dL_law_604 : decode cL_law 604 = .ok (.iadd, 1) := by decide +kernel
theorem dL_law_605 : decode cL_law 605 = .ok (.iaload, 1) := by decide +kernel
theorem dL_law_606 : decode cL_law 606 = .ok (.invokevirtual 89, 3) := by decide +kernel
theorem dL_law_609 : decode cL_law 609 = .ok (.aload_n 2, 1) := by decide +kernel
theorem dL_law_610 : decode cL_law 610 = .ok (.aload_n 0, 1) := by decide +kernel
theorem dL_law_611 : decode cL_law 611 = .ok (.iload_n 3, 1) := by decide +kernel
theorem dL_law_612 : decode cL_law 612 = .ok (.iconst 1, 1) := by decide +kernel
theorem dL_law_613 : decode cL_law 613 = .ok (.iadd, 1) := by decide +kernel
theorem dL_law_614 : decode cL_law 614 = .ok (.iaload, 1) := by decide +kernel
theorem dL_law_615 : decode cL_law 615 = .ok (.invokevirtual 92, 3) := by decide +kernel
theorem dL_law_618 : decode cL_law 618 = .ok (.if_icmp .eq 259, 3) := by decide +kernel
theorem dL_law_621 : decode cL_law 621 = .ok (.iconst 0, 1) := by decide +kernel
theorem dL_law_622 : decode cL_law 622 = .ok (.ireturn, 1) := by decide +kernel
theorem dL_law_623 : decode cL_law 623 = .ok (.aload_n 1, 1) := by decide +kernel
theorem dL_law_624 : decode cL_law 624 = .ok (.aload_n 0, 1) := by decide +kernel
theorem dL_law_625 : decode cL_law 625 = .ok (.iload_n 3, 1) := by decide +kernel
theorem dL_law_626 : decode cL_law 626 = .ok (.iconst 1, 1) := by decide +kernel
theorem dL_law_627 : decode cL_law 627 = .ok (.iadd, 1) := by decide +kernel
theorem dL_law_628 : decode cL_law 628 = .ok (.iaload, 1) := by decide +kernel
theorem dL_law_629 : decode cL_law 629 = .ok (.aload_n 0, 1) := by decide +kernel
theorem dL_law_630 : decode cL_law 630 = .ok (.iload_n 3, 1) := by decide +kernel
theorem dL_law_631 : decode cL_law 631 = .ok (.iconst 2, 1) := by decide +kernel
theorem dL_law_632 : decode cL_law 632 = .ok (.iadd, 1) := by decide +kernel
theorem dL_law_633 : decode cL_law 633 = .ok (.iaload, 1) := by decide +kernel
theorem dL_law_634 : decode cL_law 634 = .ok (.invokevirtual 93, 3) := by decide +kernel
theorem dL_law_637 : decode cL_law 637 = .ok (.aload_n 2, 1) := by decide +kernel
theorem dL_law_638 : decode cL_law 638 = .ok (.aload_n 0, 1) := by decide +kernel
theorem dL_law_639 : decode cL_law 639 = .ok (.iload_n 3, 1) := by decide +kernel
theorem dL_law_640 : decode cL_law 640 = .ok (.iconst 1, 1) := by decide +kernel
theorem dL_law_641 : decode cL_law 641 = .ok (.iadd, 1) := by decide +kernel
theorem dL_law_642 : decode cL_law 642 = .ok (.iaload, 1) := by decide +kernel
theorem dL_law_643 : decode cL_law 643 = .ok (.aload_n 0, 1) := by decide +kernel
theorem dL_law_644 : decode cL_law 644 = .ok (.iload_n 3, 1) := by decide +kernel
theorem dL_law_645 : decode cL_law 645 = .ok (.iconst 2, 1) := by decide +kernel
theorem dL_law_646 : decode cL_law 646 = .ok (.iadd, 1) := by decide +kernel
theorem dL_law_647 : decode cL_law 647 = .ok (.iaload, 1) := by decide +kernel
theorem dL_law_648 : decode cL_law 648 = .ok (.invokevirtual 96, 3) := by decide +kernel
theorem dL_law_651 : decode cL_law 651 = .ok (.if_icmp .eq 226, 3) := by decide +kernel
theorem dL_law_654 : decode cL_law 654 = .ok (.iconst 0, 1) := by decide +kernel
theorem dL_law_655 : decode cL_law 655 = .ok (.ireturn, 1) := by decide +kernel
theorem dL_law_656 : decode cL_law 656 = .ok (.aload_n 1, 1) := by decide +kernel
theorem dL_law_657 : decode cL_law 657 = .ok (.aload_n 0, 1) := by decide +kernel
theorem dL_law_658 : decode cL_law 658 = .ok (.iload_n 3, 1) := by decide +kernel
theorem dL_law_659 : decode cL_law 659 = .ok (.iconst 1, 1) := by decide +kernel
theorem dL_law_660 : decode cL_law 660 = .ok (.iadd, 1) := by decide +kernel
theorem dL_law_661 : decode cL_law 661 = .ok (.iaload, 1) := by decide +kernel
theorem dL_law_662 : decode cL_law 662 = .ok (.invokevirtual 97, 3) := by decide +kernel
theorem dL_law_665 : decode cL_law 665 = .ok (.aload_n 2, 1) := by decide +kernel
theorem dL_law_666 : decode cL_law 666 = .ok (.aload_n 0, 1) := by decide +kernel
theorem dL_law_667 : decode cL_law 667 = .ok (.iload_n 3, 1) := by decide +kernel
theorem dL_law_668 : decode cL_law 668 = .ok (.iconst 1, 1) := by decide +kernel
theorem dL_law_669 : decode cL_law 669 = .ok (.iadd, 1) := by decide +kernel
theorem dL_law_670 : decode cL_law 670 = .ok (.iaload, 1) := by decide +kernel
theorem dL_law_671 : decode cL_law 671 = .ok (.invokevirtual 100, 3) := by decide +kernel
theorem dL_law_674 : decode cL_law 674 = .ok (.if_icmp .eq 203, 3) := by decide +kernel
theorem dL_law_677 : decode cL_law 677 = .ok (.iconst 0, 1) := by decide +kernel
theorem dL_law_678 : decode cL_law 678 = .ok (.ireturn, 1) := by decide +kernel
theorem dL_law_679 : decode cL_law 679 = .ok (.aload_n 1, 1) := by decide +kernel
theorem dL_law_680 : decode cL_law 680 = .ok (.aload_n 0, 1) := by decide +kernel
theorem dL_law_681 : decode cL_law 681 = .ok (.iload_n 3, 1) := by decide +kernel
theorem dL_law_682 : decode cL_law 682 = .ok (.iconst 1, 1) := by decide +kernel
theorem dL_law_683 : decode cL_law 683 = .ok (.iadd, 1) := by decide +kernel
theorem dL_law_684 : decode cL_law 684 = .ok (.iaload, 1) := by decide +kernel
theorem dL_law_685 : decode cL_law 685 = .ok (.invokevirtual 101, 3) := by decide +kernel
theorem dL_law_688 : decode cL_law 688 = .ok (.aload_n 2, 1) := by decide +kernel
theorem dL_law_689 : decode cL_law 689 = .ok (.aload_n 0, 1) := by decide +kernel
theorem dL_law_690 : decode cL_law 690 = .ok (.iload_n 3, 1) := by decide +kernel
theorem dL_law_691 : decode cL_law 691 = .ok (.iconst 1, 1) := by decide +kernel
theorem dL_law_692 : decode cL_law 692 = .ok (.iadd, 1) := by decide +kernel
theorem dL_law_693 : decode cL_law 693 = .ok (.iaload, 1) := by decide +kernel
theorem dL_law_694 : decode cL_law 694 = .ok (.invokevirtual 104, 3) := by decide +kernel
theorem dL_law_697 : decode cL_law 697 = .ok (.if_icmp .eq 180, 3) := by decide +kernel
theorem dL_law_700 : decode cL_law 700 = .ok (.iconst 0, 1) := by decide +kernel
theorem dL_law_701 : decode cL_law 701 = .ok (.ireturn, 1) := by decide +kernel
theorem dL_law_702 : decode cL_law 702 = .ok (.aload_n 1, 1) := by decide +kernel
theorem dL_law_703 : decode cL_law 703 = .ok (.aload_n 0, 1) := by decide +kernel
theorem dL_law_704 : decode cL_law 704 = .ok (.iload_n 3, 1) := by decide +kernel
theorem dL_law_705 : decode cL_law 705 = .ok (.iconst 1, 1) := by decide +kernel
theorem dL_law_706 : decode cL_law 706 = .ok (.iadd, 1) := by decide +kernel
theorem dL_law_707 : decode cL_law 707 = .ok (.iaload, 1) := by decide +kernel
theorem dL_law_708 : decode cL_law 708 = .ok (.aload_n 0, 1) := by decide +kernel
theorem dL_law_709 : decode cL_law 709 = .ok (.iload_n 3, 1) := by decide +kernel
theorem dL_law_710 : decode cL_law 710 = .ok (.iconst 2, 1) := by decide +kernel
theorem dL_law_711 : decode cL_law 711 = .ok (.iadd, 1) := by decide +kernel
theorem dL_law_712 : decode cL_law 712 = .ok (.iaload, 1) := by decide +kernel
theorem dL_law_713 : decode cL_law 713 = .ok (.aload_n 0, 1) := by decide +kernel
theorem dL_law_714 : decode cL_law 714 = .ok (.iload_n 3, 1) := by decide +kernel
theorem dL_law_715 : decode cL_law 715 = .ok (.iconst 3, 1) := by decide +kernel
theorem dL_law_716 : decode cL_law 716 = .ok (.iadd, 1) := by decide +kernel
theorem dL_law_717 : decode cL_law 717 = .ok (.iaload, 1) := by decide +kernel
theorem dL_law_718 : decode cL_law 718 = .ok (.invokevirtual 105, 3) := by decide +kernel
theorem dL_law_721 : decode cL_law 721 = .ok (.aload_n 2, 1) := by decide +kernel
theorem dL_law_722 : decode cL_law 722 = .ok (.aload_n 0, 1) := by decide +kernel
theorem dL_law_723 : decode cL_law 723 = .ok (.iload_n 3, 1) := by decide +kernel
theorem dL_law_724 : decode cL_law 724 = .ok (.iconst 1, 1) := by decide +kernel
theorem dL_law_725 : decode cL_law 725 = .ok (.iadd, 1) := by decide +kernel
theorem dL_law_726 : decode cL_law 726 = .ok (.iaload, 1) := by decide +kernel
theorem dL_law_727 : decode cL_law 727 = .ok (.aload_n 0, 1) := by decide +kernel
theorem dL_law_728 : decode cL_law 728 = .ok (.iload_n 3, 1) := by decide +kernel
theorem dL_law_729 : decode cL_law 729 = .ok (.iconst 2, 1) := by decide +kernel
theorem dL_law_730 : decode cL_law 730 = .ok (.iadd, 1) := by decide +kernel
theorem dL_law_731 : decode cL_law 731 = .ok (.iaload, 1) := by decide +kernel
theorem dL_law_732 : decode cL_law 732 = .ok (.aload_n 0, 1) := by decide +kernel
theorem dL_law_733 : decode cL_law 733 = .ok (.iload_n 3, 1) := by decide +kernel
theorem dL_law_734 : decode cL_law 734 = .ok (.iconst 3, 1) := by decide +kernel
theorem dL_law_735 : decode cL_law 735 = .ok (.iadd, 1) := by decide +kernel
theorem dL_law_736 : decode cL_law 736 = .ok (.iaload, 1) := by decide +kernel
theorem dL_law_737 : decode cL_law 737 = .ok (.invokevirtual 108, 3) := by decide +kernel
theorem dL_law_740 : decode cL_law 740 = .ok (.if_icmp .eq 137, 3) := by decide +kernel
theorem dL_law_743 : decode cL_law 743 = .ok (.iconst 0, 1) := by decide +kernel
theorem dL_law_744 : decode cL_law 744 = .ok (.ireturn, 1) := by decide +kernel
theorem dL_law_745 : decode cL_law 745 = .ok (.aload_n 1, 1) := by decide +kernel
theorem dL_law_746 : decode cL_law 746 = .ok (.aload_n 0, 1) := by decide +kernel
theorem dL_law_747 : decode cL_law 747 = .ok (.iload_n 3, 1) := by decide +kernel
theorem dL_law_748 : decode cL_law 748 = .ok (.iconst 1, 1) := by decide +kernel
theorem dL_law_749 : decode cL_law 749 = .ok (.iadd, 1) := by decide +kernel
theorem dL_law_750 : decode cL_law 750 = .ok (.iaload, 1) := by decide +kernel
theorem dL_law_751 : decode cL_law 751 = .ok (.aload_n 0, 1) := by decide +kernel
theorem dL_law_752 : decode cL_law 752 = .ok (.iload_n 3, 1) := by decide +kernel
theorem dL_law_753 : decode cL_law 753 = .ok (.iconst 2, 1) := by decide +kernel
theorem dL_law_754 : decode cL_law 754 = .ok (.iadd, 1) := by decide +kernel
theorem dL_law_755 : decode cL_law 755 = .ok (.iaload, 1) := by decide +kernel
theorem dL_law_756 : decode cL_law 756 = .ok (.aload_n 0, 1) := by decide +kernel
theorem dL_law_757 : decode cL_law 757 = .ok (.iload_n 3, 1) := by decide +kernel
theorem dL_law_758 : decode cL_law 758 = .ok (.iconst 3, 1) := by decide +kernel
theorem dL_law_759 : decode cL_law 759 = .ok (.iadd, 1) := by decide +kernel
theorem dL_law_760 : decode cL_law 760 = .ok (.iaload, 1) := by decide +kernel
theorem dL_law_761 : decode cL_law 761 = .ok (.invokevirtual 109, 3) := by decide +kernel
theorem dL_law_764 : decode cL_law 764 = .ok (.aload_n 2, 1) := by decide +kernel
theorem dL_law_765 : decode cL_law 765 = .ok (.aload_n 0, 1) := by decide +kernel
theorem dL_law_766 : decode cL_law 766 = .ok (.iload_n 3, 1) := by decide +kernel
theorem dL_law_767 : decode cL_law 767 = .ok (.iconst 1, 1) := by decide +kernel
theorem dL_law_768 : decode cL_law 768 = .ok (.iadd, 1) := by decide +kernel
theorem dL_law_769 : decode cL_law 769 = .ok (.iaload, 1) := by decide +kernel
theorem dL_law_770 : decode cL_law 770 = .ok (.aload_n 0, 1) := by decide +kernel
theorem dL_law_771 : decode cL_law 771 = .ok (.iload_n 3, 1) := by decide +kernel
theorem dL_law_772 : decode cL_law 772 = .ok (.iconst 2, 1) := by decide +kernel
theorem dL_law_773 : decode cL_law 773 = .ok (.iadd, 1) := by decide +kernel
theorem dL_law_774 : decode cL_law 774 = .ok (.iaload, 1) := by decide +kernel
theorem dL_law_775 : decode cL_law 775 = .ok (.aload_n 0, 1) := by decide +kernel
theorem dL_law_776 : decode cL_law 776 = .ok (.iload_n 3, 1) := by decide +kernel
theorem dL_law_777 : decode cL_law 777 = .ok (.iconst 3, 1) := by decide +kernel
theorem dL_law_778 : decode cL_law 778 = .ok (.iadd, 1) := by decide +kernel
theorem dL_law_779 : decode cL_law 779 = .ok (.iaload, 1) := by decide +kernel
theorem dL_law_780 : decode cL_law 780 = .ok (.invokevirtual 112, 3) := by decide +kernel
theorem dL_law_783 : decode cL_law 783 = .ok (.if_icmp .eq 94, 3) := by decide +kernel
theorem dL_law_786 : decode cL_law 786 = .ok (.iconst 0, 1) := by decide +kernel
theorem dL_law_787 : decode cL_law 787 = .ok (.ireturn, 1) := by decide +kernel
theorem dL_law_788 : decode cL_law 788 = .ok (.aload_n 1, 1) := by decide +kernel
theorem dL_law_789 : decode cL_law 789 = .ok (.aload_n 0, 1) := by decide +kernel
theorem dL_law_790 : decode cL_law 790 = .ok (.iload_n 3, 1) := by decide +kernel
theorem dL_law_791 : decode cL_law 791 = .ok (.iconst 1, 1) := by decide +kernel
theorem dL_law_792 : decode cL_law 792 = .ok (.iadd, 1) := by decide +kernel
theorem dL_law_793 : decode cL_law 793 = .ok (.iaload, 1) := by decide +kernel
theorem dL_law_794 : decode cL_law 794 = .ok (.aload_n 0, 1) := by decide +kernel
theorem dL_law_795 : decode cL_law 795 = .ok (.iload_n 3, 1) := by decide +kernel
theorem dL_law_796 : decode cL_law 796 = .ok (.iconst 2, 1) := by decide +kernel
theorem dL_law_797 : decode cL_law 797 = .ok (.iadd, 1) := by decide +kernel
theorem dL_law_798 : decode cL_law 798 = .ok (.iaload, 1) := by decide +kernel
theorem dL_law_799 : decode cL_law 799 = .ok (.aload_n 0, 1) := by decide +kernel
theorem dL_law_800 : decode cL_law 800 = .ok (.iload_n 3, 1) := by decide +kernel
theorem dL_law_801 : decode cL_law 801 = .ok (.iconst 3, 1) := by decide +kernel
theorem dL_law_802 : decode cL_law 802 = .ok (.iadd, 1) := by decide +kernel
theorem dL_law_803 : decode cL_law 803 = .ok (.iaload, 1) := by decide +kernel
theorem dL_law_804 : decode cL_law 804 = .ok (.aload_n 0, 1) := by decide +kernel
theorem dL_law_805 : decode cL_law 805 = .ok (.iload_n 3, 1) := by decide +kernel
theorem dL_law_806 : decode cL_law 806 = .ok (.iconst 4, 1) := by decide +kernel
theorem dL_law_807 : decode cL_law 807 = .ok (.iadd, 1) := by decide +kernel
theorem dL_law_808 : decode cL_law 808 = .ok (.iaload, 1) := by decide +kernel
theorem dL_law_809 : decode cL_law 809 = .ok (.invokevirtual 113, 3) := by decide +kernel
theorem dL_law_812 : decode cL_law 812 = .ok (.aload_n 2, 1) := by decide +kernel
theorem dL_law_813 : decode cL_law 813 = .ok (.aload_n 0, 1) := by decide +kernel
theorem dL_law_814 : decode cL_law 814 = .ok (.iload_n 3, 1) := by decide +kernel
theorem dL_law_815 : decode cL_law 815 = .ok (.iconst 1, 1) := by decide +kernel
theorem dL_law_816 : decode cL_law 816 = .ok (.iadd, 1) := by decide +kernel
theorem dL_law_817 : decode cL_law 817 = .ok (.iaload, 1) := by decide +kernel
theorem dL_law_818 : decode cL_law 818 = .ok (.aload_n 0, 1) := by decide +kernel
theorem dL_law_819 : decode cL_law 819 = .ok (.iload_n 3, 1) := by decide +kernel
theorem dL_law_820 : decode cL_law 820 = .ok (.iconst 2, 1) := by decide +kernel
theorem dL_law_821 : decode cL_law 821 = .ok (.iadd, 1) := by decide +kernel
theorem dL_law_822 : decode cL_law 822 = .ok (.iaload, 1) := by decide +kernel
theorem dL_law_823 : decode cL_law 823 = .ok (.aload_n 0, 1) := by decide +kernel
theorem dL_law_824 : decode cL_law 824 = .ok (.iload_n 3, 1) := by decide +kernel
theorem dL_law_825 : decode cL_law 825 = .ok (.iconst 3, 1) := by decide +kernel
theorem dL_law_826 : decode cL_law 826 = .ok (.iadd, 1) := by decide +kernel
theorem dL_law_827 : decode cL_law 827 = .ok (.iaload, 1) := by decide +kernel
theorem dL_law_828 : decode cL_law 828 = .ok (.aload_n 0, 1) := by decide +kernel
theorem dL_law_829 : decode cL_law 829 = .ok (.iload_n 3, 1) := by decide +kernel
theorem dL_law_830 : decode cL_law 830 = .ok (.iconst 4, 1) := by decide +kernel
theorem dL_law_831 : decode cL_law 831 = .ok (.iadd, 1) := by decide +kernel
theorem dL_law_832 : decode cL_law 832 = .ok (.iaload, 1) := by decide +kernel
theorem dL_law_833 : decode cL_law 833 = .ok (.invokevirtual 117, 3) := by decide +kernel
theorem dL_law_836 : decode cL_law 836 = .ok (.if_icmp .eq 41, 3) := by decide +kernel
theorem dL_law_839 : decode cL_law 839 = .ok (.iconst 0, 1) := by decide +kernel
theorem dL_law_840 : decode cL_law 840 = .ok (.ireturn, 1) := by decide +kernel
theorem dL_law_841 : decode cL_law 841 = .ok (.aload_n 1, 1) := by decide +kernel
theorem dL_law_842 : decode cL_law 842 = .ok (.invokevirtual 118, 3) := by decide +kernel
theorem dL_law_845 : decode cL_law 845 = .ok (.aload_n 2, 1) := by decide +kernel
theorem dL_law_846 : decode cL_law 846 = .ok (.invokevirtual 121, 3) := by decide +kernel
theorem dL_law_849 : decode cL_law 849 = .ok (.if_icmp .eq 28, 3) := by decide +kernel
theorem dL_law_852 : decode cL_law 852 = .ok (.iconst 0, 1) := by decide +kernel
theorem dL_law_853 : decode cL_law 853 = .ok (.ireturn, 1) := by decide +kernel
theorem dL_law_854 : decode cL_law 854 = .ok (.aload_n 1, 1) := by decide +kernel
theorem dL_law_855 : decode cL_law 855 = .ok (.aload_n 0, 1) := by decide +kernel
theorem dL_law_856 : decode cL_law 856 = .ok (.iload_n 3, 1) := by decide +kernel
theorem dL_law_857 : decode cL_law 857 = .ok (.iconst 1, 1) := by decide +kernel
theorem dL_law_858 : decode cL_law 858 = .ok (.iadd, 1) := by decide +kernel
theorem dL_law_859 : decode cL_law 859 = .ok (.iaload, 1) := by decide +kernel
theorem dL_law_860 : decode cL_law 860 = .ok (.invokevirtual 122, 3) := by decide +kernel
theorem dL_law_863 : decode cL_law 863 = .ok (.aload_n 2, 1) := by decide +kernel
theorem dL_law_864 : decode cL_law 864 = .ok (.aload_n 0, 1) := by decide +kernel
theorem dL_law_865 : decode cL_law 865 = .ok (.iload_n 3, 1) := by decide +kernel
theorem dL_law_866 : decode cL_law 866 = .ok (.iconst 1, 1) := by decide +kernel
theorem dL_law_867 : decode cL_law 867 = .ok (.iadd, 1) := by decide +kernel
theorem dL_law_868 : decode cL_law 868 = .ok (.iaload, 1) := by decide +kernel
theorem dL_law_869 : decode cL_law 869 = .ok (.invokevirtual 125, 3) := by decide +kernel
theorem dL_law_872 : decode cL_law 872 = .ok (.if_icmp .eq 5, 3) := by decide +kernel
theorem dL_law_875 : decode cL_law 875 = .ok (.iconst 0, 1) := by decide +kernel
theorem dL_law_876 : decode cL_law 876 = .ok (.ireturn, 1) := by decide +kernel
theorem dL_law_877 : decode cL_law 877 = .ok (.iinc 3 5, 3) := by decide +kernel
theorem dL_law_880 : decode cL_law 880 = .ok (.goto (-862), 3) := by decide +kernel
theorem dL_law_883 : decode cL_law 883 = .ok (.iconst 1, 1) := by decide +kernel
theorem dL_law_884 : decode cL_law 884 = .ok (.ireturn, 1) := by decide +kernel
end
section
theorem dX0_init_0 : decode cX0_init 0 = .ok (.aload_n 0, 1) := by decide +kernel
theorem dX0_init_1 : decode cX0_init 1 = .ok (.invokespecial 3, 3) := by decide +kernel
theorem dX0_init_4 : decode cX0_init 4 = .ok (.aload_n 0, 1) := by decide +kernel
theorem dX0_init_5 : decode cX0_init 5 = .ok (.bipush 6, 2) := by decide +kernel
theorem dX0_init_7 : decode cX0_init 7 = .ok (.newarray .int, 2) := by decide +kernel
theorem dX0_init_9 : decode cX0_init 9 = .ok (.putfield 9, 3) := by decide +kernel
theorem dX0_init_12 : decode cX0_init 12 = .ok (.aload_n 0, 1) := by decide +kernel
theorem dX0_init_13 : decode cX0_init 13 = .ok (.bipush 18, 2) := by decide +kernel
theorem dX0_init_15 : decode cX0_init 15 = .ok (.newarray .int, 2) := by decide +kernel
theorem dX0_init_17 : decode cX0_init 17 = .ok (.putfield 15, 3) := by decide +kernel
theorem dX0_init_20 : decode cX0_init 20 = .ok (.aload_n 0, 1) := by decide +kernel
theorem dX0_init_21 : decode cX0_init 21 = .ok (.bipush 6, 2) := by decide +kernel
theorem dX0_init_23 : decode cX0_init 23 = .ok (.newarray .int, 2) := by decide +kernel
theorem dX0_init_25 : decode cX0_init 25 = .ok (.putfield 18, 3) := by decide +kernel
theorem dX0_init_28 : decode cX0_init 28 = .ok (.aload_n 0, 1) := by decide +kernel
theorem dX0_init_29 : decode cX0_init 29 = .ok (.iconst 4, 1) := by decide +kernel
theorem dX0_init_30 : decode cX0_init 30 = .ok (.newarray .int, 2) := by decide +kernel
theorem dX0_init_32 : decode cX0_init 32 = .ok (.putfield 21, 3) := by decide +kernel
theorem dX0_init_35 : decode cX0_init 35 = .ok (.aload_n 0, 1) := by decide +kernel
theorem dX0_init_36 : decode cX0_init 36 = .ok (.iconst 4, 1) := by decide +kernel
theorem dX0_init_37 : decode cX0_init 37 = .ok (.newarray .int, 2) := by decide +kernel
theorem dX0_init_39 : decode cX0_init 39 = .ok (.putfield 24, 3) := by decide +kernel
theorem dX0_init_42 : decode cX0_init 42 = .ok (.aload_n 0, 1) := by decide +kernel
theorem dX0_init_43 : decode cX0_init 43 = .ok (.iconst 4, 1) := by decide +kernel
theorem dX0_init_44 : decode cX0_init 44 = .ok (.newarray .int, 2) := by decide +kernel
theorem dX0_init_46 : decode cX0_init 46 = .ok (.putfield 27, 3) := by decide +kernel
theorem dX0_init_49 : decode cX0_init 49 = .ok (.aload_n 0, 1) := by decide +kernel
theorem dX0_init_50 : decode cX0_init 50 = .ok (.iconst 4, 1) := by decide +kernel
theorem dX0_init_51 : decode cX0_init 51 = .ok (.newarray .int, 2) := by decide +kernel
theorem dX0_init_53 : decode cX0_init 53 = .ok (.putfield 30, 3) := by decide +kernel
theorem dX0_init_56 : decode cX0_init 56 = .ok (.aload_n 0, 1) := by decide +kernel
theorem dX0_init_57 : decode cX0_init 57 = .ok (.iconst 4, 1) := by decide +kernel
theorem dX0_init_58 : decode cX0_init 58 = .ok (.newarray .int, 2) := by decide +kernel
theorem dX0_init_60 : decode cX0_init 60 = .ok (.putfield 33, 3) := by decide +kernel
theorem dX0_init_63 : decode cX0_init 63 = .ok (.aload_n 0, 1) := by decide +kernel
theorem dX0_init_64 : decode cX0_init 64 = .ok (.iconst 4, 1) := by decide +kernel
theorem dX0_init_65 : decode cX0_init 65 = .ok (.newarray .int, 2) := by decide +kernel
theorem dX0_init_67 : decode cX0_init 67 = .ok (.putfield 36, 3) := by decide +kernel
theorem dX0_init_70 : decode cX0_init 70 = .ok (.aload_n 0, 1) := by decide +kernel
theorem dX0_init_71 : decode cX0_init 71 = .ok (.bipush 60, 2) := by decide +kernel
theorem dX0_init_73 : decode cX0_init 73 = .ok (.newarray .int, 2) := by decide +kernel
theorem dX0_init_75 : decode cX0_init 75 = .ok (.putfield 39, 3) := by decide +kernel
theorem dX0_init_78 : decode cX0_init 78 = .ok (.aload_n 0, 1) := by decide +kernel
theorem dX0_init_79 : decode cX0_init 79 = .ok (.bipush 60, 2) := by decide +kernel
theorem dX0_init_81 : decode cX0_init 81 = .ok (.newarray .int, 2) := by decide +kernel
theorem dX0_init_83 : decode cX0_init 83 = .ok (.putfield 42, 3) := by decide +kernel
theorem dX0_init_86 : decode cX0_init 86 = .ok (.aload_n 0, 1) := by decide +kernel
theorem dX0_init_87 : decode cX0_init 87 = .ok (.bipush 60, 2) := by decide +kernel
theorem dX0_init_89 : decode cX0_init 89 = .ok (.newarray .int, 2) := by decide +kernel
theorem dX0_init_91 : decode cX0_init 91 = .ok (.putfield 45, 3) := by decide +kernel
theorem dX0_init_94 : decode cX0_init 94 = .ok (.return_, 1) := by decide +kernel
theorem dX0_copyFrom_0 : decode cX0_copyFrom 0 = .ok (.aload_n 0, 1) := by decide +kernel
theorem dX0_copyFrom_1 : decode cX0_copyFrom 1 = .ok (.aload_n 1, 1) := by decide +kernel
theorem dX0_copyFrom_2 : decode cX0_copyFrom 2 = .ok (.getfield 48, 3) := by decide +kernel
theorem dX0_copyFrom_5 : decode cX0_copyFrom 5 = .ok (.putfield 48, 3) := by decide +kernel
theorem dX0_copyFrom_8 : decode cX0_copyFrom 8 = .ok (.aload_n 1, 1) := by decide +kernel
theorem dX0_copyFrom_9 : decode cX0_copyFrom 9 = .ok (.getfield 9, 3) := by decide +kernel
theorem dX0_copyFrom_12 : decode cX0_copyFrom 12 = .ok (.iconst 0, 1) := by decide +kernel
theorem dX0_copyFrom_13 : decode cX0_copyFrom 13 = .ok (.aload_n 0, 1) := by decide +kernel
theorem dX0_copyFrom_14 : decode cX0_copyFrom 14 = .ok (.getfield 9, 3) := by decide +kernel
theorem dX0_copyFrom_17 : decode cX0_copyFrom 17 = .ok (.iconst 0, 1) := by decide +kernel
theorem dX0_copyFrom_18 : decode cX0_copyFrom 18 = .ok (.bipush 6, 2) := by decide +kernel
theorem dX0_copyFrom_20 : decode cX0_copyFrom 20 = .ok (.invokestatic 52, 3) := by decide +kernel
theorem dX0_copyFrom_23 : decode cX0_copyFrom 23 = .ok (.aload_n 1, 1) := by decide +kernel
theorem dX0_copyFrom_24 : decode cX0_copyFrom 24 = .ok (.getfield 15, 3) := by decide +kernel
theorem dX0_copyFrom_27 : decode cX0_copyFrom 27 = .ok (.iconst 0, 1) := by decide +kernel
theorem dX0_copyFrom_28 : decode cX0_copyFrom 28 = .ok (.aload_n 0, 1) := by decide +kernel
theorem dX0_copyFrom_29 : decode cX0_copyFrom 29 = .ok (.getfield 15, 3) := by decide +kernel
theorem dX0_copyFrom_32 : decode cX0_copyFrom 32 = .ok (.iconst 0, 1) := by decide +kernel
theorem dX0_copyFrom_33 : decode cX0_copyFrom 33 = .ok (.bipush 18, 2) := by decide +kernel
theorem dX0_copyFrom_35 : decode cX0_copyFrom 35 = .ok (.invokestatic 52, 3) := by decide +kernel
theorem dX0_copyFrom_38 : decode cX0_copyFrom 38 = .ok (.aload_n 1, 1) := by decide +kernel
theorem dX0_copyFrom_39 : decode cX0_copyFrom 39 = .ok (.getfield 18, 3) := by decide +kernel
theorem dX0_copyFrom_42 : decode cX0_copyFrom 42 = .ok (.iconst 0, 1) := by decide +kernel
theorem dX0_copyFrom_43 : decode cX0_copyFrom 43 = .ok (.aload_n 0, 1) := by decide +kernel
theorem dX0_copyFrom_44 : decode cX0_copyFrom 44 = .ok (.getfield 18, 3) := by decide +kernel
theorem dX0_copyFrom_47 : decode cX0_copyFrom 47 = .ok (.iconst 0, 1) := by decide +kernel
theorem dX0_copyFrom_48 : decode cX0_copyFrom 48 = .ok (.bipush 6, 2) := by decide +kernel
theorem dX0_copyFrom_50 : decode cX0_copyFrom 50 = .ok (.invokestatic 52, 3) := by decide +kernel
theorem dX0_copyFrom_53 : decode cX0_copyFrom 53 = .ok (.aload_n 0, 1) := by decide +kernel
theorem dX0_copyFrom_54 : decode cX0_copyFrom 54 = .ok (.aload_n 1, 1) := by decide +kernel
theorem dX0_copyFrom_55 : decode cX0_copyFrom 55 = .ok (.getfield 58, 3) := by decide +kernel
theorem dX0_copyFrom_58 : decode cX0_copyFrom 58 = .ok (.putfield 58, 3) := by decide +kernel
theorem dX0_copyFrom_61 : decode cX0_copyFrom 61 = .ok (.aload_n 1, 1) := by decide +kernel
theorem dX0_copyFrom_62 : decode cX0_copyFrom 62 = .ok (.getfield 21, 3) := by decide +kernel
theorem dX0_copyFrom_65 : decode cX0_copyFrom 65 = .ok (.iconst 0, 1) := by decide +kernel
theorem dX0_copyFrom_66 : decode cX0_copyFrom 66 = .ok (.aload_n 0, 1) := by decide +kernel
theorem dX0_copyFrom_67 : decode cX0_copyFrom 67 = .ok (.getfield 21, 3) := by decide +kernel
theorem dX0_copyFrom_70 : decode cX0_copyFrom 70 = .ok (.iconst 0, 1) := by decide +kernel
theorem dX0_copyFrom_71 : decode cX0_copyFrom 71 = .ok (.iconst 4, 1) := by decide +kernel
theorem dX0_copyFrom_72 : decode cX0_copyFrom 72 = .ok (.invokestatic 52, 3) := by decide +kernel
theorem dX0_copyFrom_75 : decode cX0_copyFrom 75 = .ok (.aload_n 1, 1) := by decide +kernel
theorem dX0_copyFrom_76 : decode cX0_copyFrom 76 = .ok (.getfield 24, 3) := by decide +kernel
theorem dX0_copyFrom_79 : decode cX0_copyFrom 79 = .ok (.iconst 0, 1) := by decide +kernel
theorem dX0_copyFrom_80 : decode cX0_copyFrom 80 = .ok (.aload_n 0, 1) := by decide +kernel
theorem dX0_copyFrom_81 : decode cX0_copyFrom 81 = .ok (.getfield 24, 3) := by decide +kernel
theorem dX0_copyFrom_84 : decode cX0_copyFrom 84 = .ok (.iconst 0, 1) := by decide +kernel
theorem dX0_copyFrom_85 : decode cX0_copyFrom 85 = .ok (.iconst 4, 1) := by decide +kernel
theorem dX0_copyFrom_86 : decode cX0_copyFrom 86 = .ok (.invokestatic 52, 3) := by decide +kernel
theorem dX0_copyFrom_89 : decode cX0_copyFrom 89 = .ok (.aload_n 1, 1) := by decide +kernel
theorem dX0_copyFrom_90 : decode cX0_copyFrom 90 = .ok (.getfield 27, 3) := by decide +kernel
theorem dX0_copyFrom_93 : decode cX0_copyFrom 93 = .ok (.iconst 0, 1) := by decide +kernel
theorem dX0_copyFrom_94 : decode cX0_copyFrom 94 = .ok (.aload_n 0, 1) := by decide +kernel
theorem dX0_copyFrom_95 : decode cX0_copyFrom 95 = .ok (.getfield 27, 3) := by decide +kernel
theorem dX0_copyFrom_98 : decode cX0_copyFrom 98 = .ok (.iconst 0, 1) := by decide +kernel
theorem dX0_copyFrom_99 : decode cX0_copyFrom 99 = .ok (.iconst 4, 1) := by decide +kernel
theorem dX0_copyFrom_100 : decode cX0_copyFrom 100 = .ok (.invokestatic 52, 3) := by decide +kernel
theorem dX0_copyFrom_103 : decode cX0_copyFrom 103 = .ok (.aload_n 1, 1) := by decide +kernel
theorem dX0_copyFrom_104 : decode cX0_copyFrom 104 = .ok (.getfield 30, 3) := by decide +kernel
theorem dX0_copyFrom_107 : decode cX0_copyFrom 107 = .ok (.iconst 0, 1) := by decide +kernel
theorem dX0_copyFrom_108 : decode cX0_copyFrom 108 = .ok (.aload_n 0, 1) := by decide +kernel
theorem dX0_copyFrom_109 : decode cX0_copyFrom 109 = .ok (.getfield 30, 3) := by decide +kernel
theorem dX0_copyFrom_112 : decode cX0_copyFrom 112 = .ok (.iconst 0, 1) := by decide +kernel
theorem dX0_copyFrom_113 : decode cX0_copyFrom 113 = .ok (.iconst 4, 1) := by decide +kernel
theorem dX0_copyFrom_114 : decode cX0_copyFrom 114 = .ok (.invokestatic 52, 3) := by decide +kernel
theorem dX0_copyFrom_117 : decode cX0_copyFrom 117 = .ok (.aload_n 1, 1) := by decide +kernel
theorem dX0_copyFrom_118 : decode cX0_copyFrom 118 = .ok (.getfield 33, 3) := by decide +kernel
theorem dX0_copyFrom_121 : decode cX0_copyFrom 121 = .ok (.iconst 0, 1) := by decide +kernel
theorem dX0_copyFrom_122 : decode cX0_copyFrom 122 = .ok (.aload_n 0, 1) := by decide +kernel
theorem dX0_copyFrom_123 : decode cX0_copyFrom 123 = .ok (.getfield 33, 3) := by decide +kernel
theorem dX0_copyFrom_126 : decode cX0_copyFrom 126 = .ok (.iconst 0, 1) := by decide +kernel
theorem dX0_copyFrom_127 : decode cX0_copyFrom 127 = .ok (.iconst 4, 1) := by decide +kernel
theorem dX0_copyFrom_128 : decode cX0_copyFrom 128 = .ok (.invokestatic 52, 3) := by decide +kernel
theorem dX0_copyFrom_131 : decode cX0_copyFrom 131 = .ok (.aload_n 1, 1) := by decide +kernel
theorem dX0_copyFrom_132 : decode cX0_copyFrom 132 = .ok (.getfield 36, 3) := by decide +kernel
theorem dX0_copyFrom_135 : decode cX0_copyFrom 135 = .ok (.iconst 0, 1) := by decide +kernel
theorem dX0_copyFrom_136 : decode cX0_copyFrom 136 = .ok (.aload_n 0, 1) := by decide +kernel
theorem dX0_copyFrom_137 : decode cX0_copyFrom 137 = .ok (.getfield 36, 3) := by decide +kernel
theorem dX0_copyFrom_140 : decode cX0_copyFrom 140 = .ok (.iconst 0, 1) := by decide +kernel
theorem dX0_copyFrom_141 : decode cX0_copyFrom 141 = .ok (.iconst 4, 1) := by decide +kernel
theorem dX0_copyFrom_142 : decode cX0_copyFrom 142 = .ok (.invokestatic 52, 3) := by decide +kernel
theorem dX0_copyFrom_145 : decode cX0_copyFrom 145 = .ok (.aload_n 0, 1) := by decide +kernel
theorem dX0_copyFrom_146 : decode cX0_copyFrom 146 = .ok (.aload_n 1, 1) := by decide +kernel
theorem dX0_copyFrom_147 : decode cX0_copyFrom 147 = .ok (.getfield 61, 3) := by decide +kernel
theorem dX0_copyFrom_150 : decode cX0_copyFrom 150 = .ok (.putfield 61, 3) := by decide +kernel
theorem dX0_copyFrom_153 : decode cX0_copyFrom 153 = .ok (.aload_n 0, 1) := by decide +kernel
theorem dX0_copyFrom_154 : decode cX0_copyFrom 154 = .ok (.aload_n 1, 1) := by decide +kernel
theorem dX0_copyFrom_155 : decode cX0_copyFrom 155 = .ok (.getfield 64, 3) := by decide +kernel
theorem dX0_copyFrom_158 : decode cX0_copyFrom 158 = .ok (.putfield 64, 3) := by decide +kernel
theorem dX0_copyFrom_161 : decode cX0_copyFrom 161 = .ok (.aload_n 1, 1) := by decide +kernel
theorem dX0_copyFrom_162 : decode cX0_copyFrom 162 = .ok (.getfield 39, 3) := by decide +kernel
theorem dX0_copyFrom_165 : decode cX0_copyFrom 165 = .ok (.iconst 0, 1) := by decide +kernel
theorem dX0_copyFrom_166 : decode cX0_copyFrom 166 = .ok (.aload_n 0, 1) := by decide +kernel
theorem dX0_copyFrom_167 : decode cX0_copyFrom 167 = .ok (.getfield 39, 3) := by decide +kernel
theorem dX0_copyFrom_170 : decode cX0_copyFrom 170 = .ok (.iconst 0, 1) := by decide +kernel
theorem dX0_copyFrom_171 : decode cX0_copyFrom 171 = .ok (.bipush 60, 2) := by decide +kernel
theorem dX0_copyFrom_173 : decode cX0_copyFrom 173 = .ok (.invokestatic 52, 3) := by decide +kernel
theorem dX0_copyFrom_176 : decode cX0_copyFrom 176 = .ok (.aload_n 1, 1) := by decide +kernel
theorem dX0_copyFrom_177 : decode cX0_copyFrom 177 = .ok (.getfield 42, 3) := by decide +kernel
theorem dX0_copyFrom_180 : decode cX0_copyFrom 180 = .ok (.iconst 0, 1) := by decide +kernel
theorem dX0_copyFrom_181 : decode cX0_copyFrom 181 = .ok (.aload_n 0, 1) := by decide +kernel
theorem dX0_copyFrom_182 : decode cX0_copyFrom 182 = .ok (.getfield 42, 3) := by decide +kernel
theorem dX0_copyFrom_185 : decode cX0_copyFrom 185 = .ok (.iconst 0, 1) := by decide +kernel
theorem dX0_copyFrom_186 : decode cX0_copyFrom 186 = .ok (.bipush 60, 2) := by decide +kernel
theorem dX0_copyFrom_188 : decode cX0_copyFrom 188 = .ok (.invokestatic 52, 3) := by decide +kernel
theorem dX0_copyFrom_191 : decode cX0_copyFrom 191 = .ok (.aload_n 1, 1) := by decide +kernel
theorem dX0_copyFrom_192 : decode cX0_copyFrom 192 = .ok (.getfield 45, 3) := by decide +kernel
theorem dX0_copyFrom_195 : decode cX0_copyFrom 195 = .ok (.iconst 0, 1) := by decide +kernel
theorem dX0_copyFrom_196 : decode cX0_copyFrom 196 = .ok (.aload_n 0, 1) := by decide +kernel
theorem dX0_copyFrom_197 : decode cX0_copyFrom 197 = .ok (.getfield 45, 3) := by decide +kernel
theorem dX0_copyFrom_200 : decode cX0_copyFrom 200 = .ok (.iconst 0, 1) := by decide +kernel
theorem dX0_copyFrom_201 : decode cX0_copyFrom 201 = .ok (.bipush 60, 2) := by decide +kernel
theorem dX0_copyFrom_203 : decode cX0_copyFrom 203 = .ok (.invokestatic 52, 3) := by decide +kernel
theorem dX0_copyFrom_206 : decode cX0_copyFrom 206 = .ok (.return_, 1) := by decide +kernel
theorem dX0_clearAll_0 : decode cX0_clearAll 0 = .ok (.aload_n 0, 1) := by decide +kernel
theorem dX0_clearAll_1 : decode cX0_clearAll 1 = .ok (.iconst 0, 1) := by decide +kernel
theorem dX0_clearAll_2 : decode cX0_clearAll 2 = .ok (.putfield 48, 3) := by decide +kernel
theorem dX0_clearAll_5 : decode cX0_clearAll 5 = .ok (.aload_n 0, 1) := by decide +kernel
theorem dX0_clearAll_6 : decode cX0_clearAll 6 = .ok (.iconst 0, 1) := by decide +kernel
theorem dX0_clearAll_7 : decode cX0_clearAll 7 = .ok (.putfield 58, 3) := by decide +kernel
theorem dX0_clearAll_10 : decode cX0_clearAll 10 = .ok (.aload_n 0, 1) := by decide +kernel
theorem dX0_clearAll_11 : decode cX0_clearAll 11 = .ok (.iconst 0, 1) := by decide +kernel
theorem dX0_clearAll_12 : decode cX0_clearAll 12 = .ok (.putfield 61, 3) := by decide +kernel
theorem dX0_clearAll_15 : decode cX0_clearAll 15 = .ok (.aload_n 0, 1) := by decide +kernel
theorem dX0_clearAll_16 : decode cX0_clearAll 16 = .ok (.iconst 0, 1) := by decide +kernel
theorem dX0_clearAll_17 : decode cX0_clearAll 17 = .ok (.putfield 64, 3) := by decide +kernel
theorem dX0_clearAll_20 : decode cX0_clearAll 20 = .ok (.return_, 1) := by decide +kernel
theorem dX0_hasPlace_0 : decode cX0_hasPlace 0 = .ok (.iload_n 1, 1) := by decide +kernel
theorem dX0_hasPlace_1 : decode cX0_hasPlace 1 = .ok (.ifCond .lt 15, 3) := by decide +kernel
theorem dX0_hasPlace_4 : decode cX0_hasPlace 4 = .ok (.iload_n 1, 1) := by decide +kernel
theorem dX0_hasPlace_5 : decode cX0_hasPlace 5 = .ok (.aload_n 0, 1) := by decide +kernel
theorem dX0_hasPlace_6 : decode cX0_hasPlace 6 = .ok (.getfield 48, 3) := by decide +kernel
theorem dX0_hasPlace_9 : decode cX0_hasPlace 9 = .ok (.if_icmp .ge 7, 3) := by decide +kernel
theorem dX0_hasPlace_12 : decode cX0_hasPlace 12 = .ok (.iconst 1, 1) := by decide +kernel
theorem dX0_hasPlace_13 : decode cX0_hasPlace 13 = .ok (.goto 4, 3) := by decide +kernel
theorem dX0_hasPlace_16 : decode cX0_hasPlace 16 = .ok (.iconst 0, 1) := by decide +kernel
theorem dX0_hasPlace_17 : decode cX0_hasPlace 17 = .ok (.ireturn, 1) := by decide +kernel
theorem dX0_hasTrain_0 : decode cX0_hasTrain 0 = .ok (.iload_n 1, 1) := by decide +kernel
theorem dX0_hasTrain_1 : decode cX0_hasTrain 1 = .ok (.ifCond .lt 15, 3) := by decide +kernel
theorem dX0_hasTrain_4 : decode cX0_hasTrain 4 = .ok (.iload_n 1, 1) := by decide +kernel
theorem dX0_hasTrain_5 : decode cX0_hasTrain 5 = .ok (.aload_n 0, 1) := by decide +kernel
theorem dX0_hasTrain_6 : decode cX0_hasTrain 6 = .ok (.getfield 58, 3) := by decide +kernel
theorem dX0_hasTrain_9 : decode cX0_hasTrain 9 = .ok (.if_icmp .ge 7, 3) := by decide +kernel
theorem dX0_hasTrain_12 : decode cX0_hasTrain 12 = .ok (.iconst 1, 1) := by decide +kernel
theorem dX0_hasTrain_13 : decode cX0_hasTrain 13 = .ok (.goto 4, 3) := by decide +kernel
theorem dX0_hasTrain_16 : decode cX0_hasTrain 16 = .ok (.iconst 0, 1) := by decide +kernel
theorem dX0_hasTrain_17 : decode cX0_hasTrain 17 = .ok (.ireturn, 1) := by decide +kernel
theorem dX0_hasAllToldPlaces_0 : decode cX0_hasAllToldPlaces 0 = .ok (.iconst 0, 1) := by decide +kernel
theorem dX0_hasAllToldPlaces_1 : decode cX0_hasAllToldPlaces 1 = .ok (.istore_n 1, 1) := by decide +kernel
theorem dX0_hasAllToldPlaces_2 : decode cX0_hasAllToldPlaces 2 = .ok (.iload_n 1, 1) := by decide +kernel
theorem dX0_hasAllToldPlaces_3 : decode cX0_hasAllToldPlaces 3 = .ok (.aload_n 0, 1) := by decide +kernel
theorem dX0_hasAllToldPlaces_4 : decode cX0_hasAllToldPlaces 4 = .ok (.getfield 58, 3) := by decide +kernel
theorem dX0_hasAllToldPlaces_7 : decode cX0_hasAllToldPlaces 7 = .ok (.if_icmp .ge 37, 3) := by decide +kernel
theorem dX0_hasAllToldPlaces_10 : decode cX0_hasAllToldPlaces 10 = .ok (.aload_n 0, 1) := by decide +kernel
theorem dX0_hasAllToldPlaces_11 : decode cX0_hasAllToldPlaces 11 = .ok (.getfield 21, 3) := by decide +kernel
theorem dX0_hasAllToldPlaces_14 : decode cX0_hasAllToldPlaces 14 = .ok (.iload_n 1, 1) := by decide +kernel
theorem dX0_hasAllToldPlaces_15 : decode cX0_hasAllToldPlaces 15 = .ok (.iaload, 1) := by decide +kernel
theorem dX0_hasAllToldPlaces_16 : decode cX0_hasAllToldPlaces 16 = .ok (.aload_n 0, 1) := by decide +kernel
theorem dX0_hasAllToldPlaces_17 : decode cX0_hasAllToldPlaces 17 = .ok (.getfield 48, 3) := by decide +kernel
theorem dX0_hasAllToldPlaces_20 : decode cX0_hasAllToldPlaces 20 = .ok (.if_icmp .ge 16, 3) := by decide +kernel
theorem dX0_hasAllToldPlaces_23 : decode cX0_hasAllToldPlaces 23 = .ok (.aload_n 0, 1) := by decide +kernel
theorem dX0_hasAllToldPlaces_24 : decode cX0_hasAllToldPlaces 24 = .ok (.getfield 24, 3) := by decide +kernel
theorem dX0_hasAllToldPlaces_27 : decode cX0_hasAllToldPlaces 27 = .ok (.iload_n 1, 1) := by decide +kernel
theorem dX0_hasAllToldPlaces_28 : decode cX0_hasAllToldPlaces 28 = .ok (.iaload, 1) := by decide +kernel
theorem dX0_hasAllToldPlaces_29 : decode cX0_hasAllToldPlaces 29 = .ok (.aload_n 0, 1) := by decide +kernel
theorem dX0_hasAllToldPlaces_30 : decode cX0_hasAllToldPlaces 30 = .ok (.getfield 48, 3) := by decide +kernel
theorem dX0_hasAllToldPlaces_33 : decode cX0_hasAllToldPlaces 33 = .ok (.if_icmp .lt 5, 3) := by decide +kernel
theorem dX0_hasAllToldPlaces_36 : decode cX0_hasAllToldPlaces 36 = .ok (.iconst 0, 1) := by decide +kernel
theorem dX0_hasAllToldPlaces_37 : decode cX0_hasAllToldPlaces 37 = .ok (.ireturn, 1) := by decide +kernel
theorem dX0_hasAllToldPlaces_38 : decode cX0_hasAllToldPlaces 38 = .ok (.iinc 1 1, 3) := by decide +kernel
theorem dX0_hasAllToldPlaces_41 : decode cX0_hasAllToldPlaces 41 = .ok (.goto (-39), 3) := by decide +kernel
theorem dX0_hasAllToldPlaces_44 : decode cX0_hasAllToldPlaces 44 = .ok (.iconst 1, 1) := by decide +kernel
theorem dX0_hasAllToldPlaces_45 : decode cX0_hasAllToldPlaces 45 = .ok (.ireturn, 1) := by decide +kernel
theorem dX0_openPlace_0 : decode cX0_openPlace 0 = .ok (.aload_n 0, 1) := by decide +kernel
theorem dX0_openPlace_1 : decode cX0_openPlace 1 = .ok (.getfield 48, 3) := by decide +kernel
theorem dX0_openPlace_4 : decode cX0_openPlace 4 = .ok (.bipush 6, 2) := by decide +kernel
theorem dX0_openPlace_6 : decode cX0_openPlace 6 = .ok (.if_icmp .ge 33, 3) := by decide +kernel
theorem dX0_openPlace_9 : decode cX0_openPlace 9 = .ok (.aload_n 0, 1) := by decide +kernel
theorem dX0_openPlace_10 : decode cX0_openPlace 10 = .ok (.getfield 9, 3) := by decide +kernel
theorem dX0_openPlace_13 : decode cX0_openPlace 13 = .ok (.aload_n 0, 1) := by decide +kernel
theorem dX0_openPlace_14 : decode cX0_openPlace 14 = .ok (.getfield 48, 3) := by decide +kernel
theorem dX0_openPlace_17 : decode cX0_openPlace 17 = .ok (.iconst 0, 1) := by decide +kernel
theorem dX0_openPlace_18 : decode cX0_openPlace 18 = .ok (.iastore, 1) := by decide +kernel
theorem dX0_openPlace_19 : decode cX0_openPlace 19 = .ok (.aload_n 0, 1) := by decide +kernel
theorem dX0_openPlace_20 : decode cX0_openPlace 20 = .ok (.getfield 18, 3) := by decide +kernel
theorem dX0_openPlace_23 : decode cX0_openPlace 23 = .ok (.aload_n 0, 1) := by decide +kernel
theorem dX0_openPlace_24 : decode cX0_openPlace 24 = .ok (.getfield 48, 3) := by decide +kernel
theorem dX0_openPlace_27 : decode cX0_openPlace 27 = .ok (.iconst 1, 1) := by decide +kernel
theorem dX0_openPlace_28 : decode cX0_openPlace 28 = .ok (.iastore, 1) := by decide +kernel
theorem dX0_openPlace_29 : decode cX0_openPlace 29 = .ok (.aload_n 0, 1) := by decide +kernel
theorem dX0_openPlace_30 : decode cX0_openPlace 30 = .ok (.dup, 1) := by decide +kernel
theorem dX0_openPlace_31 : decode cX0_openPlace 31 = .ok (.getfield 48, 3) := by decide +kernel
theorem dX0_openPlace_34 : decode cX0_openPlace 34 = .ok (.iconst 1, 1) := by decide +kernel
theorem dX0_openPlace_35 : decode cX0_openPlace 35 = .ok (.iadd, 1) := by decide +kernel
theorem dX0_openPlace_36 : decode cX0_openPlace 36 = .ok (.putfield 48, 3) := by decide +kernel
theorem dX0_openPlace_39 : decode cX0_openPlace 39 = .ok (.return_, 1) := by decide +kernel
theorem dX0_openTrack_0 : decode cX0_openTrack 0 = .ok (.aload_n 0, 1) := by decide +kernel
theorem dX0_openTrack_1 : decode cX0_openTrack 1 = .ok (.getfield 48, 3) := by decide +kernel
theorem dX0_openTrack_4 : decode cX0_openTrack 4 = .ok (.iconst 1, 1) := by decide +kernel
theorem dX0_openTrack_5 : decode cX0_openTrack 5 = .ok (.isub, 1) := by decide +kernel
theorem dX0_openTrack_6 : decode cX0_openTrack 6 = .ok (.istore_n 2, 1) := by decide +kernel
theorem dX0_openTrack_7 : decode cX0_openTrack 7 = .ok (.iload_n 2, 1) := by decide +kernel
theorem dX0_openTrack_8 : decode cX0_openTrack 8 = .ok (.ifCond .lt 13, 3) := by decide +kernel
theorem dX0_openTrack_11 : decode cX0_openTrack 11 = .ok (.aload_n 0, 1) := by decide +kernel
theorem dX0_openTrack_12 : decode cX0_openTrack 12 = .ok (.getfield 9, 3) := by decide +kernel
theorem dX0_openTrack_15 : decode cX0_openTrack 15 = .ok (.iload_n 2, 1) := by decide +kernel
theorem dX0_openTrack_16 : decode cX0_openTrack 16 = .ok (.iaload, 1) := by decide +kernel
theorem dX0_openTrack_17 : decode cX0_openTrack 17 = .ok (.iconst 3, 1) := by decide +kernel
theorem dX0_openTrack_18 : decode cX0_openTrack 18 = .ok (.if_icmp .lt 4, 3) := by decide +kernel
theorem dX0_openTrack_21 : decode cX0_openTrack 21 = .ok (.return_, 1) := by decide +kernel
theorem dX0_openTrack_22 : decode cX0_openTrack 22 = .ok (.iload_n 2, 1) := by decide +kernel
theorem dX0_openTrack_23 : decode cX0_openTrack 23 = .ok (.iconst 3, 1) := by decide +kernel
theorem dX0_openTrack_24 : decode cX0_openTrack 24 = .ok (.imul, 1) := by decide +kernel
theorem dX0_openTrack_25 : decode cX0_openTrack 25 = .ok (.istore_n 3, 1) := by decide +kernel
theorem dX0_openTrack_26 : decode cX0_openTrack 26 = .ok (.iload_n 3, 1) := by decide +kernel
theorem dX0_openTrack_27 : decode cX0_openTrack 27 = .ok (.aload_n 0, 1) := by decide +kernel
theorem dX0_openTrack_28 : decode cX0_openTrack 28 = .ok (.getfield 9, 3) := by decide +kernel
theorem dX0_openTrack_31 : decode cX0_openTrack 31 = .ok (.iload_n 2, 1) := by decide +kernel
theorem dX0_openTrack_32 : decode cX0_openTrack 32 = .ok (.iaload, 1) := by decide +kernel
theorem dX0_openTrack_33 : decode cX0_openTrack 33 = .ok (.iadd, 1) := by decide +kernel
theorem dX0_openTrack_34 : decode cX0_openTrack 34 = .ok (.istore 4, 2) := by decide +kernel
theorem dX0_openTrack_36 : decode cX0_openTrack 36 = .ok (.iload 4, 2) := by decide +kernel
theorem dX0_openTrack_38 : decode cX0_openTrack 38 = .ok (.iload_n 3, 1) := by decide +kernel
theorem dX0_openTrack_39 : decode cX0_openTrack 39 = .ok (.if_icmp .le 38, 3) := by decide +kernel
theorem dX0_openTrack_42 : decode cX0_openTrack 42 = .ok (.aload_n 0, 1) := by decide +kernel
theorem dX0_openTrack_43 : decode cX0_openTrack 43 = .ok (.getfield 15, 3) := by decide +kernel
theorem dX0_openTrack_46 : decode cX0_openTrack 46 = .ok (.iload 4, 2) := by decide +kernel
theorem dX0_openTrack_48 : decode cX0_openTrack 48 = .ok (.iconst 1, 1) := by decide +kernel
theorem dX0_openTrack_49 : decode cX0_openTrack 49 = .ok (.isub, 1) := by decide +kernel
theorem dX0_openTrack_50 : decode cX0_openTrack 50 = .ok (.iaload, 1) := by decide +kernel
theorem dX0_openTrack_51 : decode cX0_openTrack 51 = .ok (.iload_n 1, 1) := by decide +kernel
theorem dX0_openTrack_52 : decode cX0_openTrack 52 = .ok (.if_icmp .ge 25, 3) := by decide +kernel
theorem dX0_openTrack_55 : decode cX0_openTrack 55 = .ok (.aload_n 0, 1) := by decide +kernel
theorem dX0_openTrack_56 : decode cX0_openTrack 56 = .ok (.getfield 15, 3) := by decide +kernel
theorem dX0_openTrack_59 : decode cX0_openTrack 59 = .ok (.iload 4, 2) := by decide +kernel
theorem dX0_openTrack_61 : decode cX0_openTrack 61 = .ok (.aload_n 0, 1) := by decide +kernel
theorem dX0_openTrack_62 : decode cX0_openTrack 62 = .ok (.getfield 15, 3) := by decide +kernel
theorem dX0_openTrack_65 : decode cX0_openTrack 65 = .ok (.iload 4, 2) := by decide +kernel
theorem dX0_openTrack_67 : decode cX0_openTrack 67 = .ok (.iconst 1, 1) := by decide +kernel
theorem dX0_openTrack_68 : decode cX0_openTrack 68 = .ok (.isub, 1) := by decide +kernel
theorem dX0_openTrack_69 : decode cX0_openTrack 69 = .ok (.iaload, 1) := by decide +kernel
theorem dX0_openTrack_70 : decode cX0_openTrack 70 = .ok (.iastore, 1) := by decide +kernel
theorem dX0_openTrack_71 : decode cX0_openTrack 71 = .ok (.iinc 4 (-1), 3) := by decide +kernel
theorem dX0_openTrack_74 : decode cX0_openTrack 74 = .ok (.goto (-38), 3) := by decide +kernel
theorem dX0_openTrack_77 : decode cX0_openTrack 77 = .ok (.aload_n 0, 1) := by decide +kernel
theorem dX0_openTrack_78 : decode cX0_openTrack 78 = .ok (.getfield 15, 3) := by decide +kernel
theorem dX0_openTrack_81 : decode cX0_openTrack 81 = .ok (.iload 4, 2) := by decide +kernel
theorem dX0_openTrack_83 : decode cX0_openTrack 83 = .ok (.iload_n 1, 1) := by decide +kernel
theorem dX0_openTrack_84 : decode cX0_openTrack 84 = .ok (.iastore, 1) := by decide +kernel
theorem dX0_openTrack_85 : decode cX0_openTrack 85 = .ok (.aload_n 0, 1) := by decide +kernel
theorem dX0_openTrack_86 : decode cX0_openTrack 86 = .ok (.getfield 9, 3) := by decide +kernel
theorem dX0_openTrack_89 : decode cX0_openTrack 89 = .ok (.iload_n 2, 1) := by decide +kernel
theorem dX0_openTrack_90 : decode cX0_openTrack 90 = .ok (.dup2, 1) := by decide +kernel
theorem dX0_openTrack_91 : decode cX0_openTrack 91 = .ok (.iaload, 1) := by decide +kernel
theorem dX0_openTrack_92 : decode cX0_openTrack 92 = .ok (.iconst 1, 1) := by decide +kernel
theorem dX0_openTrack_93 : decode cX0_openTrack 93 = .ok (.iadd, 1) := by decide +kernel
theorem dX0_openTrack_94 : decode cX0_openTrack 94 = .ok (.iastore, 1) := by decide +kernel
theorem dX0_openTrack_95 : decode cX0_openTrack 95 = .ok (.return_, 1) := by decide +kernel
theorem dX0_openTrain_0 : decode cX0_openTrain 0 = .ok (.aload_n 0, 1) := by decide +kernel
theorem dX0_openTrain_1 : decode cX0_openTrain 1 = .ok (.getfield 58, 3) := by decide +kernel
theorem dX0_openTrain_4 : decode cX0_openTrain 4 = .ok (.iconst 4, 1) := by decide +kernel
theorem dX0_openTrain_5 : decode cX0_openTrain 5 = .ok (.if_icmp .ge 78, 3) := by decide +kernel
theorem dX0_openTrain_8 : decode cX0_openTrain 8 = .ok (.aload_n 0, 1) := by decide +kernel
theorem dX0_openTrain_9 : decode cX0_openTrain 9 = .ok (.getfield 21, 3) := by decide +kernel
theorem dX0_openTrain_12 : decode cX0_openTrain 12 = .ok (.aload_n 0, 1) := by decide +kernel
theorem dX0_openTrain_13 : decode cX0_openTrain 13 = .ok (.getfield 58, 3) := by decide +kernel
theorem dX0_openTrain_16 : decode cX0_openTrain 16 = .ok (.iload_n 1, 1) := by decide +kernel
theorem dX0_openTrain_17 : decode cX0_openTrain 17 = .ok (.iastore, 1) := by decide +kernel
theorem dX0_openTrain_18 : decode cX0_openTrain 18 = .ok (.aload_n 0, 1) := by decide +kernel
theorem dX0_openTrain_19 : decode cX0_openTrain 19 = .ok (.getfield 24, 3) := by decide +kernel
theorem dX0_openTrain_22 : decode cX0_openTrain 22 = .ok (.aload_n 0, 1) := by decide +kernel
theorem dX0_openTrain_23 : decode cX0_openTrain 23 = .ok (.getfield 58, 3) := by decide +kernel
theorem dX0_openTrain_26 : decode cX0_openTrain 26 = .ok (.iload_n 2, 1) := by decide +kernel
theorem dX0_openTrain_27 : decode cX0_openTrain 27 = .ok (.iastore, 1) := by decide +kernel
theorem dX0_openTrain_28 : decode cX0_openTrain 28 = .ok (.aload_n 0, 1) := by decide +kernel
theorem dX0_openTrain_29 : decode cX0_openTrain 29 = .ok (.getfield 27, 3) := by decide +kernel
theorem dX0_openTrain_32 : decode cX0_openTrain 32 = .ok (.aload_n 0, 1) := by decide +kernel
theorem dX0_openTrain_33 : decode cX0_openTrain 33 = .ok (.getfield 58, 3) := by decide +kernel
theorem dX0_openTrain_36 : decode cX0_openTrain 36 = .ok (.iload_n 3, 1) := by decide +kernel
theorem dX0_openTrain_37 : decode cX0_openTrain 37 = .ok (.iastore, 1) := by decide +kernel
theorem dX0_openTrain_38 : decode cX0_openTrain 38 = .ok (.aload_n 0, 1) := by decide +kernel
theorem dX0_openTrain_39 : decode cX0_openTrain 39 = .ok (.getfield 30, 3) := by decide +kernel
theorem dX0_openTrain_42 : decode cX0_openTrain 42 = .ok (.aload_n 0, 1) := by decide +kernel
theorem dX0_openTrain_43 : decode cX0_openTrain 43 = .ok (.getfield 58, 3) := by decide +kernel
theorem dX0_openTrain_46 : decode cX0_openTrain 46 = .ok (.iload_n 2, 1) := by decide +kernel
theorem dX0_openTrain_47 : decode cX0_openTrain 47 = .ok (.iload_n 1, 1) := by decide +kernel
theorem dX0_openTrain_48 : decode cX0_openTrain 48 = .ok (.isub, 1) := by decide +kernel
theorem dX0_openTrain_49 : decode cX0_openTrain 49 = .ok (.invokestatic 67, 3) := by decide +kernel
theorem dX0_openTrain_52 : decode cX0_openTrain 52 = .ok (.iastore, 1) := by decide +kernel
theorem dX0_openTrain_53 : decode cX0_openTrain 53 = .ok (.aload_n 0, 1) := by decide +kernel
theorem dX0_openTrain_54 : decode cX0_openTrain 54 = .ok (.getfield 33, 3) := by decide +kernel
theorem dX0_openTrain_57 : decode cX0_openTrain 57 = .ok (.aload_n 0, 1) := by decide +kernel
theorem dX0_openTrain_58 : decode cX0_openTrain 58 = .ok (.getfield 58, 3) := by decide +kernel
theorem dX0_openTrain_61 : decode cX0_openTrain 61 = .ok (.iconst 0, 1) := by decide +kernel
theorem dX0_openTrain_62 : decode cX0_openTrain 62 = .ok (.iastore, 1) := by decide +kernel
theorem dX0_openTrain_63 : decode cX0_openTrain 63 = .ok (.aload_n 0, 1) := by decide +kernel
theorem dX0_openTrain_64 : decode cX0_openTrain 64 = .ok (.getfield 36, 3) := by decide +kernel
theorem dX0_openTrain_67 : decode cX0_openTrain 67 = .ok (.aload_n 0, 1) := by decide +kernel
theorem dX0_openTrain_68 : decode cX0_openTrain 68 = .ok (.getfield 58, 3) := by decide +kernel
theorem dX0_openTrain_71 : decode cX0_openTrain 71 = .ok (.iconst 0, 1) := by decide +kernel
theorem dX0_openTrain_72 : decode cX0_openTrain 72 = .ok (.iastore, 1) := by decide +kernel
theorem dX0_openTrain_73 : decode cX0_openTrain 73 = .ok (.aload_n 0, 1) := by decide +kernel
theorem dX0_openTrain_74 : decode cX0_openTrain 74 = .ok (.dup, 1) := by decide +kernel
theorem dX0_openTrain_75 : decode cX0_openTrain 75 = .ok (.getfield 58, 3) := by decide +kernel
theorem dX0_openTrain_78 : decode cX0_openTrain 78 = .ok (.iconst 1, 1) := by decide +kernel
theorem dX0_openTrain_79 : decode cX0_openTrain 79 = .ok (.iadd, 1) := by decide +kernel
theorem dX0_openTrain_80 : decode cX0_openTrain 80 = .ok (.putfield 58, 3) := by decide +kernel
theorem dX0_openTrain_83 : decode cX0_openTrain 83 = .ok (.return_, 1) := by decide +kernel
theorem dX0_removeTrain_0 : decode cX0_removeTrain 0 = .ok (.iload_n 1, 1) := by decide +kernel
theorem dX0_removeTrain_1 : decode cX0_removeTrain 1 = .ok (.istore_n 2, 1) := by decide +kernel
theorem dX0_removeTrain_2 : decode cX0_removeTrain 2 = .ok (.iload_n 2, 1) := by decide +kernel
theorem dX0_removeTrain_3 : decode cX0_removeTrain 3 = .ok (.aload_n 0, 1) := by decide +kernel
theorem dX0_removeTrain_4 : decode cX0_removeTrain 4 = .ok (.getfield 58, 3) := by decide +kernel
theorem dX0_removeTrain_7 : decode cX0_removeTrain 7 = .ok (.iconst 1, 1) := by decide +kernel
theorem dX0_removeTrain_8 : decode cX0_removeTrain 8 = .ok (.isub, 1) := by decide +kernel
theorem dX0_removeTrain_9 : decode cX0_removeTrain 9 = .ok (.if_icmp .ge 93, 3) := by decide +kernel
theorem dX0_removeTrain_12 : decode cX0_removeTrain 12 = .ok (.aload_n 0, 1) := by decide +kernel
theorem dX0_removeTrain_13 : decode cX0_removeTrain 13 = .ok (.getfield 21, 3) := by decide +kernel
theorem dX0_removeTrain_16 : decode cX0_removeTrain 16 = .ok (.iload_n 2, 1) := by decide +kernel
theorem dX0_removeTrain_17 : decode cX0_removeTrain 17 = .ok (.aload_n 0, 1) := by decide +kernel
theorem dX0_removeTrain_18 : decode cX0_removeTrain 18 = .ok (.getfield 21, 3) := by decide +kernel
theorem dX0_removeTrain_21 : decode cX0_removeTrain 21 = .ok (.iload_n 2, 1) := by decide +kernel
theorem dX0_removeTrain_22 : decode cX0_removeTrain 22 = .ok (.iconst 1, 1) := by decide +kernel
theorem dX0_removeTrain_23 : decode cX0_removeTrain 23 = .ok (.iadd, 1) := by decide +kernel
theorem dX0_removeTrain_24 : decode cX0_removeTrain 24 = .ok (.iaload, 1) := by decide +kernel
theorem dX0_removeTrain_25 : decode cX0_removeTrain 25 = .ok (.iastore, 1) := by decide +kernel
theorem dX0_removeTrain_26 : decode cX0_removeTrain 26 = .ok (.aload_n 0, 1) := by decide +kernel
theorem dX0_removeTrain_27 : decode cX0_removeTrain 27 = .ok (.getfield 24, 3) := by decide +kernel
theorem dX0_removeTrain_30 : decode cX0_removeTrain 30 = .ok (.iload_n 2, 1) := by decide +kernel
theorem dX0_removeTrain_31 : decode cX0_removeTrain 31 = .ok (.aload_n 0, 1) := by decide +kernel
theorem dX0_removeTrain_32 : decode cX0_removeTrain 32 = .ok (.getfield 24, 3) := by decide +kernel
theorem dX0_removeTrain_35 : decode cX0_removeTrain 35 = .ok (.iload_n 2, 1) := by decide +kernel
theorem dX0_removeTrain_36 : decode cX0_removeTrain 36 = .ok (.iconst 1, 1) := by decide +kernel
theorem dX0_removeTrain_37 : decode cX0_removeTrain 37 = .ok (.iadd, 1) := by decide +kernel
theorem dX0_removeTrain_38 : decode cX0_removeTrain 38 = .ok (.iaload, 1) := by decide +kernel
theorem dX0_removeTrain_39 : decode cX0_removeTrain 39 = .ok (.iastore, 1) := by decide +kernel
theorem dX0_removeTrain_40 : decode cX0_removeTrain 40 = .ok (.aload_n 0, 1) := by decide +kernel
theorem dX0_removeTrain_41 : decode cX0_removeTrain 41 = .ok (.getfield 27, 3) := by decide +kernel
theorem dX0_removeTrain_44 : decode cX0_removeTrain 44 = .ok (.iload_n 2, 1) := by decide +kernel
theorem dX0_removeTrain_45 : decode cX0_removeTrain 45 = .ok (.aload_n 0, 1) := by decide +kernel
theorem dX0_removeTrain_46 : decode cX0_removeTrain 46 = .ok (.getfield 27, 3) := by decide +kernel
theorem dX0_removeTrain_49 : decode cX0_removeTrain 49 = .ok (.iload_n 2, 1) := by decide +kernel
theorem dX0_removeTrain_50 : decode cX0_removeTrain 50 = .ok (.iconst 1, 1) := by decide +kernel
theorem dX0_removeTrain_51 : decode cX0_removeTrain 51 = .ok (.iadd, 1) := by decide +kernel
theorem dX0_removeTrain_52 : decode cX0_removeTrain 52 = .ok (.iaload, 1) := by decide +kernel
theorem dX0_removeTrain_53 : decode cX0_removeTrain 53 = .ok (.iastore, 1) := by decide +kernel
theorem dX0_removeTrain_54 : decode cX0_removeTrain 54 = .ok (.aload_n 0, 1) := by decide +kernel
theorem dX0_removeTrain_55 : decode cX0_removeTrain 55 = .ok (.getfield 30, 3) := by decide +kernel
theorem dX0_removeTrain_58 : decode cX0_removeTrain 58 = .ok (.iload_n 2, 1) := by decide +kernel
theorem dX0_removeTrain_59 : decode cX0_removeTrain 59 = .ok (.aload_n 0, 1) := by decide +kernel
theorem dX0_removeTrain_60 : decode cX0_removeTrain 60 = .ok (.getfield 30, 3) := by decide +kernel
theorem dX0_removeTrain_63 : decode cX0_removeTrain 63 = .ok (.iload_n 2, 1) := by decide +kernel
theorem dX0_removeTrain_64 : decode cX0_removeTrain 64 = .ok (.iconst 1, 1) := by decide +kernel
theorem dX0_removeTrain_65 : decode cX0_removeTrain 65 = .ok (.iadd, 1) := by decide +kernel
theorem dX0_removeTrain_66 : decode cX0_removeTrain 66 = .ok (.iaload, 1) := by decide +kernel
theorem dX0_removeTrain_67 : decode cX0_removeTrain 67 = .ok (.iastore, 1) := by decide +kernel
theorem dX0_removeTrain_68 : decode cX0_removeTrain 68 = .ok (.aload_n 0, 1) := by decide +kernel
theorem dX0_removeTrain_69 : decode cX0_removeTrain 69 = .ok (.getfield 33, 3) := by decide +kernel
theorem dX0_removeTrain_72 : decode cX0_removeTrain 72 = .ok (.iload_n 2, 1) := by decide +kernel
theorem dX0_removeTrain_73 : decode cX0_removeTrain 73 = .ok (.aload_n 0, 1) := by decide +kernel
theorem dX0_removeTrain_74 : decode cX0_removeTrain 74 = .ok (.getfield 33, 3) := by decide +kernel
theorem dX0_removeTrain_77 : decode cX0_removeTrain 77 = .ok (.iload_n 2, 1) := by decide +kernel
theorem dX0_removeTrain_78 : decode cX0_removeTrain 78 = .ok (.iconst 1, 1) := by decide +kernel
theorem dX0_removeTrain_79 : decode cX0_removeTrain 79 = .ok (.iadd, 1) := by decide +kernel
theorem dX0_removeTrain_80 : decode cX0_removeTrain 80 = .ok (.iaload, 1) := by decide +kernel
theorem dX0_removeTrain_81 : decode cX0_removeTrain 81 = .ok (.iastore, 1) := by decide +kernel
theorem dX0_removeTrain_82 : decode cX0_removeTrain 82 = .ok (.aload_n 0, 1) := by decide +kernel
theorem dX0_removeTrain_83 : decode cX0_removeTrain 83 = .ok (.getfield 36, 3) := by decide +kernel
theorem dX0_removeTrain_86 : decode cX0_removeTrain 86 = .ok (.iload_n 2, 1) := by decide +kernel
theorem dX0_removeTrain_87 : decode cX0_removeTrain 87 = .ok (.aload_n 0, 1) := by decide +kernel
theorem dX0_removeTrain_88 : decode cX0_removeTrain 88 = .ok (.getfield 36, 3) := by decide +kernel
theorem dX0_removeTrain_91 : decode cX0_removeTrain 91 = .ok (.iload_n 2, 1) := by decide +kernel
theorem dX0_removeTrain_92 : decode cX0_removeTrain 92 = .ok (.iconst 1, 1) := by decide +kernel
theorem dX0_removeTrain_93 : decode cX0_removeTrain 93 = .ok (.iadd, 1) := by decide +kernel
theorem dX0_removeTrain_94 : decode cX0_removeTrain 94 = .ok (.iaload, 1) := by decide +kernel
theorem dX0_removeTrain_95 : decode cX0_removeTrain 95 = .ok (.iastore, 1) := by decide +kernel
theorem dX0_removeTrain_96 : decode cX0_removeTrain 96 = .ok (.iinc 2 1, 3) := by decide +kernel
theorem dX0_removeTrain_99 : decode cX0_removeTrain 99 = .ok (.goto (-97), 3) := by decide +kernel
theorem dX0_removeTrain_102 : decode cX0_removeTrain 102 = .ok (.aload_n 0, 1) := by decide +kernel
theorem dX0_removeTrain_103 : decode cX0_removeTrain 103 = .ok (.dup, 1) := by decide +kernel
theorem dX0_removeTrain_104 : decode cX0_removeTrain 104 = .ok (.getfield 58, 3) := by decide +kernel
theorem dX0_removeTrain_107 : decode cX0_removeTrain 107 = .ok (.iconst 1, 1) := by decide +kernel
theorem dX0_removeTrain_108 : decode cX0_removeTrain 108 = .ok (.isub, 1) := by decide +kernel
theorem dX0_removeTrain_109 : decode cX0_removeTrain 109 = .ok (.putfield 58, 3) := by decide +kernel
theorem dX0_removeTrain_112 : decode cX0_removeTrain 112 = .ok (.aload_n 0, 1) := by decide +kernel
theorem dX0_removeTrain_113 : decode cX0_removeTrain 113 = .ok (.iload_n 1, 1) := by decide +kernel
theorem dX0_removeTrain_114 : decode cX0_removeTrain 114 = .ok (.invokevirtual 73, 3) := by decide +kernel
theorem dX0_removeTrain_117 : decode cX0_removeTrain 117 = .ok (.return_, 1) := by decide +kernel
theorem dX0_removeEntries_0 : decode cX0_removeEntries 0 = .ok (.iconst 0, 1) := by decide +kernel
theorem dX0_removeEntries_1 : decode cX0_removeEntries 1 = .ok (.istore_n 2, 1) := by decide +kernel
theorem dX0_removeEntries_2 : decode cX0_removeEntries 2 = .ok (.iconst 0, 1) := by decide +kernel
theorem dX0_removeEntries_3 : decode cX0_removeEntries 3 = .ok (.istore_n 3, 1) := by decide +kernel
theorem dX0_removeEntries_4 : decode cX0_removeEntries 4 = .ok (.iload_n 3, 1) := by decide +kernel
theorem dX0_removeEntries_5 : decode cX0_removeEntries 5 = .ok (.aload_n 0, 1) := by decide +kernel
theorem dX0_removeEntries_6 : decode cX0_removeEntries 6 = .ok (.getfield 64, 3) := by decide +kernel
theorem dX0_removeEntries_9 : decode cX0_removeEntries 9 = .ok (.if_icmp .ge 79, 3) := by decide +kernel
theorem dX0_removeEntries_12 : decode cX0_removeEntries 12 = .ok (.aload_n 0, 1) := by decide +kernel
theorem dX0_removeEntries_13 : decode cX0_removeEntries 13 = .ok (.getfield 42, 3) := by decide +kernel
theorem dX0_removeEntries_16 : decode cX0_removeEntries 16 = .ok (.iload_n 3, 1) := by decide +kernel
theorem dX0_removeEntries_17 : decode cX0_removeEntries 17 = .ok (.iaload, 1) := by decide +kernel
theorem dX0_removeEntries_18 : decode cX0_removeEntries 18 = .ok (.iload_n 1, 1) := by decide +kernel
theorem dX0_removeEntries_19 : decode cX0_removeEntries 19 = .ok (.if_icmp .eq 63, 3) := by decide +kernel
theorem dX0_removeEntries_22 : decode cX0_removeEntries 22 = .ok (.aload_n 0, 1) := by decide +kernel
theorem dX0_removeEntries_23 : decode cX0_removeEntries 23 = .ok (.getfield 39, 3) := by decide +kernel
theorem dX0_removeEntries_26 : decode cX0_removeEntries 26 = .ok (.iload_n 2, 1) := by decide +kernel
theorem dX0_removeEntries_27 : decode cX0_removeEntries 27 = .ok (.aload_n 0, 1) := by decide +kernel
theorem dX0_removeEntries_28 : decode cX0_removeEntries 28 = .ok (.getfield 39, 3) := by decide +kernel
theorem dX0_removeEntries_31 : decode cX0_removeEntries 31 = .ok (.iload_n 3, 1) := by decide +kernel
theorem dX0_removeEntries_32 : decode cX0_removeEntries 32 = .ok (.iaload, 1) := by decide +kernel
theorem dX0_removeEntries_33 : decode cX0_removeEntries 33 = .ok (.iastore, 1) := by decide +kernel
theorem dX0_removeEntries_34 : decode cX0_removeEntries 34 = .ok (.aload_n 0, 1) := by decide +kernel
theorem dX0_removeEntries_35 : decode cX0_removeEntries 35 = .ok (.getfield 42, 3) := by decide +kernel
theorem dX0_removeEntries_38 : decode cX0_removeEntries 38 = .ok (.iload_n 2, 1) := by decide +kernel
theorem dX0_removeEntries_39 : decode cX0_removeEntries 39 = .ok (.aload_n 0, 1) := by decide +kernel
theorem dX0_removeEntries_40 : decode cX0_removeEntries 40 = .ok (.getfield 42, 3) := by decide +kernel
theorem dX0_removeEntries_43 : decode cX0_removeEntries 43 = .ok (.iload_n 3, 1) := by decide +kernel
theorem dX0_removeEntries_44 : decode cX0_removeEntries 44 = .ok (.iaload, 1) := by decide +kernel
theorem dX0_removeEntries_45 : decode cX0_removeEntries 45 = .ok (.iload_n 1, 1) := by decide +kernel
theorem dX0_removeEntries_46 : decode cX0_removeEntries 46 = .ok (.if_icmp .le 14, 3) := by decide +kernel
theorem dX0_removeEntries_49 : decode cX0_removeEntries 49 = .ok (.aload_n 0, 1) := by decide +kernel
theorem dX0_removeEntries_50 : decode cX0_removeEntries 50 = .ok (.getfield 42, 3) := by decide +kernel
theorem dX0_removeEntries_53 : decode cX0_removeEntries 53 = .ok (.iload_n 3, 1) := by decide +kernel
theorem dX0_removeEntries_54 : decode cX0_removeEntries 54 = .ok (.iaload, 1) := by decide +kernel
theorem dX0_removeEntries_55 : decode cX0_removeEntries 55 = .ok (.iconst 1, 1) := by decide +kernel
theorem dX0_removeEntries_56 : decode cX0_removeEntries 56 = .ok (.isub, 1) := by decide +kernel
theorem dX0_removeEntries_57 : decode cX0_removeEntries 57 = .ok (.goto 9, 3) := by decide +kernel
theorem dX0_removeEntries_60 : decode cX0_removeEntries 60 = .ok (.aload_n 0, 1) := by decide +kernel
theorem dX0_removeEntries_61 : decode cX0_removeEntries 61 = .ok (.getfield 42, 3) := by decide +kernel
theorem dX0_removeEntries_64 : decode cX0_removeEntries 64 = .ok (.iload_n 3, 1) := by decide +kernel
theorem dX0_removeEntries_65 : decode cX0_removeEntries 65 = .ok (.iaload, 1) := by decide +kernel
theorem dX0_removeEntries_66 : decode cX0_removeEntries 66 = .ok (.iastore, 1) := by decide +kernel
theorem dX0_removeEntries_67 : decode cX0_removeEntries 67 = .ok (.aload_n 0, 1) := by decide +kernel
theorem dX0_removeEntries_68 : decode cX0_removeEntries 68 = .ok (.getfield 45, 3) := by decide +kernel
theorem dX0_removeEntries_71 : decode cX0_removeEntries 71 = .ok (.iload_n 2, 1) := by decide +kernel
theorem dX0_removeEntries_72 : decode cX0_removeEntries 72 = .ok (.aload_n 0, 1) := by decide +kernel
theorem dX0_removeEntries_73 : decode cX0_removeEntries 73 = .ok (.getfield 45, 3) := by decide +kernel
theorem dX0_removeEntries_76 : decode cX0_removeEntries 76 = .ok (.iload_n 3, 1) := by decide +kernel
theorem dX0_removeEntries_77 : decode cX0_removeEntries 77 = .ok (.iaload, 1) := by decide +kernel
theorem dX0_removeEntries_78 : decode cX0_removeEntries 78 = .ok (.iastore, 1) := by decide +kernel
theorem dX0_removeEntries_79 : decode cX0_removeEntries 79 = .ok (.iinc 2 1, 3) := by decide +kernel
theorem dX0_removeEntries_82 : decode cX0_removeEntries 82 = .ok (.iinc 3 1, 3) := by decide +kernel
theorem dX0_removeEntries_85 : decode cX0_removeEntries 85 = .ok (.goto (-81), 3) := by decide +kernel
theorem dX0_removeEntries_88 : decode cX0_removeEntries 88 = .ok (.aload_n 0, 1) := by decide +kernel
theorem dX0_removeEntries_89 : decode cX0_removeEntries 89 = .ok (.iload_n 2, 1) := by decide +kernel
theorem dX0_removeEntries_90 : decode cX0_removeEntries 90 = .ok (.putfield 64, 3) := by decide +kernel
theorem dX0_removeEntries_93 : decode cX0_removeEntries 93 = .ok (.return_, 1) := by decide +kernel
theorem dX0_howMany_0 : decode cX0_howMany 0 = .ok (.iconst 0, 1) := by decide +kernel
theorem dX0_howMany_1 : decode cX0_howMany 1 = .ok (.istore_n 2, 1) := by decide +kernel
theorem dX0_howMany_2 : decode cX0_howMany 2 = .ok (.iconst 0, 1) := by decide +kernel
theorem dX0_howMany_3 : decode cX0_howMany 3 = .ok (.istore_n 3, 1) := by decide +kernel
theorem dX0_howMany_4 : decode cX0_howMany 4 = .ok (.iload_n 3, 1) := by decide +kernel
theorem dX0_howMany_5 : decode cX0_howMany 5 = .ok (.aload_n 0, 1) := by decide +kernel
theorem dX0_howMany_6 : decode cX0_howMany 6 = .ok (.getfield 58, 3) := by decide +kernel
theorem dX0_howMany_9 : decode cX0_howMany 9 = .ok (.if_icmp .ge 27, 3) := by decide +kernel
theorem dX0_howMany_12 : decode cX0_howMany 12 = .ok (.iload_n 2, 1) := by decide +kernel
theorem dX0_howMany_13 : decode cX0_howMany 13 = .ok (.aload_n 0, 1) := by decide +kernel
theorem dX0_howMany_14 : decode cX0_howMany 14 = .ok (.getfield 33, 3) := by decide +kernel
theorem dX0_howMany_17 : decode cX0_howMany 17 = .ok (.iload_n 3, 1) := by decide +kernel
theorem dX0_howMany_18 : decode cX0_howMany 18 = .ok (.iaload, 1) := by decide +kernel
theorem dX0_howMany_19 : decode cX0_howMany 19 = .ok (.iload_n 1, 1) := by decide +kernel
theorem dX0_howMany_20 : decode cX0_howMany 20 = .ok (.if_icmp .ne 7, 3) := by decide +kernel
theorem dX0_howMany_23 : decode cX0_howMany 23 = .ok (.iconst 1, 1) := by decide +kernel
theorem dX0_howMany_24 : decode cX0_howMany 24 = .ok (.goto 4, 3) := by decide +kernel
theorem dX0_howMany_27 : decode cX0_howMany 27 = .ok (.iconst 0, 1) := by decide +kernel
theorem dX0_howMany_28 : decode cX0_howMany 28 = .ok (.iadd, 1) := by decide +kernel
theorem dX0_howMany_29 : decode cX0_howMany 29 = .ok (.istore_n 2, 1) := by decide +kernel
theorem dX0_howMany_30 : decode cX0_howMany 30 = .ok (.iinc 3 1, 3) := by decide +kernel
theorem dX0_howMany_33 : decode cX0_howMany 33 = .ok (.goto (-29), 3) := by decide +kernel
theorem dX0_howMany_36 : decode cX0_howMany 36 = .ok (.iload_n 2, 1) := by decide +kernel
theorem dX0_howMany_37 : decode cX0_howMany 37 = .ok (.ireturn, 1) := by decide +kernel
theorem dX0_howManyThere_0 : decode cX0_howManyThere 0 = .ok (.iconst 0, 1) := by decide +kernel
theorem dX0_howManyThere_1 : decode cX0_howManyThere 1 = .ok (.istore_n 2, 1) := by decide +kernel
theorem dX0_howManyThere_2 : decode cX0_howManyThere 2 = .ok (.iconst 0, 1) := by decide +kernel
theorem dX0_howManyThere_3 : decode cX0_howManyThere 3 = .ok (.istore_n 3, 1) := by decide +kernel
theorem dX0_howManyThere_4 : decode cX0_howManyThere 4 = .ok (.iload_n 3, 1) := by decide +kernel
theorem dX0_howManyThere_5 : decode cX0_howManyThere 5 = .ok (.aload_n 0, 1) := by decide +kernel
theorem dX0_howManyThere_6 : decode cX0_howManyThere 6 = .ok (.getfield 58, 3) := by decide +kernel
theorem dX0_howManyThere_9 : decode cX0_howManyThere 9 = .ok (.if_icmp .ge 41, 3) := by decide +kernel
theorem dX0_howManyThere_12 : decode cX0_howManyThere 12 = .ok (.iload_n 2, 1) := by decide +kernel
theorem dX0_howManyThere_13 : decode cX0_howManyThere 13 = .ok (.aload_n 0, 1) := by decide +kernel
theorem dX0_howManyThere_14 : decode cX0_howManyThere 14 = .ok (.getfield 30, 3) := by decide +kernel
theorem dX0_howManyThere_17 : decode cX0_howManyThere 17 = .ok (.iload_n 3, 1) := by decide +kernel
theorem dX0_howManyThere_18 : decode cX0_howManyThere 18 = .ok (.iaload, 1) := by decide +kernel
theorem dX0_howManyThere_19 : decode cX0_howManyThere 19 = .ok (.ifCond .le 22, 3) := by decide +kernel
theorem dX0_howManyThere_22 : decode cX0_howManyThere 22 = .ok (.aload_n 0, 1) := by decide +kernel
theorem dX0_howManyThere_23 : decode cX0_howManyThere 23 = .ok (.iload_n 3, 1) := by decide +kernel
theorem dX0_howManyThere_24 : decode cX0_howManyThere 24 = .ok (.aload_n 0, 1) := by decide +kernel
theorem dX0_howManyThere_25 : decode cX0_howManyThere 25 = .ok (.getfield 30, 3) := by decide +kernel
theorem dX0_howManyThere_28 : decode cX0_howManyThere 28 = .ok (.iload_n 3, 1) := by decide +kernel
theorem dX0_howManyThere_29 : decode cX0_howManyThere 29 = .ok (.iaload, 1) := by decide +kernel
theorem dX0_howManyThere_30 : decode cX0_howManyThere 30 = .ok (.invokevirtual 77, 3) := by decide +kernel
theorem dX0_howManyThere_33 : decode cX0_howManyThere 33 = .ok (.iload_n 1, 1) := by decide +kernel
theorem dX0_howManyThere_34 : decode cX0_howManyThere 34 = .ok (.if_icmp .ne 7, 3) := by decide +kernel
theorem dX0_howManyThere_37 : decode cX0_howManyThere 37 = .ok (.iconst 1, 1) := by decide +kernel
theorem dX0_howManyThere_38 : decode cX0_howManyThere 38 = .ok (.goto 4, 3) := by decide +kernel
theorem dX0_howManyThere_41 : decode cX0_howManyThere 41 = .ok (.iconst 0, 1) := by decide +kernel
theorem dX0_howManyThere_42 : decode cX0_howManyThere 42 = .ok (.iadd, 1) := by decide +kernel
theorem dX0_howManyThere_43 : decode cX0_howManyThere 43 = .ok (.istore_n 2, 1) := by decide +kernel
theorem dX0_howManyThere_44 : decode cX0_howManyThere 44 = .ok (.iinc 3 1, 3) := by decide +kernel
theorem dX0_howManyThere_47 : decode cX0_howManyThere 47 = .ok (.goto (-43), 3) := by decide +kernel
theorem dX0_howManyThere_50 : decode cX0_howManyThere 50 = .ok (.iload_n 2, 1) := by decide +kernel
theorem dX0_howManyThere_51 : decode cX0_howManyThere 51 = .ok (.ireturn, 1) := by decide +kernel
theorem dX0_stepsLeft_0 : decode cX0_stepsLeft 0 = .ok (.iconst 0, 1) := by decide +kernel
theorem dX0_stepsLeft_1 : decode cX0_stepsLeft 1 = .ok (.istore_n 1, 1) := by decide +kernel
theorem dX0_stepsLeft_2 : decode cX0_stepsLeft 2 = .ok (.iconst 0, 1) := by decide +kernel
theorem dX0_stepsLeft_3 : decode cX0_stepsLeft 3 = .ok (.istore_n 2, 1) := by decide +kernel
theorem dX0_stepsLeft_4 : decode cX0_stepsLeft 4 = .ok (.iload_n 2, 1) := by decide +kernel
theorem dX0_stepsLeft_5 : decode cX0_stepsLeft 5 = .ok (.aload_n 0, 1) := by decide +kernel
theorem dX0_stepsLeft_6 : decode cX0_stepsLeft 6 = .ok (.getfield 58, 3) := by decide +kernel
theorem dX0_stepsLeft_9 : decode cX0_stepsLeft 9 = .ok (.if_icmp .ge 18, 3) := by decide +kernel
theorem dX0_stepsLeft_12 : decode cX0_stepsLeft 12 = .ok (.iload_n 1, 1) := by decide +kernel
theorem dX0_stepsLeft_13 : decode cX0_stepsLeft 13 = .ok (.aload_n 0, 1) := by decide +kernel
theorem dX0_stepsLeft_14 : decode cX0_stepsLeft 14 = .ok (.getfield 30, 3) := by decide +kernel
theorem dX0_stepsLeft_17 : decode cX0_stepsLeft 17 = .ok (.iload_n 2, 1) := by decide +kernel
theorem dX0_stepsLeft_18 : decode cX0_stepsLeft 18 = .ok (.iaload, 1) := by decide +kernel
theorem dX0_stepsLeft_19 : decode cX0_stepsLeft 19 = .ok (.iadd, 1) := by decide +kernel
theorem dX0_stepsLeft_20 : decode cX0_stepsLeft 20 = .ok (.istore_n 1, 1) := by decide +kernel
theorem dX0_stepsLeft_21 : decode cX0_stepsLeft 21 = .ok (.iinc 2 1, 3) := by decide +kernel
theorem dX0_stepsLeft_24 : decode cX0_stepsLeft 24 = .ok (.goto (-20), 3) := by decide +kernel
theorem dX0_stepsLeft_27 : decode cX0_stepsLeft 27 = .ok (.iload_n 1, 1) := by decide +kernel
theorem dX0_stepsLeft_28 : decode cX0_stepsLeft 28 = .ok (.ireturn, 1) := by decide +kernel
theorem dX0_spot_0 : decode cX0_spot 0 = .ok (.aload_n 0, 1) := by decide +kernel
theorem dX0_spot_1 : decode cX0_spot 1 = .ok (.getfield 24, 3) := by decide +kernel
theorem dX0_spot_4 : decode cX0_spot 4 = .ok (.iload_n 1, 1) := by decide +kernel
theorem dX0_spot_5 : decode cX0_spot 5 = .ok (.iaload, 1) := by decide +kernel
theorem dX0_spot_6 : decode cX0_spot 6 = .ok (.aload_n 0, 1) := by decide +kernel
theorem dX0_spot_7 : decode cX0_spot 7 = .ok (.getfield 21, 3) := by decide +kernel
theorem dX0_spot_10 : decode cX0_spot 10 = .ok (.iload_n 1, 1) := by decide +kernel
theorem dX0_spot_11 : decode cX0_spot 11 = .ok (.iaload, 1) := by decide +kernel
theorem dX0_spot_12 : decode cX0_spot 12 = .ok (.if_icmp .le 14, 3) := by decide +kernel
theorem dX0_spot_15 : decode cX0_spot 15 = .ok (.aload_n 0, 1) := by decide +kernel
theorem dX0_spot_16 : decode cX0_spot 16 = .ok (.getfield 24, 3) := by decide +kernel
theorem dX0_spot_19 : decode cX0_spot 19 = .ok (.iload_n 1, 1) := by decide +kernel
theorem dX0_spot_20 : decode cX0_spot 20 = .ok (.iaload, 1) := by decide +kernel
theorem dX0_spot_21 : decode cX0_spot 21 = .ok (.iload_n 2, 1) := by decide +kernel
theorem dX0_spot_22 : decode cX0_spot 22 = .ok (.isub, 1) := by decide +kernel
theorem dX0_spot_23 : decode cX0_spot 23 = .ok (.goto 11, 3) := by decide +kernel
theorem dX0_spot_26 : decode cX0_spot 26 = .ok (.aload_n 0, 1) := by decide +kernel
theorem dX0_spot_27 : decode cX0_spot 27 = .ok (.getfield 24, 3) := by decide +kernel
theorem dX0_spot_30 : decode cX0_spot 30 = .ok (.iload_n 1, 1) := by decide +kernel
theorem dX0_spot_31 : decode cX0_spot 31 = .ok (.iaload, 1) := by decide +kernel
theorem dX0_spot_32 : decode cX0_spot 32 = .ok (.iload_n 2, 1) := by decide +kernel
theorem dX0_spot_33 : decode cX0_spot 33 = .ok (.iadd, 1) := by decide +kernel
theorem dX0_spot_34 : decode cX0_spot 34 = .ok (.ireturn, 1) := by decide +kernel
theorem dX0_sectionAhead_0 : decode cX0_sectionAhead 0 = .ok (.aload_n 0, 1) := by decide +kernel
theorem dX0_sectionAhead_1 : decode cX0_sectionAhead 1 = .ok (.getfield 24, 3) := by decide +kernel
theorem dX0_sectionAhead_4 : decode cX0_sectionAhead 4 = .ok (.iload_n 1, 1) := by decide +kernel
theorem dX0_sectionAhead_5 : decode cX0_sectionAhead 5 = .ok (.iaload, 1) := by decide +kernel
theorem dX0_sectionAhead_6 : decode cX0_sectionAhead 6 = .ok (.aload_n 0, 1) := by decide +kernel
theorem dX0_sectionAhead_7 : decode cX0_sectionAhead 7 = .ok (.getfield 21, 3) := by decide +kernel
theorem dX0_sectionAhead_10 : decode cX0_sectionAhead 10 = .ok (.iload_n 1, 1) := by decide +kernel
theorem dX0_sectionAhead_11 : decode cX0_sectionAhead 11 = .ok (.iaload, 1) := by decide +kernel
theorem dX0_sectionAhead_12 : decode cX0_sectionAhead 12 = .ok (.if_icmp .le 14, 3) := by decide +kernel
theorem dX0_sectionAhead_15 : decode cX0_sectionAhead 15 = .ok (.aload_n 0, 1) := by decide +kernel
theorem dX0_sectionAhead_16 : decode cX0_sectionAhead 16 = .ok (.getfield 24, 3) := by decide +kernel
theorem dX0_sectionAhead_19 : decode cX0_sectionAhead 19 = .ok (.iload_n 1, 1) := by decide +kernel
theorem dX0_sectionAhead_20 : decode cX0_sectionAhead 20 = .ok (.iaload, 1) := by decide +kernel
theorem dX0_sectionAhead_21 : decode cX0_sectionAhead 21 = .ok (.iload_n 2, 1) := by decide +kernel
theorem dX0_sectionAhead_22 : decode cX0_sectionAhead 22 = .ok (.isub, 1) := by decide +kernel
theorem dX0_sectionAhead_23 : decode cX0_sectionAhead 23 = .ok (.goto 13, 3) := by decide +kernel
theorem dX0_sectionAhead_26 : decode cX0_sectionAhead 26 = .ok (.aload_n 0, 1) := by decide +kernel
theorem dX0_sectionAhead_27 : decode cX0_sectionAhead 27 = .ok (.getfield 24, 3) := by decide +kernel
theorem dX0_sectionAhead_30 : decode cX0_sectionAhead 30 = .ok (.iload_n 1, 1) := by decide +kernel
theorem dX0_sectionAhead_31 : decode cX0_sectionAhead 31 = .ok (.iaload, 1) := by decide +kernel
theorem dX0_sectionAhead_32 : decode cX0_sectionAhead 32 = .ok (.iload_n 2, 1) := by decide +kernel
theorem dX0_sectionAhead_33 : decode cX0_sectionAhead 33 = .ok (.iadd, 1) := by decide +kernel
theorem dX0_sectionAhead_34 : decode cX0_sectionAhead 34 = .ok (.iconst 1, 1) := by decide +kernel
theorem dX0_sectionAhead_35 : decode cX0_sectionAhead 35 = .ok (.isub, 1) := by decide +kernel
theorem dX0_sectionAhead_36 : decode cX0_sectionAhead 36 = .ok (.ireturn, 1) := by decide +kernel
theorem dX0_minutesLeft_0 : decode cX0_minutesLeft 0 = .ok (.iconst 0, 1) := by decide +kernel
theorem dX0_minutesLeft_1 : decode cX0_minutesLeft 1 = .ok (.istore_n 2, 1) := by decide +kernel
theorem dX0_minutesLeft_2 : decode cX0_minutesLeft 2 = .ok (.aload_n 0, 1) := by decide +kernel
theorem dX0_minutesLeft_3 : decode cX0_minutesLeft 3 = .ok (.getfield 30, 3) := by decide +kernel
theorem dX0_minutesLeft_6 : decode cX0_minutesLeft 6 = .ok (.iload_n 1, 1) := by decide +kernel
theorem dX0_minutesLeft_7 : decode cX0_minutesLeft 7 = .ok (.iaload, 1) := by decide +kernel
theorem dX0_minutesLeft_8 : decode cX0_minutesLeft 8 = .ok (.istore_n 3, 1) := by decide +kernel
theorem dX0_minutesLeft_9 : decode cX0_minutesLeft 9 = .ok (.iload_n 3, 1) := by decide +kernel
theorem dX0_minutesLeft_10 : decode cX0_minutesLeft 10 = .ok (.ifCond .le 23, 3) := by decide +kernel
theorem dX0_minutesLeft_13 : decode cX0_minutesLeft 13 = .ok (.iload_n 2, 1) := by decide +kernel
theorem dX0_minutesLeft_14 : decode cX0_minutesLeft 14 = .ok (.aload_n 0, 1) := by decide +kernel
theorem dX0_minutesLeft_15 : decode cX0_minutesLeft 15 = .ok (.getfield 18, 3) := by decide +kernel
theorem dX0_minutesLeft_18 : decode cX0_minutesLeft 18 = .ok (.aload_n 0, 1) := by decide +kernel
theorem dX0_minutesLeft_19 : decode cX0_minutesLeft 19 = .ok (.iload_n 1, 1) := by decide +kernel
theorem dX0_minutesLeft_20 : decode cX0_minutesLeft 20 = .ok (.iload_n 3, 1) := by decide +kernel
theorem dX0_minutesLeft_21 : decode cX0_minutesLeft 21 = .ok (.invokevirtual 81, 3) := by decide +kernel
theorem dX0_minutesLeft_24 : decode cX0_minutesLeft 24 = .ok (.iaload, 1) := by decide +kernel
theorem dX0_minutesLeft_25 : decode cX0_minutesLeft 25 = .ok (.iadd, 1) := by decide +kernel
theorem dX0_minutesLeft_26 : decode cX0_minutesLeft 26 = .ok (.istore_n 2, 1) := by decide +kernel
theorem dX0_minutesLeft_27 : decode cX0_minutesLeft 27 = .ok (.iinc 3 (-1), 3) := by decide +kernel
theorem dX0_minutesLeft_30 : decode cX0_minutesLeft 30 = .ok (.goto (-21), 3) := by decide +kernel
theorem dX0_minutesLeft_33 : decode cX0_minutesLeft 33 = .ok (.iload_n 2, 1) := by decide +kernel
theorem dX0_minutesLeft_34 : decode cX0_minutesLeft 34 = .ok (.ireturn, 1) := by decide +kernel
theorem dX0_runnerIn_0 : decode cX0_runnerIn 0 = .ok (.iconst 0, 1) := by decide +kernel
theorem dX0_runnerIn_1 : decode cX0_runnerIn 1 = .ok (.istore_n 2, 1) := by decide +kernel
theorem dX0_runnerIn_2 : decode cX0_runnerIn 2 = .ok (.iload_n 2, 1) := by decide +kernel
theorem dX0_runnerIn_3 : decode cX0_runnerIn 3 = .ok (.aload_n 0, 1) := by decide +kernel
theorem dX0_runnerIn_4 : decode cX0_runnerIn 4 = .ok (.getfield 58, 3) := by decide +kernel
theorem dX0_runnerIn_7 : decode cX0_runnerIn 7 = .ok (.if_icmp .ge 38, 3) := by decide +kernel
theorem dX0_runnerIn_10 : decode cX0_runnerIn 10 = .ok (.aload_n 0, 1) := by decide +kernel
theorem dX0_runnerIn_11 : decode cX0_runnerIn 11 = .ok (.getfield 33, 3) := by decide +kernel
theorem dX0_runnerIn_14 : decode cX0_runnerIn 14 = .ok (.iload_n 2, 1) := by decide +kernel
theorem dX0_runnerIn_15 : decode cX0_runnerIn 15 = .ok (.iaload, 1) := by decide +kernel
theorem dX0_runnerIn_16 : decode cX0_runnerIn 16 = .ok (.iconst 1, 1) := by decide +kernel
theorem dX0_runnerIn_17 : decode cX0_runnerIn 17 = .ok (.if_icmp .ne 22, 3) := by decide +kernel
theorem dX0_runnerIn_20 : decode cX0_runnerIn 20 = .ok (.aload_n 0, 1) := by decide +kernel
theorem dX0_runnerIn_21 : decode cX0_runnerIn 21 = .ok (.iload_n 2, 1) := by decide +kernel
theorem dX0_runnerIn_22 : decode cX0_runnerIn 22 = .ok (.aload_n 0, 1) := by decide +kernel
theorem dX0_runnerIn_23 : decode cX0_runnerIn 23 = .ok (.getfield 30, 3) := by decide +kernel
theorem dX0_runnerIn_26 : decode cX0_runnerIn 26 = .ok (.iload_n 2, 1) := by decide +kernel
theorem dX0_runnerIn_27 : decode cX0_runnerIn 27 = .ok (.iaload, 1) := by decide +kernel
theorem dX0_runnerIn_28 : decode cX0_runnerIn 28 = .ok (.iconst 1, 1) := by decide +kernel
theorem dX0_runnerIn_29 : decode cX0_runnerIn 29 = .ok (.iadd, 1) := by decide +kernel
theorem dX0_runnerIn_30 : decode cX0_runnerIn 30 = .ok (.invokevirtual 81, 3) := by decide +kernel
theorem dX0_runnerIn_33 : decode cX0_runnerIn 33 = .ok (.iload_n 1, 1) := by decide +kernel
theorem dX0_runnerIn_34 : decode cX0_runnerIn 34 = .ok (.if_icmp .ne 5, 3) := by decide +kernel
theorem dX0_runnerIn_37 : decode cX0_runnerIn 37 = .ok (.iload_n 2, 1) := by decide +kernel
theorem dX0_runnerIn_38 : decode cX0_runnerIn 38 = .ok (.ireturn, 1) := by decide +kernel
theorem dX0_runnerIn_39 : decode cX0_runnerIn 39 = .ok (.iinc 2 1, 3) := by decide +kernel
theorem dX0_runnerIn_42 : decode cX0_runnerIn 42 = .ok (.goto (-40), 3) := by decide +kernel
theorem dX0_runnerIn_45 : decode cX0_runnerIn 45 = .ok (.bipush (-4), 2) := by decide +kernel
theorem dX0_runnerIn_47 : decode cX0_runnerIn 47 = .ok (.ireturn, 1) := by decide +kernel
theorem dX0_depart_0 : decode cX0_depart 0 = .ok (.aload_n 0, 1) := by decide +kernel
theorem dX0_depart_1 : decode cX0_depart 1 = .ok (.getfield 30, 3) := by decide +kernel
theorem dX0_depart_4 : decode cX0_depart 4 = .ok (.iload_n 1, 1) := by decide +kernel
theorem dX0_depart_5 : decode cX0_depart 5 = .ok (.iaload, 1) := by decide +kernel
theorem dX0_depart_6 : decode cX0_depart 6 = .ok (.iconst 1, 1) := by decide +kernel
theorem dX0_depart_7 : decode cX0_depart 7 = .ok (.if_icmp .ge 4, 3) := by decide +kernel
theorem dX0_depart_10 : decode cX0_depart 10 = .ok (.return_, 1) := by decide +kernel
theorem dX0_depart_11 : decode cX0_depart 11 = .ok (.aload_n 0, 1) := by decide +kernel
theorem dX0_depart_12 : decode cX0_depart 12 = .ok (.iload_n 1, 1) := by decide +kernel
theorem dX0_depart_13 : decode cX0_depart 13 = .ok (.aload_n 0, 1) := by decide +kernel
theorem dX0_depart_14 : decode cX0_depart 14 = .ok (.iload_n 1, 1) := by decide +kernel
theorem dX0_depart_15 : decode cX0_depart 15 = .ok (.aload_n 0, 1) := by decide +kernel
theorem dX0_depart_16 : decode cX0_depart 16 = .ok (.getfield 30, 3) := by decide +kernel
theorem dX0_depart_19 : decode cX0_depart 19 = .ok (.iload_n 1, 1) := by decide +kernel
theorem dX0_depart_20 : decode cX0_depart 20 = .ok (.iaload, 1) := by decide +kernel
theorem dX0_depart_21 : decode cX0_depart 21 = .ok (.invokevirtual 77, 3) := by decide +kernel
theorem dX0_depart_24 : decode cX0_depart 24 = .ok (.invokevirtual 84, 3) := by decide +kernel
theorem dX0_depart_27 : decode cX0_depart 27 = .ok (.aload_n 0, 1) := by decide +kernel
theorem dX0_depart_28 : decode cX0_depart 28 = .ok (.getfield 36, 3) := by decide +kernel
theorem dX0_depart_31 : decode cX0_depart 31 = .ok (.iload_n 1, 1) := by decide +kernel
theorem dX0_depart_32 : decode cX0_depart 32 = .ok (.aload_n 0, 1) := by decide +kernel
theorem dX0_depart_33 : decode cX0_depart 33 = .ok (.getfield 61, 3) := by decide +kernel
theorem dX0_depart_36 : decode cX0_depart 36 = .ok (.aload_n 0, 1) := by decide +kernel
theorem dX0_depart_37 : decode cX0_depart 37 = .ok (.getfield 18, 3) := by decide +kernel
theorem dX0_depart_40 : decode cX0_depart 40 = .ok (.aload_n 0, 1) := by decide +kernel
theorem dX0_depart_41 : decode cX0_depart 41 = .ok (.iload_n 1, 1) := by decide +kernel
theorem dX0_depart_42 : decode cX0_depart 42 = .ok (.aload_n 0, 1) := by decide +kernel
theorem dX0_depart_43 : decode cX0_depart 43 = .ok (.getfield 30, 3) := by decide +kernel
theorem dX0_depart_46 : decode cX0_depart 46 = .ok (.iload_n 1, 1) := by decide +kernel
theorem dX0_depart_47 : decode cX0_depart 47 = .ok (.iaload, 1) := by decide +kernel
theorem dX0_depart_48 : decode cX0_depart 48 = .ok (.invokevirtual 81, 3) := by decide +kernel
theorem dX0_depart_51 : decode cX0_depart 51 = .ok (.iaload, 1) := by decide +kernel
theorem dX0_depart_52 : decode cX0_depart 52 = .ok (.iadd, 1) := by decide +kernel
theorem dX0_depart_53 : decode cX0_depart 53 = .ok (.iastore, 1) := by decide +kernel
theorem dX0_depart_54 : decode cX0_depart 54 = .ok (.aload_n 0, 1) := by decide +kernel
theorem dX0_depart_55 : decode cX0_depart 55 = .ok (.getfield 30, 3) := by decide +kernel
theorem dX0_depart_58 : decode cX0_depart 58 = .ok (.iload_n 1, 1) := by decide +kernel
theorem dX0_depart_59 : decode cX0_depart 59 = .ok (.dup2, 1) := by decide +kernel
theorem dX0_depart_60 : decode cX0_depart 60 = .ok (.iaload, 1) := by decide +kernel
theorem dX0_depart_61 : decode cX0_depart 61 = .ok (.iconst 1, 1) := by decide +kernel
theorem dX0_depart_62 : decode cX0_depart 62 = .ok (.isub, 1) := by decide +kernel
theorem dX0_depart_63 : decode cX0_depart 63 = .ok (.iastore, 1) := by decide +kernel
theorem dX0_depart_64 : decode cX0_depart 64 = .ok (.aload_n 0, 1) := by decide +kernel
theorem dX0_depart_65 : decode cX0_depart 65 = .ok (.getfield 33, 3) := by decide +kernel
theorem dX0_depart_68 : decode cX0_depart 68 = .ok (.iload_n 1, 1) := by decide +kernel
theorem dX0_depart_69 : decode cX0_depart 69 = .ok (.iconst 1, 1) := by decide +kernel
theorem dX0_depart_70 : decode cX0_depart 70 = .ok (.iastore, 1) := by decide +kernel
theorem dX0_depart_71 : decode cX0_depart 71 = .ok (.return_, 1) := by decide +kernel
theorem dX0_enterJournal_0 : decode cX0_enterJournal 0 = .ok (.aload_n 0, 1) := by decide +kernel
theorem dX0_enterJournal_1 : decode cX0_enterJournal 1 = .ok (.getfield 64, 3) := by decide +kernel
theorem dX0_enterJournal_4 : decode cX0_enterJournal 4 = .ok (.bipush 60, 2) := by decide +kernel
theorem dX0_enterJournal_6 : decode cX0_enterJournal 6 = .ok (.if_icmp .lt 7, 3) := by decide +kernel
theorem dX0_enterJournal_9 : decode cX0_enterJournal 9 = .ok (.aload_n 0, 1) := by decide +kernel
theorem dX0_enterJournal_10 : decode cX0_enterJournal 10 = .ok (.invokevirtual 88, 3) := by decide +kernel
theorem dX0_enterJournal_13 : decode cX0_enterJournal 13 = .ok (.aload_n 0, 1) := by decide +kernel
theorem dX0_enterJournal_14 : decode cX0_enterJournal 14 = .ok (.getfield 64, 3) := by decide +kernel
theorem dX0_enterJournal_17 : decode cX0_enterJournal 17 = .ok (.istore_n 3, 1) := by decide +kernel
theorem dX0_enterJournal_18 : decode cX0_enterJournal 18 = .ok (.iload_n 3, 1) := by decide +kernel
theorem dX0_enterJournal_19 : decode cX0_enterJournal 19 = .ok (.ifCond .le 78, 3) := by decide +kernel
theorem dX0_enterJournal_22 : decode cX0_enterJournal 22 = .ok (.aload_n 0, 1) := by decide +kernel
theorem dX0_enterJournal_23 : decode cX0_enterJournal 23 = .ok (.getfield 39, 3) := by decide +kernel
theorem dX0_enterJournal_26 : decode cX0_enterJournal 26 = .ok (.iload_n 3, 1) := by decide +kernel
theorem dX0_enterJournal_27 : decode cX0_enterJournal 27 = .ok (.iconst 1, 1) := by decide +kernel
theorem dX0_enterJournal_28 : decode cX0_enterJournal 28 = .ok (.isub, 1) := by decide +kernel
theorem dX0_enterJournal_29 : decode cX0_enterJournal 29 = .ok (.iaload, 1) := by decide +kernel
theorem dX0_enterJournal_30 : decode cX0_enterJournal 30 = .ok (.aload_n 0, 1) := by decide +kernel
theorem dX0_enterJournal_31 : decode cX0_enterJournal 31 = .ok (.getfield 61, 3) := by decide +kernel
theorem dX0_enterJournal_34 : decode cX0_enterJournal 34 = .ok (.if_icmp .ne 63, 3) := by decide +kernel
theorem dX0_enterJournal_37 : decode cX0_enterJournal 37 = .ok (.aload_n 0, 1) := by decide +kernel
theorem dX0_enterJournal_38 : decode cX0_enterJournal 38 = .ok (.getfield 42, 3) := by decide +kernel
theorem dX0_enterJournal_41 : decode cX0_enterJournal 41 = .ok (.iload_n 3, 1) := by decide +kernel
theorem dX0_enterJournal_42 : decode cX0_enterJournal 42 = .ok (.iconst 1, 1) := by decide +kernel
theorem dX0_enterJournal_43 : decode cX0_enterJournal 43 = .ok (.isub, 1) := by decide +kernel
theorem dX0_enterJournal_44 : decode cX0_enterJournal 44 = .ok (.iaload, 1) := by decide +kernel
theorem dX0_enterJournal_45 : decode cX0_enterJournal 45 = .ok (.iload_n 1, 1) := by decide +kernel
theorem dX0_enterJournal_46 : decode cX0_enterJournal 46 = .ok (.if_icmp .le 51, 3) := by decide +kernel
theorem dX0_enterJournal_49 : decode cX0_enterJournal 49 = .ok (.aload_n 0, 1) := by decide +kernel
theorem dX0_enterJournal_50 : decode cX0_enterJournal 50 = .ok (.getfield 39, 3) := by decide +kernel
theorem dX0_enterJournal_53 : decode cX0_enterJournal 53 = .ok (.iload_n 3, 1) := by decide +kernel
theorem dX0_enterJournal_54 : decode cX0_enterJournal 54 = .ok (.aload_n 0, 1) := by decide +kernel
theorem dX0_enterJournal_55 : decode cX0_enterJournal 55 = .ok (.getfield 39, 3) := by decide +kernel
theorem dX0_enterJournal_58 : decode cX0_enterJournal 58 = .ok (.iload_n 3, 1) := by decide +kernel
theorem dX0_enterJournal_59 : decode cX0_enterJournal 59 = .ok (.iconst 1, 1) := by decide +kernel
theorem dX0_enterJournal_60 : decode cX0_enterJournal 60 = .ok (.isub, 1) := by decide +kernel
theorem dX0_enterJournal_61 : decode cX0_enterJournal 61 = .ok (.iaload, 1) := by decide +kernel
theorem dX0_enterJournal_62 : decode cX0_enterJournal 62 = .ok (.iastore, 1) := by decide +kernel
theorem dX0_enterJournal_63 : decode cX0_enterJournal 63 = .ok (.aload_n 0, 1) := by decide +kernel
theorem dX0_enterJournal_64 : decode cX0_enterJournal 64 = .ok (.getfield 42, 3) := by decide +kernel
theorem dX0_enterJournal_67 : decode cX0_enterJournal 67 = .ok (.iload_n 3, 1) := by decide +kernel
theorem dX0_enterJournal_68 : decode cX0_enterJournal 68 = .ok (.aload_n 0, 1) := by decide +kernel
theorem dX0_enterJournal_69 : decode cX0_enterJournal 69 = .ok (.getfield 42, 3) := by decide +kernel
theorem dX0_enterJournal_72 : decode cX0_enterJournal 72 = .ok (.iload_n 3, 1) := by decide +kernel
theorem dX0_enterJournal_73 : decode cX0_enterJournal 73 = .ok (.iconst 1, 1) := by decide +kernel
theorem dX0_enterJournal_74 : decode cX0_enterJournal 74 = .ok (.isub, 1) := by decide +kernel
theorem dX0_enterJournal_75 : decode cX0_enterJournal 75 = .ok (.iaload, 1) := by decide +kernel
theorem dX0_enterJournal_76 : decode cX0_enterJournal 76 = .ok (.iastore, 1) := by decide +kernel
theorem dX0_enterJournal_77 : decode cX0_enterJournal 77 = .ok (.aload_n 0, 1) := by decide +kernel
theorem dX0_enterJournal_78 : decode cX0_enterJournal 78 = .ok (.getfield 45, 3) := by decide +kernel
theorem dX0_enterJournal_81 : decode cX0_enterJournal 81 = .ok (.iload_n 3, 1) := by decide +kernel
theorem dX0_enterJournal_82 : decode cX0_enterJournal 82 = .ok (.aload_n 0, 1) := by decide +kernel
theorem dX0_enterJournal_83 : decode cX0_enterJournal 83 = .ok (.getfield 45, 3) := by decide +kernel
theorem dX0_enterJournal_86 : decode cX0_enterJournal 86 = .ok (.iload_n 3, 1) := by decide +kernel
theorem dX0_enterJournal_87 : decode cX0_enterJournal 87 = .ok (.iconst 1, 1) := by decide +kernel
theorem dX0_enterJournal_88 : decode cX0_enterJournal 88 = .ok (.isub, 1) := by decide +kernel
theorem dX0_enterJournal_89 : decode cX0_enterJournal 89 = .ok (.iaload, 1) := by decide +kernel
theorem dX0_enterJournal_90 : decode cX0_enterJournal 90 = .ok (.iastore, 1) := by decide +kernel
theorem dX0_enterJournal_91 : decode cX0_enterJournal 91 = .ok (.iinc 3 (-1), 3) := by decide +kernel
theorem dX0_enterJournal_94 : decode cX0_enterJournal 94 = .ok (.goto (-76), 3) := by decide +kernel
theorem dX0_enterJournal_97 : decode cX0_enterJournal 97 = .ok (.aload_n 0, 1) := by decide +kernel
theorem dX0_enterJournal_98 : decode cX0_enterJournal 98 = .ok (.getfield 39, 3) := by decide +kernel
theorem dX0_enterJournal_101 : decode cX0_enterJournal 101 = .ok (.iload_n 3, 1) := by decide +kernel
theorem dX0_enterJournal_102 : decode cX0_enterJournal 102 = .ok (.aload_n 0, 1) := by decide +kernel
theorem dX0_enterJournal_103 : decode cX0_enterJournal 103 = .ok (.getfield 61, 3) := by decide +kernel
theorem dX0_enterJournal_106 : decode cX0_enterJournal 106 = .ok (.iastore, 1) := by decide +kernel
theorem dX0_enterJournal_107 : decode cX0_enterJournal 107 = .ok (.aload_n 0, 1) := by decide +kernel
theorem dX0_enterJournal_108 : decode cX0_enterJournal 108 = .ok (.getfield 42, 3) := by decide +kernel
theorem dX0_enterJournal_111 : decode cX0_enterJournal 111 = .ok (.iload_n 3, 1) := by decide +kernel
theorem dX0_enterJournal_112 : decode cX0_enterJournal 112 = .ok (.iload_n 1, 1) := by decide +kernel
theorem dX0_enterJournal_113 : decode cX0_enterJournal 113 = .ok (.iastore, 1) := by decide +kernel
theorem dX0_enterJournal_114 : decode cX0_enterJournal 114 = .ok (.aload_n 0, 1) := by decide +kernel
theorem dX0_enterJournal_115 : decode cX0_enterJournal 115 = .ok (.getfield 45, 3) := by decide +kernel
theorem dX0_enterJournal_118 : decode cX0_enterJournal 118 = .ok (.iload_n 3, 1) := by decide +kernel
theorem dX0_enterJournal_119 : decode cX0_enterJournal 119 = .ok (.iload_n 2, 1) := by decide +kernel
theorem dX0_enterJournal_120 : decode cX0_enterJournal 120 = .ok (.iastore, 1) := by decide +kernel
theorem dX0_enterJournal_121 : decode cX0_enterJournal 121 = .ok (.aload_n 0, 1) := by decide +kernel
theorem dX0_enterJournal_122 : decode cX0_enterJournal 122 = .ok (.dup, 1) := by decide +kernel
theorem dX0_enterJournal_123 : decode cX0_enterJournal 123 = .ok (.getfield 64, 3) := by decide +kernel
theorem dX0_enterJournal_126 : decode cX0_enterJournal 126 = .ok (.iconst 1, 1) := by decide +kernel
theorem dX0_enterJournal_127 : decode cX0_enterJournal 127 = .ok (.iadd, 1) := by decide +kernel
theorem dX0_enterJournal_128 : decode cX0_enterJournal 128 = .ok (.putfield 64, 3) := by decide +kernel
theorem dX0_enterJournal_131 : decode cX0_enterJournal 131 = .ok (.return_, 1) := by decide +kernel
theorem dX0_forgetFirstEntry_0 : decode cX0_forgetFirstEntry 0 = .ok (.aload_n 0, 1) := by decide +kernel
theorem dX0_forgetFirstEntry_1 : decode cX0_forgetFirstEntry 1 = .ok (.dup, 1) := by decide +kernel
theorem dX0_forgetFirstEntry_2 : decode cX0_forgetFirstEntry 2 = .ok (.getfield 64, 3) := by decide +kernel
theorem dX0_forgetFirstEntry_5 : decode cX0_forgetFirstEntry 5 = .ok (.iconst 1, 1) := by decide +kernel
theorem dX0_forgetFirstEntry_6 : decode cX0_forgetFirstEntry 6 = .ok (.isub, 1) := by decide +kernel
theorem dX0_forgetFirstEntry_7 : decode cX0_forgetFirstEntry 7 = .ok (.putfield 64, 3) := by decide +kernel
theorem dX0_forgetFirstEntry_10 : decode cX0_forgetFirstEntry 10 = .ok (.aload_n 0, 1) := by decide +kernel
theorem dX0_forgetFirstEntry_11 : decode cX0_forgetFirstEntry 11 = .ok (.getfield 39, 3) := by decide +kernel
theorem dX0_forgetFirstEntry_14 : decode cX0_forgetFirstEntry 14 = .ok (.iconst 1, 1) := by decide +kernel
theorem dX0_forgetFirstEntry_15 : decode cX0_forgetFirstEntry 15 = .ok (.aload_n 0, 1) := by decide +kernel
theorem dX0_forgetFirstEntry_16 : decode cX0_forgetFirstEntry 16 = .ok (.getfield 39, 3) := by decide +kernel
theorem dX0_forgetFirstEntry_19 : decode cX0_forgetFirstEntry 19 = .ok (.iconst 0, 1) := by decide +kernel
theorem dX0_forgetFirstEntry_20 : decode cX0_forgetFirstEntry 20 = .ok (.aload_n 0, 1) := by decide +kernel
theorem dX0_forgetFirstEntry_21 : decode cX0_forgetFirstEntry 21 = .ok (.getfield 64, 3) := by decide +kernel
theorem dX0_forgetFirstEntry_24 : decode cX0_forgetFirstEntry 24 = .ok (.invokestatic 52, 3) := by decide +kernel
theorem dX0_forgetFirstEntry_27 : decode cX0_forgetFirstEntry 27 = .ok (.aload_n 0, 1) := by decide +kernel
theorem dX0_forgetFirstEntry_28 : decode cX0_forgetFirstEntry 28 = .ok (.getfield 42, 3) := by decide +kernel
theorem dX0_forgetFirstEntry_31 : decode cX0_forgetFirstEntry 31 = .ok (.iconst 1, 1) := by decide +kernel
theorem dX0_forgetFirstEntry_32 : decode cX0_forgetFirstEntry 32 = .ok (.aload_n 0, 1) := by decide +kernel
theorem dX0_forgetFirstEntry_33 : decode cX0_forgetFirstEntry 33 = .ok (.getfield 42, 3) := by decide +kernel
theorem dX0_forgetFirstEntry_36 : decode cX0_forgetFirstEntry 36 = .ok (.iconst 0, 1) := by decide +kernel
theorem dX0_forgetFirstEntry_37 : decode cX0_forgetFirstEntry 37 = .ok (.aload_n 0, 1) := by decide +kernel
theorem dX0_forgetFirstEntry_38 : decode cX0_forgetFirstEntry 38 = .ok (.getfield 64, 3) := by decide +kernel
theorem dX0_forgetFirstEntry_41 : decode cX0_forgetFirstEntry 41 = .ok (.invokestatic 52, 3) := by decide +kernel
theorem dX0_forgetFirstEntry_44 : decode cX0_forgetFirstEntry 44 = .ok (.aload_n 0, 1) := by decide +kernel
theorem dX0_forgetFirstEntry_45 : decode cX0_forgetFirstEntry 45 = .ok (.getfield 45, 3) := by decide +kernel
theorem dX0_forgetFirstEntry_48 : decode cX0_forgetFirstEntry 48 = .ok (.iconst 1, 1) := by decide +kernel
theorem dX0_forgetFirstEntry_49 : decode cX0_forgetFirstEntry 49 = .ok (.aload_n 0, 1) := by decide +kernel
theorem dX0_forgetFirstEntry_50 : decode cX0_forgetFirstEntry 50 = .ok (.getfield 45, 3) := by decide +kernel
theorem dX0_forgetFirstEntry_53 : decode cX0_forgetFirstEntry 53 = .ok (.iconst 0, 1) := by decide +kernel
theorem dX0_forgetFirstEntry_54 : decode cX0_forgetFirstEntry 54 = .ok (.aload_n 0, 1) := by decide +kernel
theorem dX0_forgetFirstEntry_55 : decode cX0_forgetFirstEntry 55 = .ok (.getfield 64, 3) := by decide +kernel
theorem dX0_forgetFirstEntry_58 : decode cX0_forgetFirstEntry 58 = .ok (.invokestatic 52, 3) := by decide +kernel
theorem dX0_forgetFirstEntry_61 : decode cX0_forgetFirstEntry 61 = .ok (.return_, 1) := by decide +kernel
theorem dX0_passTime_0 : decode cX0_passTime 0 = .ok (.aload_n 0, 1) := by decide +kernel
theorem dX0_passTime_1 : decode cX0_passTime 1 = .ok (.dup, 1) := by decide +kernel
theorem dX0_passTime_2 : decode cX0_passTime 2 = .ok (.getfield 61, 3) := by decide +kernel
theorem dX0_passTime_5 : decode cX0_passTime 5 = .ok (.iload_n 1, 1) := by decide +kernel
theorem dX0_passTime_6 : decode cX0_passTime 6 = .ok (.iadd, 1) := by decide +kernel
theorem dX0_passTime_7 : decode cX0_passTime 7 = .ok (.putfield 61, 3) := by decide +kernel
theorem dX0_passTime_10 : decode cX0_passTime 10 = .ok (.iconst 0, 1) := by decide +kernel
theorem dX0_passTime_11 : decode cX0_passTime 11 = .ok (.istore_n 2, 1) := by decide +kernel
theorem dX0_passTime_12 : decode cX0_passTime 12 = .ok (.iconst 0, 1) := by decide +kernel
theorem dX0_passTime_13 : decode cX0_passTime 13 = .ok (.istore_n 3, 1) := by decide +kernel
theorem dX0_passTime_14 : decode cX0_passTime 14 = .ok (.iload_n 3, 1) := by decide +kernel
theorem dX0_passTime_15 : decode cX0_passTime 15 = .ok (.aload_n 0, 1) := by decide +kernel
theorem dX0_passTime_16 : decode cX0_passTime 16 = .ok (.getfield 58, 3) := by decide +kernel
theorem dX0_passTime_19 : decode cX0_passTime 19 = .ok (.if_icmp .ge 55, 3) := by decide +kernel
theorem dX0_passTime_22 : decode cX0_passTime 22 = .ok (.aload_n 0, 1) := by decide +kernel
theorem dX0_passTime_23 : decode cX0_passTime 23 = .ok (.getfield 33, 3) := by decide +kernel
theorem dX0_passTime_26 : decode cX0_passTime 26 = .ok (.iload_n 3, 1) := by decide +kernel
theorem dX0_passTime_27 : decode cX0_passTime 27 = .ok (.iaload, 1) := by decide +kernel
theorem dX0_passTime_28 : decode cX0_passTime 28 = .ok (.iconst 1, 1) := by decide +kernel
theorem dX0_passTime_29 : decode cX0_passTime 29 = .ok (.if_icmp .ne 39, 3) := by decide +kernel
theorem dX0_passTime_32 : decode cX0_passTime 32 = .ok (.aload_n 0, 1) := by decide +kernel
theorem dX0_passTime_33 : decode cX0_passTime 33 = .ok (.getfield 36, 3) := by decide +kernel
theorem dX0_passTime_36 : decode cX0_passTime 36 = .ok (.iload_n 3, 1) := by decide +kernel
theorem dX0_passTime_37 : decode cX0_passTime 37 = .ok (.iaload, 1) := by decide +kernel
theorem dX0_passTime_38 : decode cX0_passTime 38 = .ok (.aload_n 0, 1) := by decide +kernel
theorem dX0_passTime_39 : decode cX0_passTime 39 = .ok (.getfield 61, 3) := by decide +kernel
theorem dX0_passTime_42 : decode cX0_passTime 42 = .ok (.if_icmp .gt 26, 3) := by decide +kernel
theorem dX0_passTime_45 : decode cX0_passTime 45 = .ok (.aload_n 0, 1) := by decide +kernel
theorem dX0_passTime_46 : decode cX0_passTime 46 = .ok (.getfield 33, 3) := by decide +kernel
theorem dX0_passTime_49 : decode cX0_passTime 49 = .ok (.iload_n 3, 1) := by decide +kernel
theorem dX0_passTime_50 : decode cX0_passTime 50 = .ok (.aload_n 0, 1) := by decide +kernel
theorem dX0_passTime_51 : decode cX0_passTime 51 = .ok (.getfield 30, 3) := by decide +kernel
theorem dX0_passTime_54 : decode cX0_passTime 54 = .ok (.iload_n 3, 1) := by decide +kernel
theorem dX0_passTime_55 : decode cX0_passTime 55 = .ok (.iaload, 1) := by decide +kernel
theorem dX0_passTime_56 : decode cX0_passTime 56 = .ok (.ifCond .ne 7, 3) := by decide +kernel
theorem dX0_passTime_59 : decode cX0_passTime 59 = .ok (.iconst 2, 1) := by decide +kernel
theorem dX0_passTime_60 : decode cX0_passTime 60 = .ok (.goto 4, 3) := by decide +kernel
theorem dX0_passTime_63 : decode cX0_passTime 63 = .ok (.iconst 0, 1) := by decide +kernel
theorem dX0_passTime_64 : decode cX0_passTime 64 = .ok (.iastore, 1) := by decide +kernel
theorem dX0_passTime_65 : decode cX0_passTime 65 = .ok (.iinc 2 1, 3) := by decide +kernel
theorem dX0_passTime_68 : decode cX0_passTime 68 = .ok (.iinc 3 1, 3) := by decide +kernel
theorem dX0_passTime_71 : decode cX0_passTime 71 = .ok (.goto (-57), 3) := by decide +kernel
theorem dX0_passTime_74 : decode cX0_passTime 74 = .ok (.iload_n 2, 1) := by decide +kernel
theorem dX0_passTime_75 : decode cX0_passTime 75 = .ok (.ireturn, 1) := by decide +kernel
theorem dX0_latestEnd_0 : decode cX0_latestEnd 0 = .ok (.iconst 0, 1) := by decide +kernel
theorem dX0_latestEnd_1 : decode cX0_latestEnd 1 = .ok (.istore_n 1, 1) := by decide +kernel
theorem dX0_latestEnd_2 : decode cX0_latestEnd 2 = .ok (.iconst 0, 1) := by decide +kernel
theorem dX0_latestEnd_3 : decode cX0_latestEnd 3 = .ok (.istore_n 2, 1) := by decide +kernel
theorem dX0_latestEnd_4 : decode cX0_latestEnd 4 = .ok (.iload_n 2, 1) := by decide +kernel
theorem dX0_latestEnd_5 : decode cX0_latestEnd 5 = .ok (.aload_n 0, 1) := by decide +kernel
theorem dX0_latestEnd_6 : decode cX0_latestEnd 6 = .ok (.getfield 58, 3) := by decide +kernel
theorem dX0_latestEnd_9 : decode cX0_latestEnd 9 = .ok (.if_icmp .ge 20, 3) := by decide +kernel
theorem dX0_latestEnd_12 : decode cX0_latestEnd 12 = .ok (.iload_n 1, 1) := by decide +kernel
theorem dX0_latestEnd_13 : decode cX0_latestEnd 13 = .ok (.aload_n 0, 1) := by decide +kernel
theorem dX0_latestEnd_14 : decode cX0_latestEnd 14 = .ok (.getfield 36, 3) := by decide +kernel
theorem dX0_latestEnd_17 : decode cX0_latestEnd 17 = .ok (.iload_n 2, 1) := by decide +kernel
theorem dX0_latestEnd_18 : decode cX0_latestEnd 18 = .ok (.iaload, 1) := by decide +kernel
theorem dX0_latestEnd_19 : decode cX0_latestEnd 19 = .ok (.invokestatic 91, 3) := by decide +kernel
theorem dX0_latestEnd_22 : decode cX0_latestEnd 22 = .ok (.istore_n 1, 1) := by decide +kernel
theorem dX0_latestEnd_23 : decode cX0_latestEnd 23 = .ok (.iinc 2 1, 3) := by decide +kernel
theorem dX0_latestEnd_26 : decode cX0_latestEnd 26 = .ok (.goto (-22), 3) := by decide +kernel
theorem dX0_latestEnd_29 : decode cX0_latestEnd 29 = .ok (.iload_n 1, 1) := by decide +kernel
theorem dX0_latestEnd_30 : decode cX0_latestEnd 30 = .ok (.ireturn, 1) := by decide +kernel
theorem dX0_waitForNext_0 : decode cX0_waitForNext 0 = .ok (.iconst 0, 1) := by decide +kernel
theorem dX0_waitForNext_1 : decode cX0_waitForNext 1 = .ok (.istore_n 1, 1) := by decide +kernel
theorem dX0_waitForNext_2 : decode cX0_waitForNext 2 = .ok (.iconst 0, 1) := by decide +kernel
theorem dX0_waitForNext_3 : decode cX0_waitForNext 3 = .ok (.istore_n 2, 1) := by decide +kernel
theorem dX0_waitForNext_4 : decode cX0_waitForNext 4 = .ok (.iload_n 2, 1) := by decide +kernel
theorem dX0_waitForNext_5 : decode cX0_waitForNext 5 = .ok (.aload_n 0, 1) := by decide +kernel
theorem dX0_waitForNext_6 : decode cX0_waitForNext 6 = .ok (.getfield 58, 3) := by decide +kernel
theorem dX0_waitForNext_9 : decode cX0_waitForNext 9 = .ok (.if_icmp .ge 50, 3) := by decide +kernel
theorem dX0_waitForNext_12 : decode cX0_waitForNext 12 = .ok (.aload_n 0, 1) := by decide +kernel
theorem dX0_waitForNext_13 : decode cX0_waitForNext 13 = .ok (.getfield 33, 3) := by decide +kernel
theorem dX0_waitForNext_16 : decode cX0_waitForNext 16 = .ok (.iload_n 2, 1) := by decide +kernel
theorem dX0_waitForNext_17 : decode cX0_waitForNext 17 = .ok (.iaload, 1) := by decide +kernel
theorem dX0_waitForNext_18 : decode cX0_waitForNext 18 = .ok (.iconst 1, 1) := by decide +kernel
theorem dX0_waitForNext_19 : decode cX0_waitForNext 19 = .ok (.if_icmp .ne 34, 3) := by decide +kernel
theorem dX0_waitForNext_22 : decode cX0_waitForNext 22 = .ok (.iload_n 1, 1) := by decide +kernel
theorem dX0_waitForNext_23 : decode cX0_waitForNext 23 = .ok (.ifCond .eq 18, 3) := by decide +kernel
theorem dX0_waitForNext_26 : decode cX0_waitForNext 26 = .ok (.aload_n 0, 1) := by decide +kernel
theorem dX0_waitForNext_27 : decode cX0_waitForNext 27 = .ok (.getfield 36, 3) := by decide +kernel
theorem dX0_waitForNext_30 : decode cX0_waitForNext 30 = .ok (.iload_n 2, 1) := by decide +kernel
theorem dX0_waitForNext_31 : decode cX0_waitForNext 31 = .ok (.iaload, 1) := by decide +kernel
theorem dX0_waitForNext_32 : decode cX0_waitForNext 32 = .ok (.aload_n 0, 1) := by decide +kernel
theorem dX0_waitForNext_33 : decode cX0_waitForNext 33 = .ok (.getfield 61, 3) := by decide +kernel
theorem dX0_waitForNext_36 : decode cX0_waitForNext 36 = .ok (.isub, 1) := by decide +kernel
theorem dX0_waitForNext_37 : decode cX0_waitForNext 37 = .ok (.iload_n 1, 1) := by decide +kernel
theorem dX0_waitForNext_38 : decode cX0_waitForNext 38 = .ok (.if_icmp .ge 15, 3) := by decide +kernel
theorem dX0_waitForNext_41 : decode cX0_waitForNext 41 = .ok (.aload_n 0, 1) := by decide +kernel
theorem dX0_waitForNext_42 : decode cX0_waitForNext 42 = .ok (.getfield 36, 3) := by decide +kernel
theorem dX0_waitForNext_45 : decode cX0_waitForNext 45 = .ok (.iload_n 2, 1) := by decide +kernel
theorem dX0_waitForNext_46 : decode cX0_waitForNext 46 = .ok (.iaload, 1) := by decide +kernel
theorem dX0_waitForNext_47 : decode cX0_waitForNext 47 = .ok (.aload_n 0, 1) := by decide +kernel
theorem dX0_waitForNext_48 : decode cX0_waitForNext 48 = .ok (.getfield 61, 3) := by decide +kernel
theorem dX0_waitForNext_51 : decode cX0_waitForNext 51 = .ok (.isub, 1) := by decide +kernel
theorem dX0_waitForNext_52 : decode cX0_waitForNext 52 = .ok (.istore_n 1, 1) := by decide +kernel
theorem dX0_waitForNext_53 : decode cX0_waitForNext 53 = .ok (.iinc 2 1, 3) := by decide +kernel
theorem dX0_waitForNext_56 : decode cX0_waitForNext 56 = .ok (.goto (-52), 3) := by decide +kernel
theorem dX0_waitForNext_59 : decode cX0_waitForNext 59 = .ok (.iload_n 1, 1) := by decide +kernel
theorem dX0_waitForNext_60 : decode cX0_waitForNext 60 = .ok (.ireturn, 1) := by decide +kernel
end
section
theorem dX1_init_0 : decode cX1_init 0 = .ok (.aload_n 0, 1) := by decide +kernel
theorem dX1_init_1 : decode cX1_init 1 = .ok (.invokespecial 3, 3) := by decide +kernel
theorem dX1_init_4 : decode cX1_init 4 = .ok (.aload_n 0, 1) := by decide +kernel
theorem dX1_init_5 : decode cX1_init 5 = .ok (.bipush 96, 2) := by decide +kernel
theorem dX1_init_7 : decode cX1_init 7 = .ok (.newarray .boolean, 2) := by decide +kernel
theorem dX1_init_9 : decode cX1_init 9 = .ok (.putfield 11, 3) := by decide +kernel
theorem dX1_init_12 : decode cX1_init 12 = .ok (.aload_n 0, 1) := by decide +kernel
theorem dX1_init_13 : decode cX1_init 13 = .ok (.sipush 1296, 3) := by decide +kernel
theorem dX1_init_16 : decode cX1_init 16 = .ok (.newarray .int, 2) := by decide +kernel
theorem dX1_init_18 : decode cX1_init 18 = .ok (.putfield 15, 3) := by decide +kernel
theorem dX1_init_21 : decode cX1_init 21 = .ok (.aload_n 0, 1) := by decide +kernel
theorem dX1_init_22 : decode cX1_init 22 = .ok (.sipush 1296, 3) := by decide +kernel
theorem dX1_init_25 : decode cX1_init 25 = .ok (.newarray .byte, 2) := by decide +kernel
theorem dX1_init_27 : decode cX1_init 27 = .ok (.putfield 19, 3) := by decide +kernel
theorem dX1_init_30 : decode cX1_init 30 = .ok (.aload_n 0, 1) := by decide +kernel
theorem dX1_init_31 : decode cX1_init 31 = .ok (.iconst 4, 1) := by decide +kernel
theorem dX1_init_32 : decode cX1_init 32 = .ok (.newarray .int, 2) := by decide +kernel
theorem dX1_init_34 : decode cX1_init 34 = .ok (.putfield 23, 3) := by decide +kernel
theorem dX1_init_37 : decode cX1_init 37 = .ok (.aload_n 0, 1) := by decide +kernel
theorem dX1_init_38 : decode cX1_init 38 = .ok (.bipush 6, 2) := by decide +kernel
theorem dX1_init_40 : decode cX1_init 40 = .ok (.newarray .int, 2) := by decide +kernel
theorem dX1_init_42 : decode cX1_init 42 = .ok (.putfield 26, 3) := by decide +kernel
theorem dX1_init_45 : decode cX1_init 45 = .ok (.aload_n 0, 1) := by decide +kernel
theorem dX1_init_46 : decode cX1_init 46 = .ok (.iconst 4, 1) := by decide +kernel
theorem dX1_init_47 : decode cX1_init 47 = .ok (.newarray .int, 2) := by decide +kernel
theorem dX1_init_49 : decode cX1_init 49 = .ok (.putfield 29, 3) := by decide +kernel
theorem dX1_init_52 : decode cX1_init 52 = .ok (.return_, 1) := by decide +kernel
theorem dX1_forget_0 : decode cX1_forget 0 = .ok (.aload_n 0, 1) := by decide +kernel
theorem dX1_forget_1 : decode cX1_forget 1 = .ok (.iconst 0, 1) := by decide +kernel
theorem dX1_forget_2 : decode cX1_forget 2 = .ok (.putfield 32, 3) := by decide +kernel
theorem dX1_forget_5 : decode cX1_forget 5 = .ok (.aload_n 0, 1) := by decide +kernel
theorem dX1_forget_6 : decode cX1_forget 6 = .ok (.iconst 0, 1) := by decide +kernel
theorem dX1_forget_7 : decode cX1_forget 7 = .ok (.putfield 36, 3) := by decide +kernel
theorem dX1_forget_10 : decode cX1_forget 10 = .ok (.return_, 1) := by decide +kernel
theorem dX1_learnRooms_0 : decode cX1_learnRooms 0 = .ok (.aload_n 0, 1) := by decide +kernel
theorem dX1_learnRooms_1 : decode cX1_learnRooms 1 = .ok (.getfield 32, 3) := by decide +kernel
theorem dX1_learnRooms_4 : decode cX1_learnRooms 4 = .ok (.ifCond .eq 4, 3) := by decide +kernel
theorem dX1_learnRooms_7 : decode cX1_learnRooms 7 = .ok (.return_, 1) := by decide +kernel
theorem dX1_learnRooms_8 : decode cX1_learnRooms 8 = .ok (.iconst 0, 1) := by decide +kernel
theorem dX1_learnRooms_9 : decode cX1_learnRooms 9 = .ok (.istore_n 2, 1) := by decide +kernel
theorem dX1_learnRooms_10 : decode cX1_learnRooms 10 = .ok (.iload_n 2, 1) := by decide +kernel
theorem dX1_learnRooms_11 : decode cX1_learnRooms 11 = .ok (.aload_n 1, 1) := by decide +kernel
theorem dX1_learnRooms_12 : decode cX1_learnRooms 12 = .ok (.getfield 39, 3) := by decide +kernel
theorem dX1_learnRooms_15 : decode cX1_learnRooms 15 = .ok (.if_icmp .ge 44, 3) := by decide +kernel
theorem dX1_learnRooms_18 : decode cX1_learnRooms 18 = .ok (.iconst 0, 1) := by decide +kernel
theorem dX1_learnRooms_19 : decode cX1_learnRooms 19 = .ok (.istore_n 3, 1) := by decide +kernel
theorem dX1_learnRooms_20 : decode cX1_learnRooms 20 = .ok (.iload_n 3, 1) := by decide +kernel
theorem dX1_learnRooms_21 : decode cX1_learnRooms 21 = .ok (.iconst 1, 1) := by decide +kernel
theorem dX1_learnRooms_22 : decode cX1_learnRooms 22 = .ok (.aload_n 1, 1) := by decide +kernel
theorem dX1_learnRooms_23 : decode cX1_learnRooms 23 = .ok (.getfield 45, 3) := by decide +kernel
theorem dX1_learnRooms_26 : decode cX1_learnRooms 26 = .ok (.ishl, 1) := by decide +kernel
theorem dX1_learnRooms_27 : decode cX1_learnRooms 27 = .ok (.if_icmp .ge 26, 3) := by decide +kernel
theorem dX1_learnRooms_30 : decode cX1_learnRooms 30 = .ok (.aload_n 0, 1) := by decide +kernel
theorem dX1_learnRooms_31 : decode cX1_learnRooms 31 = .ok (.getfield 11, 3) := by decide +kernel
theorem dX1_learnRooms_34 : decode cX1_learnRooms 34 = .ok (.iload_n 2, 1) := by decide +kernel
theorem dX1_learnRooms_35 : decode cX1_learnRooms 35 = .ok (.bipush 16, 2) := by decide +kernel
theorem dX1_learnRooms_37 : decode cX1_learnRooms 37 = .ok (.imul, 1) := by decide +kernel
theorem dX1_learnRooms_38 : decode cX1_learnRooms 38 = .ok (.iload_n 3, 1) := by decide +kernel
theorem dX1_learnRooms_39 : decode cX1_learnRooms 39 = .ok (.iadd, 1) := by decide +kernel
theorem dX1_learnRooms_40 : decode cX1_learnRooms 40 = .ok (.aload_n 1, 1) := by decide +kernel
theorem dX1_learnRooms_41 : decode cX1_learnRooms 41 = .ok (.iload_n 2, 1) := by decide +kernel
theorem dX1_learnRooms_42 : decode cX1_learnRooms 42 = .ok (.iload_n 3, 1) := by decide +kernel
theorem dX1_learnRooms_43 : decode cX1_learnRooms 43 = .ok (.invokestatic 48, 3) := by decide +kernel
theorem dX1_learnRooms_46 : decode cX1_learnRooms 46 = .ok (.bastore, 1) := by decide +kernel
theorem dX1_learnRooms_47 : decode cX1_learnRooms 47 = .ok (.iinc 3 1, 3) := by decide +kernel
theorem dX1_learnRooms_50 : decode cX1_learnRooms 50 = .ok (.goto (-30), 3) := by decide +kernel
theorem dX1_learnRooms_53 : decode cX1_learnRooms 53 = .ok (.iinc 2 1, 3) := by decide +kernel
theorem dX1_learnRooms_56 : decode cX1_learnRooms 56 = .ok (.goto (-46), 3) := by decide +kernel
theorem dX1_learnRooms_59 : decode cX1_learnRooms 59 = .ok (.aload_n 0, 1) := by decide +kernel
theorem dX1_learnRooms_60 : decode cX1_learnRooms 60 = .ok (.iconst 1, 1) := by decide +kernel
theorem dX1_learnRooms_61 : decode cX1_learnRooms 61 = .ok (.putfield 32, 3) := by decide +kernel
theorem dX1_learnRooms_64 : decode cX1_learnRooms 64 = .ok (.return_, 1) := by decide +kernel
theorem dX1_fits_0 : decode cX1_fits 0 = .ok (.iconst 0, 1) := by decide +kernel
theorem dX1_fits_1 : decode cX1_fits 1 = .ok (.istore_n 3, 1) := by decide +kernel
theorem dX1_fits_2 : decode cX1_fits 2 = .ok (.iload_n 3, 1) := by decide +kernel
theorem dX1_fits_3 : decode cX1_fits 3 = .ok (.aload_n 0, 1) := by decide +kernel
theorem dX1_fits_4 : decode cX1_fits 4 = .ok (.getfield 45, 3) := by decide +kernel
theorem dX1_fits_7 : decode cX1_fits 7 = .ok (.if_icmp .ge 45, 3) := by decide +kernel
theorem dX1_fits_10 : decode cX1_fits 10 = .ok (.iload_n 2, 1) := by decide +kernel
theorem dX1_fits_11 : decode cX1_fits 11 = .ok (.iload_n 3, 1) := by decide +kernel
theorem dX1_fits_12 : decode cX1_fits 12 = .ok (.ishr, 1) := by decide +kernel
theorem dX1_fits_13 : decode cX1_fits 13 = .ok (.iconst 1, 1) := by decide +kernel
theorem dX1_fits_14 : decode cX1_fits 14 = .ok (.iand, 1) := by decide +kernel
theorem dX1_fits_15 : decode cX1_fits 15 = .ok (.iconst 1, 1) := by decide +kernel
theorem dX1_fits_16 : decode cX1_fits 16 = .ok (.if_icmp .ne 30, 3) := by decide +kernel
theorem dX1_fits_19 : decode cX1_fits 19 = .ok (.aload_n 0, 1) := by decide +kernel
theorem dX1_fits_20 : decode cX1_fits 20 = .ok (.iload_n 1, 1) := by decide +kernel
theorem dX1_fits_21 : decode cX1_fits 21 = .ok (.aload_n 0, 1) := by decide +kernel
theorem dX1_fits_22 : decode cX1_fits 22 = .ok (.getfield 52, 3) := by decide +kernel
theorem dX1_fits_25 : decode cX1_fits 25 = .ok (.iload_n 3, 1) := by decide +kernel
theorem dX1_fits_26 : decode cX1_fits 26 = .ok (.iaload, 1) := by decide +kernel
theorem dX1_fits_27 : decode cX1_fits 27 = .ok (.invokestatic 55, 3) := by decide +kernel
theorem dX1_fits_30 : decode cX1_fits 30 = .ok (.aload_n 0, 1) := by decide +kernel
theorem dX1_fits_31 : decode cX1_fits 31 = .ok (.iload_n 2, 1) := by decide +kernel
theorem dX1_fits_32 : decode cX1_fits 32 = .ok (.aload_n 0, 1) := by decide +kernel
theorem dX1_fits_33 : decode cX1_fits 33 = .ok (.getfield 52, 3) := by decide +kernel
theorem dX1_fits_36 : decode cX1_fits 36 = .ok (.iload_n 3, 1) := by decide +kernel
theorem dX1_fits_37 : decode cX1_fits 37 = .ok (.iaload, 1) := by decide +kernel
theorem dX1_fits_38 : decode cX1_fits 38 = .ok (.invokestatic 59, 3) := by decide +kernel
theorem dX1_fits_41 : decode cX1_fits 41 = .ok (.if_icmp .ge 5, 3) := by decide +kernel
theorem dX1_fits_44 : decode cX1_fits 44 = .ok (.iconst 0, 1) := by decide +kernel
theorem dX1_fits_45 : decode cX1_fits 45 = .ok (.ireturn, 1) := by decide +kernel
theorem dX1_fits_46 : decode cX1_fits 46 = .ok (.iinc 3 1, 3) := by decide +kernel
theorem dX1_fits_49 : decode cX1_fits 49 = .ok (.goto (-47), 3) := by decide +kernel
theorem dX1_fits_52 : decode cX1_fits 52 = .ok (.iconst 1, 1) := by decide +kernel
theorem dX1_fits_53 : decode cX1_fits 53 = .ok (.ireturn, 1) := by decide +kernel
theorem dX1_tracksFor_0 : decode cX1_tracksFor 0 = .ok (.iconst 0, 1) := by decide +kernel
theorem dX1_tracksFor_1 : decode cX1_tracksFor 1 = .ok (.istore_n 3, 1) := by decide +kernel
theorem dX1_tracksFor_2 : decode cX1_tracksFor 2 = .ok (.iconst 0, 1) := by decide +kernel
theorem dX1_tracksFor_3 : decode cX1_tracksFor 3 = .ok (.istore 4, 2) := by decide +kernel
theorem dX1_tracksFor_5 : decode cX1_tracksFor 5 = .ok (.iload 4, 2) := by decide +kernel
theorem dX1_tracksFor_7 : decode cX1_tracksFor 7 = .ok (.aload_n 0, 1) := by decide +kernel
theorem dX1_tracksFor_8 : decode cX1_tracksFor 8 = .ok (.getfield 62, 3) := by decide +kernel
theorem dX1_tracksFor_11 : decode cX1_tracksFor 11 = .ok (.iload_n 1, 1) := by decide +kernel
theorem dX1_tracksFor_12 : decode cX1_tracksFor 12 = .ok (.iaload, 1) := by decide +kernel
theorem dX1_tracksFor_13 : decode cX1_tracksFor 13 = .ok (.if_icmp .ge 32, 3) := by decide +kernel
theorem dX1_tracksFor_16 : decode cX1_tracksFor 16 = .ok (.iload_n 3, 1) := by decide +kernel
theorem dX1_tracksFor_17 : decode cX1_tracksFor 17 = .ok (.aload_n 0, 1) := by decide +kernel
theorem dX1_tracksFor_18 : decode cX1_tracksFor 18 = .ok (.getfield 65, 3) := by decide +kernel
theorem dX1_tracksFor_21 : decode cX1_tracksFor 21 = .ok (.iload_n 1, 1) := by decide +kernel
theorem dX1_tracksFor_22 : decode cX1_tracksFor 22 = .ok (.iconst 3, 1) := by decide +kernel
theorem dX1_tracksFor_23 : decode cX1_tracksFor 23 = .ok (.imul, 1) := by decide +kernel
theorem dX1_tracksFor_24 : decode cX1_tracksFor 24 = .ok (.iload 4, 2) := by decide +kernel
theorem dX1_tracksFor_26 : decode cX1_tracksFor 26 = .ok (.iadd, 1) := by decide +kernel
theorem dX1_tracksFor_27 : decode cX1_tracksFor 27 = .ok (.iaload, 1) := by decide +kernel
theorem dX1_tracksFor_28 : decode cX1_tracksFor 28 = .ok (.iload_n 2, 1) := by decide +kernel
theorem dX1_tracksFor_29 : decode cX1_tracksFor 29 = .ok (.if_icmp .lt 7, 3) := by decide +kernel
theorem dX1_tracksFor_32 : decode cX1_tracksFor 32 = .ok (.iconst 1, 1) := by decide +kernel
theorem dX1_tracksFor_33 : decode cX1_tracksFor 33 = .ok (.goto 4, 3) := by decide +kernel
theorem dX1_tracksFor_36 : decode cX1_tracksFor 36 = .ok (.iconst 0, 1) := by decide +kernel
theorem dX1_tracksFor_37 : decode cX1_tracksFor 37 = .ok (.iadd, 1) := by decide +kernel
theorem dX1_tracksFor_38 : decode cX1_tracksFor 38 = .ok (.istore_n 3, 1) := by decide +kernel
theorem dX1_tracksFor_39 : decode cX1_tracksFor 39 = .ok (.iinc 4 1, 3) := by decide +kernel
theorem dX1_tracksFor_42 : decode cX1_tracksFor 42 = .ok (.goto (-37), 3) := by decide +kernel
theorem dX1_tracksFor_45 : decode cX1_tracksFor 45 = .ok (.iload_n 3, 1) := by decide +kernel
theorem dX1_tracksFor_46 : decode cX1_tracksFor 46 = .ok (.ireturn, 1) := by decide +kernel
theorem dX1_trainsOf_0 : decode cX1_trainsOf 0 = .ok (.iconst 0, 1) := by decide +kernel
theorem dX1_trainsOf_1 : decode cX1_trainsOf 1 = .ok (.istore_n 3, 1) := by decide +kernel
theorem dX1_trainsOf_2 : decode cX1_trainsOf 2 = .ok (.iconst 0, 1) := by decide +kernel
theorem dX1_trainsOf_3 : decode cX1_trainsOf 3 = .ok (.istore 4, 2) := by decide +kernel
theorem dX1_trainsOf_5 : decode cX1_trainsOf 5 = .ok (.iload 4, 2) := by decide +kernel
theorem dX1_trainsOf_7 : decode cX1_trainsOf 7 = .ok (.aload_n 0, 1) := by decide +kernel
theorem dX1_trainsOf_8 : decode cX1_trainsOf 8 = .ok (.getfield 45, 3) := by decide +kernel
theorem dX1_trainsOf_11 : decode cX1_trainsOf 11 = .ok (.if_icmp .ge 38, 3) := by decide +kernel
theorem dX1_trainsOf_14 : decode cX1_trainsOf 14 = .ok (.iload_n 3, 1) := by decide +kernel
theorem dX1_trainsOf_15 : decode cX1_trainsOf 15 = .ok (.iload_n 1, 1) := by decide +kernel
theorem dX1_trainsOf_16 : decode cX1_trainsOf 16 = .ok (.iload 4, 2) := by decide +kernel
theorem dX1_trainsOf_18 : decode cX1_trainsOf 18 = .ok (.ishr, 1) := by decide +kernel
theorem dX1_trainsOf_19 : decode cX1_trainsOf 19 = .ok (.iconst 1, 1) := by decide +kernel
theorem dX1_trainsOf_20 : decode cX1_trainsOf 20 = .ok (.iand, 1) := by decide +kernel
theorem dX1_trainsOf_21 : decode cX1_trainsOf 21 = .ok (.iconst 1, 1) := by decide +kernel
theorem dX1_trainsOf_22 : decode cX1_trainsOf 22 = .ok (.if_icmp .ne 18, 3) := by decide +kernel
theorem dX1_trainsOf_25 : decode cX1_trainsOf 25 = .ok (.aload_n 0, 1) := by decide +kernel
theorem dX1_trainsOf_26 : decode cX1_trainsOf 26 = .ok (.getfield 52, 3) := by decide +kernel
theorem dX1_trainsOf_29 : decode cX1_trainsOf 29 = .ok (.iload 4, 2) := by decide +kernel
theorem dX1_trainsOf_31 : decode cX1_trainsOf 31 = .ok (.iaload, 1) := by decide +kernel
theorem dX1_trainsOf_32 : decode cX1_trainsOf 32 = .ok (.iload_n 2, 1) := by decide +kernel
theorem dX1_trainsOf_33 : decode cX1_trainsOf 33 = .ok (.if_icmp .lt 7, 3) := by decide +kernel
theorem dX1_trainsOf_36 : decode cX1_trainsOf 36 = .ok (.iconst 1, 1) := by decide +kernel
theorem dX1_trainsOf_37 : decode cX1_trainsOf 37 = .ok (.goto 4, 3) := by decide +kernel
theorem dX1_trainsOf_40 : decode cX1_trainsOf 40 = .ok (.iconst 0, 1) := by decide +kernel
theorem dX1_trainsOf_41 : decode cX1_trainsOf 41 = .ok (.iadd, 1) := by decide +kernel
theorem dX1_trainsOf_42 : decode cX1_trainsOf 42 = .ok (.istore_n 3, 1) := by decide +kernel
theorem dX1_trainsOf_43 : decode cX1_trainsOf 43 = .ok (.iinc 4 1, 3) := by decide +kernel
theorem dX1_trainsOf_46 : decode cX1_trainsOf 46 = .ok (.goto (-41), 3) := by decide +kernel
theorem dX1_trainsOf_49 : decode cX1_trainsOf 49 = .ok (.iload_n 3, 1) := by decide +kernel
theorem dX1_trainsOf_50 : decode cX1_trainsOf 50 = .ok (.ireturn, 1) := by decide +kernel
theorem dX1_learn_0 : decode cX1_learn 0 = .ok (.aload_n 0, 1) := by decide +kernel
theorem dX1_learn_1 : decode cX1_learn 1 = .ok (.aload_n 1, 1) := by decide +kernel
theorem dX1_learn_2 : decode cX1_learn 2 = .ok (.invokevirtual 68, 3) := by decide +kernel
theorem dX1_learn_5 : decode cX1_learn 5 = .ok (.aload_n 0, 1) := by decide +kernel
theorem dX1_learn_6 : decode cX1_learn 6 = .ok (.getfield 36, 3) := by decide +kernel
theorem dX1_learn_9 : decode cX1_learn 9 = .ok (.ifCond .ne 8, 3) := by decide +kernel
theorem dX1_learn_12 : decode cX1_learn 12 = .ok (.aload_n 0, 1) := by decide +kernel
theorem dX1_learn_13 : decode cX1_learn 13 = .ok (.aload_n 1, 1) := by decide +kernel
theorem dX1_learn_14 : decode cX1_learn 14 = .ok (.invokevirtual 72, 3) := by decide +kernel
theorem dX1_learn_17 : decode cX1_learn 17 = .ok (.aload_n 0, 1) := by decide +kernel
theorem dX1_learn_18 : decode cX1_learn 18 = .ok (.aload_n 1, 1) := by decide +kernel
theorem dX1_learn_19 : decode cX1_learn 19 = .ok (.invokevirtual 75, 3) := by decide +kernel
theorem dX1_learn_22 : decode cX1_learn 22 = .ok (.return_, 1) := by decide +kernel
theorem dX1_learnEnds_0 : decode cX1_learnEnds 0 = .ok (.aload_n 1, 1) := by decide +kernel
theorem dX1_learnEnds_1 : decode cX1_learnEnds 1 = .ok (.iconst 0, 1) := by decide +kernel
theorem dX1_learnEnds_2 : decode cX1_learnEnds 2 = .ok (.invokestatic 78, 3) := by decide +kernel
theorem dX1_learnEnds_5 : decode cX1_learnEnds 5 = .ok (.istore_n 2, 1) := by decide +kernel
theorem dX1_learnEnds_6 : decode cX1_learnEnds 6 = .ok (.aload_n 1, 1) := by decide +kernel
theorem dX1_learnEnds_7 : decode cX1_learnEnds 7 = .ok (.iconst 1, 1) := by decide +kernel
theorem dX1_learnEnds_8 : decode cX1_learnEnds 8 = .ok (.invokestatic 78, 3) := by decide +kernel
theorem dX1_learnEnds_11 : decode cX1_learnEnds 11 = .ok (.istore_n 3, 1) := by decide +kernel
theorem dX1_learnEnds_12 : decode cX1_learnEnds 12 = .ok (.aload_n 1, 1) := by decide +kernel
theorem dX1_learnEnds_13 : decode cX1_learnEnds 13 = .ok (.iconst 2, 1) := by decide +kernel
theorem dX1_learnEnds_14 : decode cX1_learnEnds 14 = .ok (.invokestatic 78, 3) := by decide +kernel
theorem dX1_learnEnds_17 : decode cX1_learnEnds 17 = .ok (.istore 4, 2) := by decide +kernel
theorem dX1_learnEnds_19 : decode cX1_learnEnds 19 = .ok (.aload_n 1, 1) := by decide +kernel
theorem dX1_learnEnds_20 : decode cX1_learnEnds 20 = .ok (.iconst 3, 1) := by decide +kernel
theorem dX1_learnEnds_21 : decode cX1_learnEnds 21 = .ok (.invokestatic 78, 3) := by decide +kernel
theorem dX1_learnEnds_24 : decode cX1_learnEnds 24 = .ok (.istore 5, 2) := by decide +kernel
theorem dX1_learnEnds_26 : decode cX1_learnEnds 26 = .ok (.iconst 0, 1) := by decide +kernel
theorem dX1_learnEnds_27 : decode cX1_learnEnds 27 = .ok (.istore 6, 2) := by decide +kernel
theorem dX1_learnEnds_29 : decode cX1_learnEnds 29 = .ok (.iload 6, 2) := by decide +kernel
theorem dX1_learnEnds_31 : decode cX1_learnEnds 31 = .ok (.iload 5, 2) := by decide +kernel
theorem dX1_learnEnds_33 : decode cX1_learnEnds 33 = .ok (.if_icmp .gt 92, 3) := by decide +kernel
theorem dX1_learnEnds_36 : decode cX1_learnEnds 36 = .ok (.aload_n 0, 1) := by decide +kernel
theorem dX1_learnEnds_37 : decode cX1_learnEnds 37 = .ok (.getfield 23, 3) := by decide +kernel
theorem dX1_learnEnds_40 : decode cX1_learnEnds 40 = .ok (.iconst 3, 1) := by decide +kernel
theorem dX1_learnEnds_41 : decode cX1_learnEnds 41 = .ok (.iload 6, 2) := by decide +kernel
theorem dX1_learnEnds_43 : decode cX1_learnEnds 43 = .ok (.iastore, 1) := by decide +kernel
theorem dX1_learnEnds_44 : decode cX1_learnEnds 44 = .ok (.iconst 0, 1) := by decide +kernel
theorem dX1_learnEnds_45 : decode cX1_learnEnds 45 = .ok (.istore 7, 2) := by decide +kernel
theorem dX1_learnEnds_47 : decode cX1_learnEnds 47 = .ok (.iload 7, 2) := by decide +kernel
theorem dX1_learnEnds_49 : decode cX1_learnEnds 49 = .ok (.iload 4, 2) := by decide +kernel
theorem dX1_learnEnds_51 : decode cX1_learnEnds 51 = .ok (.if_icmp .gt 68, 3) := by decide +kernel
theorem dX1_learnEnds_54 : decode cX1_learnEnds 54 = .ok (.aload_n 0, 1) := by decide +kernel
theorem dX1_learnEnds_55 : decode cX1_learnEnds 55 = .ok (.getfield 23, 3) := by decide +kernel
theorem dX1_learnEnds_58 : decode cX1_learnEnds 58 = .ok (.iconst 2, 1) := by decide +kernel
theorem dX1_learnEnds_59 : decode cX1_learnEnds 59 = .ok (.iload 7, 2) := by decide +kernel
theorem dX1_learnEnds_61 : decode cX1_learnEnds 61 = .ok (.iastore, 1) := by decide +kernel
theorem dX1_learnEnds_62 : decode cX1_learnEnds 62 = .ok (.iconst 0, 1) := by decide +kernel
theorem dX1_learnEnds_63 : decode cX1_learnEnds 63 = .ok (.istore 8, 2) := by decide +kernel
theorem dX1_learnEnds_65 : decode cX1_learnEnds 65 = .ok (.iload 8, 2) := by decide +kernel
theorem dX1_learnEnds_67 : decode cX1_learnEnds 67 = .ok (.iload_n 3, 1) := by decide +kernel
theorem dX1_learnEnds_68 : decode cX1_learnEnds 68 = .ok (.if_icmp .gt 45, 3) := by decide +kernel
theorem dX1_learnEnds_71 : decode cX1_learnEnds 71 = .ok (.aload_n 0, 1) := by decide +kernel
theorem dX1_learnEnds_72 : decode cX1_learnEnds 72 = .ok (.getfield 23, 3) := by decide +kernel
theorem dX1_learnEnds_75 : decode cX1_learnEnds 75 = .ok (.iconst 1, 1) := by decide +kernel
theorem dX1_learnEnds_76 : decode cX1_learnEnds 76 = .ok (.iload 8, 2) := by decide +kernel
theorem dX1_learnEnds_78 : decode cX1_learnEnds 78 = .ok (.iastore, 1) := by decide +kernel
theorem dX1_learnEnds_79 : decode cX1_learnEnds 79 = .ok (.iconst 0, 1) := by decide +kernel
theorem dX1_learnEnds_80 : decode cX1_learnEnds 80 = .ok (.istore 9, 2) := by decide +kernel
theorem dX1_learnEnds_82 : decode cX1_learnEnds 82 = .ok (.iload 9, 2) := by decide +kernel
theorem dX1_learnEnds_84 : decode cX1_learnEnds 84 = .ok (.iload_n 2, 1) := by decide +kernel
theorem dX1_learnEnds_85 : decode cX1_learnEnds 85 = .ok (.if_icmp .gt 22, 3) := by decide +kernel
theorem dX1_learnEnds_88 : decode cX1_learnEnds 88 = .ok (.aload_n 0, 1) := by decide +kernel
theorem dX1_learnEnds_89 : decode cX1_learnEnds 89 = .ok (.getfield 23, 3) := by decide +kernel
theorem dX1_learnEnds_92 : decode cX1_learnEnds 92 = .ok (.iconst 0, 1) := by decide +kernel
theorem dX1_learnEnds_93 : decode cX1_learnEnds 93 = .ok (.iload 9, 2) := by decide +kernel
theorem dX1_learnEnds_95 : decode cX1_learnEnds 95 = .ok (.iastore, 1) := by decide +kernel
theorem dX1_learnEnds_96 : decode cX1_learnEnds 96 = .ok (.aload_n 0, 1) := by decide +kernel
theorem dX1_learnEnds_97 : decode cX1_learnEnds 97 = .ok (.aload_n 1, 1) := by decide +kernel
theorem dX1_learnEnds_98 : decode cX1_learnEnds 98 = .ok (.invokevirtual 82, 3) := by decide +kernel
theorem dX1_learnEnds_101 : decode cX1_learnEnds 101 = .ok (.iinc 9 1, 3) := by decide +kernel
theorem dX1_learnEnds_104 : decode cX1_learnEnds 104 = .ok (.goto (-22), 3) := by decide +kernel
theorem dX1_learnEnds_107 : decode cX1_learnEnds 107 = .ok (.iinc 8 1, 3) := by decide +kernel
theorem dX1_learnEnds_110 : decode cX1_learnEnds 110 = .ok (.goto (-45), 3) := by decide +kernel
theorem dX1_learnEnds_113 : decode cX1_learnEnds 113 = .ok (.iinc 7 1, 3) := by decide +kernel
theorem dX1_learnEnds_116 : decode cX1_learnEnds 116 = .ok (.goto (-69), 3) := by decide +kernel
theorem dX1_learnEnds_119 : decode cX1_learnEnds 119 = .ok (.iinc 6 1, 3) := by decide +kernel
theorem dX1_learnEnds_122 : decode cX1_learnEnds 122 = .ok (.goto (-93), 3) := by decide +kernel
theorem dX1_learnEnds_125 : decode cX1_learnEnds 125 = .ok (.aload_n 0, 1) := by decide +kernel
theorem dX1_learnEnds_126 : decode cX1_learnEnds 126 = .ok (.iconst 1, 1) := by decide +kernel
theorem dX1_learnEnds_127 : decode cX1_learnEnds 127 = .ok (.putfield 36, 3) := by decide +kernel
theorem dX1_learnEnds_130 : decode cX1_learnEnds 130 = .ok (.return_, 1) := by decide +kernel
theorem dX1_highest_0 : decode cX1_highest 0 = .ok (.iload_n 1, 1) := by decide +kernel
theorem dX1_highest_1 : decode cX1_highest 1 = .ok (.aload_n 0, 1) := by decide +kernel
theorem dX1_highest_2 : decode cX1_highest 2 = .ok (.getfield 45, 3) := by decide +kernel
theorem dX1_highest_5 : decode cX1_highest 5 = .ok (.if_icmp .ge 12, 3) := by decide +kernel
theorem dX1_highest_8 : decode cX1_highest 8 = .ok (.aload_n 0, 1) := by decide +kernel
theorem dX1_highest_9 : decode cX1_highest 9 = .ok (.getfield 85, 3) := by decide +kernel
theorem dX1_highest_12 : decode cX1_highest 12 = .ok (.iload_n 1, 1) := by decide +kernel
theorem dX1_highest_13 : decode cX1_highest 13 = .ok (.iaload, 1) := by decide +kernel
theorem dX1_highest_14 : decode cX1_highest 14 = .ok (.goto 4, 3) := by decide +kernel
theorem dX1_highest_17 : decode cX1_highest 17 = .ok (.iconst 0, 1) := by decide +kernel
theorem dX1_highest_18 : decode cX1_highest 18 = .ok (.ireturn, 1) := by decide +kernel
theorem dX1_learnOne_0 : decode cX1_learnOne 0 = .ok (.aload_n 0, 1) := by decide +kernel
theorem dX1_learnOne_1 : decode cX1_learnOne 1 = .ok (.aload_n 1, 1) := by decide +kernel
theorem dX1_learnOne_2 : decode cX1_learnOne 2 = .ok (.invokevirtual 86, 3) := by decide +kernel
theorem dX1_learnOne_5 : decode cX1_learnOne 5 = .ok (.aload_n 0, 1) := by decide +kernel
theorem dX1_learnOne_6 : decode cX1_learnOne 6 = .ok (.invokevirtual 89, 3) := by decide +kernel
theorem dX1_learnOne_9 : decode cX1_learnOne 9 = .ok (.istore_n 2, 1) := by decide +kernel
theorem dX1_learnOne_10 : decode cX1_learnOne 10 = .ok (.iload_n 2, 1) := by decide +kernel
theorem dX1_learnOne_11 : decode cX1_learnOne 11 = .ok (.ifCond .ne 8, 3) := by decide +kernel
theorem dX1_learnOne_14 : decode cX1_learnOne 14 = .ok (.bipush 16, 2) := by decide +kernel
theorem dX1_learnOne_16 : decode cX1_learnOne 16 = .ok (.goto 4, 3) := by decide +kernel
theorem dX1_learnOne_19 : decode cX1_learnOne 19 = .ok (.iconst 0, 1) := by decide +kernel
theorem dX1_learnOne_20 : decode cX1_learnOne 20 = .ok (.istore_n 3, 1) := by decide +kernel
theorem dX1_learnOne_21 : decode cX1_learnOne 21 = .ok (.iconst 0, 1) := by decide +kernel
theorem dX1_learnOne_22 : decode cX1_learnOne 22 = .ok (.istore 4, 2) := by decide +kernel
theorem dX1_learnOne_24 : decode cX1_learnOne 24 = .ok (.iload 4, 2) := by decide +kernel
theorem dX1_learnOne_26 : decode cX1_learnOne 26 = .ok (.aload_n 1, 1) := by decide +kernel
theorem dX1_learnOne_27 : decode cX1_learnOne 27 = .ok (.getfield 45, 3) := by decide +kernel
theorem dX1_learnOne_30 : decode cX1_learnOne 30 = .ok (.if_icmp .ge 55, 3) := by decide +kernel
theorem dX1_learnOne_33 : decode cX1_learnOne 33 = .ok (.aload_n 0, 1) := by decide +kernel
theorem dX1_learnOne_34 : decode cX1_learnOne 34 = .ok (.getfield 23, 3) := by decide +kernel
theorem dX1_learnOne_37 : decode cX1_learnOne 37 = .ok (.iload 4, 2) := by decide +kernel
theorem dX1_learnOne_39 : decode cX1_learnOne 39 = .ok (.iaload, 1) := by decide +kernel
theorem dX1_learnOne_40 : decode cX1_learnOne 40 = .ok (.ifCond .ne 13, 3) := by decide +kernel
theorem dX1_learnOne_43 : decode cX1_learnOne 43 = .ok (.iload_n 3, 1) := by decide +kernel
theorem dX1_learnOne_44 : decode cX1_learnOne 44 = .ok (.iconst 1, 1) := by decide +kernel
theorem dX1_learnOne_45 : decode cX1_learnOne 45 = .ok (.iload 4, 2) := by decide +kernel
theorem dX1_learnOne_47 : decode cX1_learnOne 47 = .ok (.ishl, 1) := by decide +kernel
theorem dX1_learnOne_48 : decode cX1_learnOne 48 = .ok (.ior, 1) := by decide +kernel
theorem dX1_learnOne_49 : decode cX1_learnOne 49 = .ok (.istore_n 3, 1) := by decide +kernel
theorem dX1_learnOne_50 : decode cX1_learnOne 50 = .ok (.goto 29, 3) := by decide +kernel
theorem dX1_learnOne_53 : decode cX1_learnOne 53 = .ok (.aload_n 0, 1) := by decide +kernel
theorem dX1_learnOne_54 : decode cX1_learnOne 54 = .ok (.aload_n 1, 1) := by decide +kernel
theorem dX1_learnOne_55 : decode cX1_learnOne 55 = .ok (.iload 4, 2) := by decide +kernel
theorem dX1_learnOne_57 : decode cX1_learnOne 57 = .ok (.invokevirtual 93, 3) := by decide +kernel
theorem dX1_learnOne_60 : decode cX1_learnOne 60 = .ok (.ifCond .eq 19, 3) := by decide +kernel
theorem dX1_learnOne_63 : decode cX1_learnOne 63 = .ok (.iload_n 3, 1) := by decide +kernel
theorem dX1_learnOne_64 : decode cX1_learnOne 64 = .ok (.aload_n 0, 1) := by decide +kernel
theorem dX1_learnOne_65 : decode cX1_learnOne 65 = .ok (.getfield 15, 3) := by decide +kernel
theorem dX1_learnOne_68 : decode cX1_learnOne 68 = .ok (.iload_n 2, 1) := by decide +kernel
theorem dX1_learnOne_69 : decode cX1_learnOne 69 = .ok (.getstatic 97, 3) := by decide +kernel
theorem dX1_learnOne_72 : decode cX1_learnOne 72 = .ok (.iload 4, 2) := by decide +kernel
theorem dX1_learnOne_74 : decode cX1_learnOne 74 = .ok (.iaload, 1) := by decide +kernel
theorem dX1_learnOne_75 : decode cX1_learnOne 75 = .ok (.isub, 1) := by decide +kernel
theorem dX1_learnOne_76 : decode cX1_learnOne 76 = .ok (.iaload, 1) := by decide +kernel
theorem dX1_learnOne_77 : decode cX1_learnOne 77 = .ok (.ior, 1) := by decide +kernel
theorem dX1_learnOne_78 : decode cX1_learnOne 78 = .ok (.istore_n 3, 1) := by decide +kernel
theorem dX1_learnOne_79 : decode cX1_learnOne 79 = .ok (.iinc 4 1, 3) := by decide +kernel
theorem dX1_learnOne_82 : decode cX1_learnOne 82 = .ok (.goto (-58), 3) := by decide +kernel
theorem dX1_learnOne_85 : decode cX1_learnOne 85 = .ok (.aload_n 0, 1) := by decide +kernel
theorem dX1_learnOne_86 : decode cX1_learnOne 86 = .ok (.getfield 15, 3) := by decide +kernel
theorem dX1_learnOne_89 : decode cX1_learnOne 89 = .ok (.iload_n 2, 1) := by decide +kernel
theorem dX1_learnOne_90 : decode cX1_learnOne 90 = .ok (.iload_n 3, 1) := by decide +kernel
theorem dX1_learnOne_91 : decode cX1_learnOne 91 = .ok (.iastore, 1) := by decide +kernel
theorem dX1_learnOne_92 : decode cX1_learnOne 92 = .ok (.return_, 1) := by decide +kernel
theorem dX1_code_0 : decode cX1_code 0 = .ok (.aload_n 0, 1) := by decide +kernel
theorem dX1_code_1 : decode cX1_code 1 = .ok (.getfield 23, 3) := by decide +kernel
theorem dX1_code_4 : decode cX1_code 4 = .ok (.iconst 0, 1) := by decide +kernel
theorem dX1_code_5 : decode cX1_code 5 = .ok (.iaload, 1) := by decide +kernel
theorem dX1_code_6 : decode cX1_code 6 = .ok (.bipush 6, 2) := by decide +kernel
theorem dX1_code_8 : decode cX1_code 8 = .ok (.aload_n 0, 1) := by decide +kernel
theorem dX1_code_9 : decode cX1_code 9 = .ok (.getfield 23, 3) := by decide +kernel
theorem dX1_code_12 : decode cX1_code 12 = .ok (.iconst 1, 1) := by decide +kernel
theorem dX1_code_13 : decode cX1_code 13 = .ok (.iaload, 1) := by decide +kernel
theorem dX1_code_14 : decode cX1_code 14 = .ok (.bipush 6, 2) := by decide +kernel
theorem dX1_code_16 : decode cX1_code 16 = .ok (.aload_n 0, 1) := by decide +kernel
theorem dX1_code_17 : decode cX1_code 17 = .ok (.getfield 23, 3) := by decide +kernel
theorem dX1_code_20 : decode cX1_code 20 = .ok (.iconst 2, 1) := by decide +kernel
theorem dX1_code_21 : decode cX1_code 21 = .ok (.iaload, 1) := by decide +kernel
theorem dX1_code_22 : decode cX1_code 22 = .ok (.bipush 6, 2) := by decide +kernel
theorem dX1_code_24 : decode cX1_code 24 = .ok (.aload_n 0, 1) := by decide +kernel
theorem dX1_code_25 : decode cX1_code 25 = .ok (.getfield 23, 3) := by decide +kernel
theorem dX1_code_28 : decode cX1_code 28 = .ok (.iconst 3, 1) := by decide +kernel
theorem dX1_code_29 : decode cX1_code 29 = .ok (.iaload, 1) := by decide +kernel
theorem dX1_code_30 : decode cX1_code 30 = .ok (.imul, 1) := by decide +kernel
theorem dX1_code_31 : decode cX1_code 31 = .ok (.iadd, 1) := by decide +kernel
theorem dX1_code_32 : decode cX1_code 32 = .ok (.imul, 1) := by decide +kernel
theorem dX1_code_33 : decode cX1_code 33 = .ok (.iadd, 1) := by decide +kernel
theorem dX1_code_34 : decode cX1_code 34 = .ok (.imul, 1) := by decide +kernel
theorem dX1_code_35 : decode cX1_code 35 = .ok (.iadd, 1) := by decide +kernel
theorem dX1_code_36 : decode cX1_code 36 = .ok (.ireturn, 1) := by decide +kernel
theorem dX1_placeAll_0 : decode cX1_placeAll 0 = .ok (.aload_n 0, 1) := by decide +kernel
theorem dX1_placeAll_1 : decode cX1_placeAll 1 = .ok (.getfield 26, 3) := by decide +kernel
theorem dX1_placeAll_4 : decode cX1_placeAll 4 = .ok (.iconst 0, 1) := by decide +kernel
theorem dX1_placeAll_5 : decode cX1_placeAll 5 = .ok (.invokestatic 100, 3) := by decide +kernel
theorem dX1_placeAll_8 : decode cX1_placeAll 8 = .ok (.iconst 0, 1) := by decide +kernel
theorem dX1_placeAll_9 : decode cX1_placeAll 9 = .ok (.istore_n 2, 1) := by decide +kernel
theorem dX1_placeAll_10 : decode cX1_placeAll 10 = .ok (.iload_n 2, 1) := by decide +kernel
theorem dX1_placeAll_11 : decode cX1_placeAll 11 = .ok (.aload_n 1, 1) := by decide +kernel
theorem dX1_placeAll_12 : decode cX1_placeAll 12 = .ok (.getfield 45, 3) := by decide +kernel
theorem dX1_placeAll_15 : decode cX1_placeAll 15 = .ok (.if_icmp .ge 40, 3) := by decide +kernel
theorem dX1_placeAll_18 : decode cX1_placeAll 18 = .ok (.aload_n 0, 1) := by decide +kernel
theorem dX1_placeAll_19 : decode cX1_placeAll 19 = .ok (.getfield 23, 3) := by decide +kernel
theorem dX1_placeAll_22 : decode cX1_placeAll 22 = .ok (.iload_n 2, 1) := by decide +kernel
theorem dX1_placeAll_23 : decode cX1_placeAll 23 = .ok (.iaload, 1) := by decide +kernel
theorem dX1_placeAll_24 : decode cX1_placeAll 24 = .ok (.ifCond .le 25, 3) := by decide +kernel
theorem dX1_placeAll_27 : decode cX1_placeAll 27 = .ok (.aload_n 0, 1) := by decide +kernel
theorem dX1_placeAll_28 : decode cX1_placeAll 28 = .ok (.getfield 26, 3) := by decide +kernel
theorem dX1_placeAll_31 : decode cX1_placeAll 31 = .ok (.aload_n 1, 1) := by decide +kernel
theorem dX1_placeAll_32 : decode cX1_placeAll 32 = .ok (.iload_n 2, 1) := by decide +kernel
theorem dX1_placeAll_33 : decode cX1_placeAll 33 = .ok (.aload_n 0, 1) := by decide +kernel
theorem dX1_placeAll_34 : decode cX1_placeAll 34 = .ok (.getfield 23, 3) := by decide +kernel
theorem dX1_placeAll_37 : decode cX1_placeAll 37 = .ok (.iload_n 2, 1) := by decide +kernel
theorem dX1_placeAll_38 : decode cX1_placeAll 38 = .ok (.iaload, 1) := by decide +kernel
theorem dX1_placeAll_39 : decode cX1_placeAll 39 = .ok (.invokevirtual 106, 3) := by decide +kernel
theorem dX1_placeAll_42 : decode cX1_placeAll 42 = .ok (.dup2, 1) := by decide +kernel
theorem dX1_placeAll_43 : decode cX1_placeAll 43 = .ok (.iaload, 1) := by decide +kernel
theorem dX1_placeAll_44 : decode cX1_placeAll 44 = .ok (.iconst 1, 1) := by decide +kernel
theorem dX1_placeAll_45 : decode cX1_placeAll 45 = .ok (.iload_n 2, 1) := by decide +kernel
theorem dX1_placeAll_46 : decode cX1_placeAll 46 = .ok (.ishl, 1) := by decide +kernel
theorem dX1_placeAll_47 : decode cX1_placeAll 47 = .ok (.ior, 1) := by decide +kernel
theorem dX1_placeAll_48 : decode cX1_placeAll 48 = .ok (.iastore, 1) := by decide +kernel
theorem dX1_placeAll_49 : decode cX1_placeAll 49 = .ok (.iinc 2 1, 3) := by decide +kernel
theorem dX1_placeAll_52 : decode cX1_placeAll 52 = .ok (.goto (-42), 3) := by decide +kernel
theorem dX1_placeAll_55 : decode cX1_placeAll 55 = .ok (.return_, 1) := by decide +kernel
theorem dX1_look_0 : decode cX1_look 0 = .ok (.iconst 0, 1) := by decide +kernel
theorem dX1_look_1 : decode cX1_look 1 = .ok (.istore_n 2, 1) := by decide +kernel
theorem dX1_look_2 : decode cX1_look 2 = .ok (.iload_n 2, 1) := by decide +kernel
theorem dX1_look_3 : decode cX1_look 3 = .ok (.iconst 4, 1) := by decide +kernel
theorem dX1_look_4 : decode cX1_look 4 = .ok (.if_icmp .ge 20, 3) := by decide +kernel
theorem dX1_look_7 : decode cX1_look 7 = .ok (.aload_n 0, 1) := by decide +kernel
theorem dX1_look_8 : decode cX1_look 8 = .ok (.getfield 23, 3) := by decide +kernel
theorem dX1_look_11 : decode cX1_look 11 = .ok (.iload_n 2, 1) := by decide +kernel
theorem dX1_look_12 : decode cX1_look 12 = .ok (.aload_n 1, 1) := by decide +kernel
theorem dX1_look_13 : decode cX1_look 13 = .ok (.iload_n 2, 1) := by decide +kernel
theorem dX1_look_14 : decode cX1_look 14 = .ok (.invokestatic 78, 3) := by decide +kernel
theorem dX1_look_17 : decode cX1_look 17 = .ok (.iastore, 1) := by decide +kernel
theorem dX1_look_18 : decode cX1_look 18 = .ok (.iinc 2 1, 3) := by decide +kernel
theorem dX1_look_21 : decode cX1_look 21 = .ok (.goto (-19), 3) := by decide +kernel
theorem dX1_look_24 : decode cX1_look 24 = .ok (.aload_n 0, 1) := by decide +kernel
theorem dX1_look_25 : decode cX1_look 25 = .ok (.aload_n 1, 1) := by decide +kernel
theorem dX1_look_26 : decode cX1_look 26 = .ok (.invokevirtual 86, 3) := by decide +kernel
theorem dX1_look_29 : decode cX1_look 29 = .ok (.return_, 1) := by decide +kernel
theorem dX1_canStep_0 : decode cX1_canStep 0 = .ok (.aload_n 0, 1) := by decide +kernel
theorem dX1_canStep_1 : decode cX1_canStep 1 = .ok (.getfield 23, 3) := by decide +kernel
theorem dX1_canStep_4 : decode cX1_canStep 4 = .ok (.iload_n 2, 1) := by decide +kernel
theorem dX1_canStep_5 : decode cX1_canStep 5 = .ok (.iaload, 1) := by decide +kernel
theorem dX1_canStep_6 : decode cX1_canStep 6 = .ok (.iconst 2, 1) := by decide +kernel
theorem dX1_canStep_7 : decode cX1_canStep 7 = .ok (.if_icmp .ge 19, 3) := by decide +kernel
theorem dX1_canStep_10 : decode cX1_canStep 10 = .ok (.aload_n 0, 1) := by decide +kernel
theorem dX1_canStep_11 : decode cX1_canStep 11 = .ok (.getfield 23, 3) := by decide +kernel
theorem dX1_canStep_14 : decode cX1_canStep 14 = .ok (.iload_n 2, 1) := by decide +kernel
theorem dX1_canStep_15 : decode cX1_canStep 15 = .ok (.iaload, 1) := by decide +kernel
theorem dX1_canStep_16 : decode cX1_canStep 16 = .ok (.iconst 1, 1) := by decide +kernel
theorem dX1_canStep_17 : decode cX1_canStep 17 = .ok (.if_icmp .ne 7, 3) := by decide +kernel
theorem dX1_canStep_20 : decode cX1_canStep 20 = .ok (.iconst 1, 1) := by decide +kernel
theorem dX1_canStep_21 : decode cX1_canStep 21 = .ok (.goto 4, 3) := by decide +kernel
theorem dX1_canStep_24 : decode cX1_canStep 24 = .ok (.iconst 0, 1) := by decide +kernel
theorem dX1_canStep_25 : decode cX1_canStep 25 = .ok (.ireturn, 1) := by decide +kernel
theorem dX1_canStep_26 : decode cX1_canStep 26 = .ok (.aload_n 1, 1) := by decide +kernel
theorem dX1_canStep_27 : decode cX1_canStep 27 = .ok (.iload_n 2, 1) := by decide +kernel
theorem dX1_canStep_28 : decode cX1_canStep 28 = .ok (.aload_n 0, 1) := by decide +kernel
theorem dX1_canStep_29 : decode cX1_canStep 29 = .ok (.getfield 23, 3) := by decide +kernel
theorem dX1_canStep_32 : decode cX1_canStep 32 = .ok (.iload_n 2, 1) := by decide +kernel
theorem dX1_canStep_33 : decode cX1_canStep 33 = .ok (.iaload, 1) := by decide +kernel
theorem dX1_canStep_34 : decode cX1_canStep 34 = .ok (.iconst 1, 1) := by decide +kernel
theorem dX1_canStep_35 : decode cX1_canStep 35 = .ok (.isub, 1) := by decide +kernel
theorem dX1_canStep_36 : decode cX1_canStep 36 = .ok (.invokevirtual 106, 3) := by decide +kernel
theorem dX1_canStep_39 : decode cX1_canStep 39 = .ok (.istore_n 3, 1) := by decide +kernel
theorem dX1_canStep_40 : decode cX1_canStep 40 = .ok (.aload_n 0, 1) := by decide +kernel
theorem dX1_canStep_41 : decode cX1_canStep 41 = .ok (.getfield 11, 3) := by decide +kernel
theorem dX1_canStep_44 : decode cX1_canStep 44 = .ok (.iload_n 3, 1) := by decide +kernel
theorem dX1_canStep_45 : decode cX1_canStep 45 = .ok (.bipush 16, 2) := by decide +kernel
theorem dX1_canStep_47 : decode cX1_canStep 47 = .ok (.imul, 1) := by decide +kernel
theorem dX1_canStep_48 : decode cX1_canStep 48 = .ok (.aload_n 0, 1) := by decide +kernel
theorem dX1_canStep_49 : decode cX1_canStep 49 = .ok (.getfield 26, 3) := by decide +kernel
theorem dX1_canStep_52 : decode cX1_canStep 52 = .ok (.iload_n 3, 1) := by decide +kernel
theorem dX1_canStep_53 : decode cX1_canStep 53 = .ok (.iaload, 1) := by decide +kernel
theorem dX1_canStep_54 : decode cX1_canStep 54 = .ok (.iconst 1, 1) := by decide +kernel
theorem dX1_canStep_55 : decode cX1_canStep 55 = .ok (.iload_n 2, 1) := by decide +kernel
theorem dX1_canStep_56 : decode cX1_canStep 56 = .ok (.ishl, 1) := by decide +kernel
theorem dX1_canStep_57 : decode cX1_canStep 57 = .ok (.ior, 1) := by decide +kernel
theorem dX1_canStep_58 : decode cX1_canStep 58 = .ok (.iadd, 1) := by decide +kernel
theorem dX1_canStep_59 : decode cX1_canStep 59 = .ok (.baload, 1) := by decide +kernel
theorem dX1_canStep_60 : decode cX1_canStep 60 = .ok (.ireturn, 1) := by decide +kernel
theorem dX1_endsBehind_0 : decode cX1_endsBehind 0 = .ok (.aload_n 0, 1) := by decide +kernel
theorem dX1_endsBehind_1 : decode cX1_endsBehind 1 = .ok (.getfield 23, 3) := by decide +kernel
theorem dX1_endsBehind_4 : decode cX1_endsBehind 4 = .ok (.iload_n 1, 1) := by decide +kernel
theorem dX1_endsBehind_5 : decode cX1_endsBehind 5 = .ok (.iaload, 1) := by decide +kernel
theorem dX1_endsBehind_6 : decode cX1_endsBehind 6 = .ok (.ifCond .le 21, 3) := by decide +kernel
theorem dX1_endsBehind_9 : decode cX1_endsBehind 9 = .ok (.aload_n 0, 1) := by decide +kernel
theorem dX1_endsBehind_10 : decode cX1_endsBehind 10 = .ok (.getfield 15, 3) := by decide +kernel
theorem dX1_endsBehind_13 : decode cX1_endsBehind 13 = .ok (.aload_n 0, 1) := by decide +kernel
theorem dX1_endsBehind_14 : decode cX1_endsBehind 14 = .ok (.invokevirtual 89, 3) := by decide +kernel
theorem dX1_endsBehind_17 : decode cX1_endsBehind 17 = .ok (.getstatic 97, 3) := by decide +kernel
theorem dX1_endsBehind_20 : decode cX1_endsBehind 20 = .ok (.iload_n 1, 1) := by decide +kernel
theorem dX1_endsBehind_21 : decode cX1_endsBehind 21 = .ok (.iaload, 1) := by decide +kernel
theorem dX1_endsBehind_22 : decode cX1_endsBehind 22 = .ok (.isub, 1) := by decide +kernel
theorem dX1_endsBehind_23 : decode cX1_endsBehind 23 = .ok (.iaload, 1) := by decide +kernel
theorem dX1_endsBehind_24 : decode cX1_endsBehind 24 = .ok (.goto 4, 3) := by decide +kernel
theorem dX1_endsBehind_27 : decode cX1_endsBehind 27 = .ok (.iconst 0, 1) := by decide +kernel
theorem dX1_endsBehind_28 : decode cX1_endsBehind 28 = .ok (.ireturn, 1) := by decide +kernel
theorem dX1_isSafeBehind_0 : decode cX1_isSafeBehind 0 = .ok (.aload_n 0, 1) := by decide +kernel
theorem dX1_isSafeBehind_1 : decode cX1_isSafeBehind 1 = .ok (.iload_n 1, 1) := by decide +kernel
theorem dX1_isSafeBehind_2 : decode cX1_isSafeBehind 2 = .ok (.invokevirtual 110, 3) := by decide +kernel
theorem dX1_isSafeBehind_5 : decode cX1_isSafeBehind 5 = .ok (.bipush 16, 2) := by decide +kernel
theorem dX1_isSafeBehind_7 : decode cX1_isSafeBehind 7 = .ok (.iand, 1) := by decide +kernel
theorem dX1_isSafeBehind_8 : decode cX1_isSafeBehind 8 = .ok (.ifCond .eq 7, 3) := by decide +kernel
theorem dX1_isSafeBehind_11 : decode cX1_isSafeBehind 11 = .ok (.iconst 1, 1) := by decide +kernel
theorem dX1_isSafeBehind_12 : decode cX1_isSafeBehind 12 = .ok (.goto 4, 3) := by decide +kernel
theorem dX1_isSafeBehind_15 : decode cX1_isSafeBehind 15 = .ok (.iconst 0, 1) := by decide +kernel
theorem dX1_isSafeBehind_16 : decode cX1_isSafeBehind 16 = .ok (.ireturn, 1) := by decide +kernel
theorem dX1_firstLostBehind_0 : decode cX1_firstLostBehind 0 = .ok (.aload_n 0, 1) := by decide +kernel
theorem dX1_firstLostBehind_1 : decode cX1_firstLostBehind 1 = .ok (.iload_n 2, 1) := by decide +kernel
theorem dX1_firstLostBehind_2 : decode cX1_firstLostBehind 2 = .ok (.invokevirtual 110, 3) := by decide +kernel
theorem dX1_firstLostBehind_5 : decode cX1_firstLostBehind 5 = .ok (.istore_n 3, 1) := by decide +kernel
theorem dX1_firstLostBehind_6 : decode cX1_firstLostBehind 6 = .ok (.iconst 0, 1) := by decide +kernel
theorem dX1_firstLostBehind_7 : decode cX1_firstLostBehind 7 = .ok (.istore 4, 2) := by decide +kernel
theorem dX1_firstLostBehind_9 : decode cX1_firstLostBehind 9 = .ok (.iload 4, 2) := by decide +kernel
theorem dX1_firstLostBehind_11 : decode cX1_firstLostBehind 11 = .ok (.aload_n 1, 1) := by decide +kernel
theorem dX1_firstLostBehind_12 : decode cX1_firstLostBehind 12 = .ok (.getfield 45, 3) := by decide +kernel
theorem dX1_firstLostBehind_15 : decode cX1_firstLostBehind 15 = .ok (.if_icmp .ge 21, 3) := by decide +kernel
theorem dX1_firstLostBehind_18 : decode cX1_firstLostBehind 18 = .ok (.iload_n 3, 1) := by decide +kernel
theorem dX1_firstLostBehind_19 : decode cX1_firstLostBehind 19 = .ok (.iload 4, 2) := by decide +kernel
theorem dX1_firstLostBehind_21 : decode cX1_firstLostBehind 21 = .ok (.ishr, 1) := by decide +kernel
theorem dX1_firstLostBehind_22 : decode cX1_firstLostBehind 22 = .ok (.iconst 1, 1) := by decide +kernel
theorem dX1_firstLostBehind_23 : decode cX1_firstLostBehind 23 = .ok (.iand, 1) := by decide +kernel
theorem dX1_firstLostBehind_24 : decode cX1_firstLostBehind 24 = .ok (.ifCond .ne 6, 3) := by decide +kernel
theorem dX1_firstLostBehind_27 : decode cX1_firstLostBehind 27 = .ok (.iload 4, 2) := by decide +kernel
theorem dX1_firstLostBehind_29 : decode cX1_firstLostBehind 29 = .ok (.ireturn, 1) := by decide +kernel
theorem dX1_firstLostBehind_30 : decode cX1_firstLostBehind 30 = .ok (.iinc 4 1, 3) := by decide +kernel
theorem dX1_firstLostBehind_33 : decode cX1_firstLostBehind 33 = .ok (.goto (-24), 3) := by decide +kernel
theorem dX1_firstLostBehind_36 : decode cX1_firstLostBehind 36 = .ok (.bipush (-4), 2) := by decide +kernel
theorem dX1_firstLostBehind_38 : decode cX1_firstLostBehind 38 = .ok (.ireturn, 1) := by decide +kernel
theorem dX1_firstAhead_0 : decode cX1_firstAhead 0 = .ok (.aload_n 1, 1) := by decide +kernel
theorem dX1_firstAhead_1 : decode cX1_firstAhead 1 = .ok (.iload_n 2, 1) := by decide +kernel
theorem dX1_firstAhead_2 : decode cX1_firstAhead 2 = .ok (.aload_n 0, 1) := by decide +kernel
theorem dX1_firstAhead_3 : decode cX1_firstAhead 3 = .ok (.getfield 23, 3) := by decide +kernel
theorem dX1_firstAhead_6 : decode cX1_firstAhead 6 = .ok (.iload_n 2, 1) := by decide +kernel
theorem dX1_firstAhead_7 : decode cX1_firstAhead 7 = .ok (.iaload, 1) := by decide +kernel
theorem dX1_firstAhead_8 : decode cX1_firstAhead 8 = .ok (.iconst 1, 1) := by decide +kernel
theorem dX1_firstAhead_9 : decode cX1_firstAhead 9 = .ok (.isub, 1) := by decide +kernel
theorem dX1_firstAhead_10 : decode cX1_firstAhead 10 = .ok (.invokevirtual 106, 3) := by decide +kernel
theorem dX1_firstAhead_13 : decode cX1_firstAhead 13 = .ok (.istore_n 3, 1) := by decide +kernel
theorem dX1_firstAhead_14 : decode cX1_firstAhead 14 = .ok (.iconst 0, 1) := by decide +kernel
theorem dX1_firstAhead_15 : decode cX1_firstAhead 15 = .ok (.istore 4, 2) := by decide +kernel
theorem dX1_firstAhead_17 : decode cX1_firstAhead 17 = .ok (.iload 4, 2) := by decide +kernel
theorem dX1_firstAhead_19 : decode cX1_firstAhead 19 = .ok (.aload_n 1, 1) := by decide +kernel
theorem dX1_firstAhead_20 : decode cX1_firstAhead 20 = .ok (.getfield 45, 3) := by decide +kernel
theorem dX1_firstAhead_23 : decode cX1_firstAhead 23 = .ok (.if_icmp .ge 39, 3) := by decide +kernel
theorem dX1_firstAhead_26 : decode cX1_firstAhead 26 = .ok (.aload_n 0, 1) := by decide +kernel
theorem dX1_firstAhead_27 : decode cX1_firstAhead 27 = .ok (.getfield 23, 3) := by decide +kernel
theorem dX1_firstAhead_30 : decode cX1_firstAhead 30 = .ok (.iload 4, 2) := by decide +kernel
theorem dX1_firstAhead_32 : decode cX1_firstAhead 32 = .ok (.iaload, 1) := by decide +kernel
theorem dX1_firstAhead_33 : decode cX1_firstAhead 33 = .ok (.ifCond .le 23, 3) := by decide +kernel
theorem dX1_firstAhead_36 : decode cX1_firstAhead 36 = .ok (.aload_n 1, 1) := by decide +kernel
theorem dX1_firstAhead_37 : decode cX1_firstAhead 37 = .ok (.iload 4, 2) := by decide +kernel
theorem dX1_firstAhead_39 : decode cX1_firstAhead 39 = .ok (.aload_n 0, 1) := by decide +kernel
theorem dX1_firstAhead_40 : decode cX1_firstAhead 40 = .ok (.getfield 23, 3) := by decide +kernel
theorem dX1_firstAhead_43 : decode cX1_firstAhead 43 = .ok (.iload 4, 2) := by decide +kernel
theorem dX1_firstAhead_45 : decode cX1_firstAhead 45 = .ok (.iaload, 1) := by decide +kernel
theorem dX1_firstAhead_46 : decode cX1_firstAhead 46 = .ok (.invokevirtual 106, 3) := by decide +kernel
theorem dX1_firstAhead_49 : decode cX1_firstAhead 49 = .ok (.iload_n 3, 1) := by decide +kernel
theorem dX1_firstAhead_50 : decode cX1_firstAhead 50 = .ok (.if_icmp .ne 6, 3) := by decide +kernel
theorem dX1_firstAhead_53 : decode cX1_firstAhead 53 = .ok (.iload 4, 2) := by decide +kernel
theorem dX1_firstAhead_55 : decode cX1_firstAhead 55 = .ok (.ireturn, 1) := by decide +kernel
theorem dX1_firstAhead_56 : decode cX1_firstAhead 56 = .ok (.iinc 4 1, 3) := by decide +kernel
theorem dX1_firstAhead_59 : decode cX1_firstAhead 59 = .ok (.goto (-42), 3) := by decide +kernel
theorem dX1_firstAhead_62 : decode cX1_firstAhead 62 = .ok (.bipush (-4), 2) := by decide +kernel
theorem dX1_firstAhead_64 : decode cX1_firstAhead 64 = .ok (.ireturn, 1) := by decide +kernel
theorem dX1_holdsAll_0 : decode cX1_holdsAll 0 = .ok (.aload_n 0, 1) := by decide +kernel
theorem dX1_holdsAll_1 : decode cX1_holdsAll 1 = .ok (.aload_n 1, 1) := by decide +kernel
theorem dX1_holdsAll_2 : decode cX1_holdsAll 2 = .ok (.invokevirtual 75, 3) := by decide +kernel
theorem dX1_holdsAll_5 : decode cX1_holdsAll 5 = .ok (.iconst 0, 1) := by decide +kernel
theorem dX1_holdsAll_6 : decode cX1_holdsAll 6 = .ok (.istore_n 2, 1) := by decide +kernel
theorem dX1_holdsAll_7 : decode cX1_holdsAll 7 = .ok (.iload_n 2, 1) := by decide +kernel
theorem dX1_holdsAll_8 : decode cX1_holdsAll 8 = .ok (.aload_n 1, 1) := by decide +kernel
theorem dX1_holdsAll_9 : decode cX1_holdsAll 9 = .ok (.getfield 39, 3) := by decide +kernel
theorem dX1_holdsAll_12 : decode cX1_holdsAll 12 = .ok (.if_icmp .ge 30, 3) := by decide +kernel
theorem dX1_holdsAll_15 : decode cX1_holdsAll 15 = .ok (.aload_n 0, 1) := by decide +kernel
theorem dX1_holdsAll_16 : decode cX1_holdsAll 16 = .ok (.getfield 11, 3) := by decide +kernel
theorem dX1_holdsAll_19 : decode cX1_holdsAll 19 = .ok (.iload_n 2, 1) := by decide +kernel
theorem dX1_holdsAll_20 : decode cX1_holdsAll 20 = .ok (.bipush 16, 2) := by decide +kernel
theorem dX1_holdsAll_22 : decode cX1_holdsAll 22 = .ok (.imul, 1) := by decide +kernel
theorem dX1_holdsAll_23 : decode cX1_holdsAll 23 = .ok (.aload_n 0, 1) := by decide +kernel
theorem dX1_holdsAll_24 : decode cX1_holdsAll 24 = .ok (.getfield 26, 3) := by decide +kernel
theorem dX1_holdsAll_27 : decode cX1_holdsAll 27 = .ok (.iload_n 2, 1) := by decide +kernel
theorem dX1_holdsAll_28 : decode cX1_holdsAll 28 = .ok (.iaload, 1) := by decide +kernel
theorem dX1_holdsAll_29 : decode cX1_holdsAll 29 = .ok (.iadd, 1) := by decide +kernel
theorem dX1_holdsAll_30 : decode cX1_holdsAll 30 = .ok (.baload, 1) := by decide +kernel
theorem dX1_holdsAll_31 : decode cX1_holdsAll 31 = .ok (.ifCond .ne 5, 3) := by decide +kernel
theorem dX1_holdsAll_34 : decode cX1_holdsAll 34 = .ok (.iconst 0, 1) := by decide +kernel
theorem dX1_holdsAll_35 : decode cX1_holdsAll 35 = .ok (.ireturn, 1) := by decide +kernel
theorem dX1_holdsAll_36 : decode cX1_holdsAll 36 = .ok (.iinc 2 1, 3) := by decide +kernel
theorem dX1_holdsAll_39 : decode cX1_holdsAll 39 = .ok (.goto (-32), 3) := by decide +kernel
theorem dX1_holdsAll_42 : decode cX1_holdsAll 42 = .ok (.iconst 1, 1) := by decide +kernel
theorem dX1_holdsAll_43 : decode cX1_holdsAll 43 = .ok (.ireturn, 1) := by decide +kernel
theorem dX1_isSafe_0 : decode cX1_isSafe 0 = .ok (.aload_n 0, 1) := by decide +kernel
theorem dX1_isSafe_1 : decode cX1_isSafe 1 = .ok (.getfield 15, 3) := by decide +kernel
theorem dX1_isSafe_4 : decode cX1_isSafe 4 = .ok (.aload_n 0, 1) := by decide +kernel
theorem dX1_isSafe_5 : decode cX1_isSafe 5 = .ok (.invokevirtual 89, 3) := by decide +kernel
theorem dX1_isSafe_8 : decode cX1_isSafe 8 = .ok (.iaload, 1) := by decide +kernel
theorem dX1_isSafe_9 : decode cX1_isSafe 9 = .ok (.bipush 16, 2) := by decide +kernel
theorem dX1_isSafe_11 : decode cX1_isSafe 11 = .ok (.iand, 1) := by decide +kernel
theorem dX1_isSafe_12 : decode cX1_isSafe 12 = .ok (.ifCond .eq 7, 3) := by decide +kernel
theorem dX1_isSafe_15 : decode cX1_isSafe 15 = .ok (.iconst 1, 1) := by decide +kernel
theorem dX1_isSafe_16 : decode cX1_isSafe 16 = .ok (.goto 4, 3) := by decide +kernel
theorem dX1_isSafe_19 : decode cX1_isSafe 19 = .ok (.iconst 0, 1) := by decide +kernel
theorem dX1_isSafe_20 : decode cX1_isSafe 20 = .ok (.ireturn, 1) := by decide +kernel
theorem dX1_reached_0 : decode cX1_reached 0 = .ok (.aload_n 0, 1) := by decide +kernel
theorem dX1_reached_1 : decode cX1_reached 1 = .ok (.getfield 19, 3) := by decide +kernel
theorem dX1_reached_4 : decode cX1_reached 4 = .ok (.iconst 0, 1) := by decide +kernel
theorem dX1_reached_5 : decode cX1_reached 5 = .ok (.invokestatic 114, 3) := by decide +kernel
theorem dX1_reached_8 : decode cX1_reached 8 = .ok (.aload_n 0, 1) := by decide +kernel
theorem dX1_reached_9 : decode cX1_reached 9 = .ok (.aload_n 1, 1) := by decide +kernel
theorem dX1_reached_10 : decode cX1_reached 10 = .ok (.invokevirtual 75, 3) := by decide +kernel
theorem dX1_reached_13 : decode cX1_reached 13 = .ok (.aload_n 0, 1) := by decide +kernel
theorem dX1_reached_14 : decode cX1_reached 14 = .ok (.invokevirtual 89, 3) := by decide +kernel
theorem dX1_reached_17 : decode cX1_reached 17 = .ok (.istore_n 3, 1) := by decide +kernel
theorem dX1_reached_18 : decode cX1_reached 18 = .ok (.aload_n 0, 1) := by decide +kernel
theorem dX1_reached_19 : decode cX1_reached 19 = .ok (.getfield 19, 3) := by decide +kernel
theorem dX1_reached_22 : decode cX1_reached 22 = .ok (.iload_n 3, 1) := by decide +kernel
theorem dX1_reached_23 : decode cX1_reached 23 = .ok (.iconst 1, 1) := by decide +kernel
theorem dX1_reached_24 : decode cX1_reached 24 = .ok (.bastore, 1) := by decide +kernel
theorem dX1_reached_25 : decode cX1_reached 25 = .ok (.iconst 0, 1) := by decide +kernel
theorem dX1_reached_26 : decode cX1_reached 26 = .ok (.istore 4, 2) := by decide +kernel
theorem dX1_reached_28 : decode cX1_reached 28 = .ok (.iload_n 3, 1) := by decide +kernel
theorem dX1_reached_29 : decode cX1_reached 29 = .ok (.istore 5, 2) := by decide +kernel
theorem dX1_reached_31 : decode cX1_reached 31 = .ok (.iload 5, 2) := by decide +kernel
theorem dX1_reached_33 : decode cX1_reached 33 = .ok (.ifCond .lt 53, 3) := by decide +kernel
theorem dX1_reached_36 : decode cX1_reached 36 = .ok (.aload_n 0, 1) := by decide +kernel
theorem dX1_reached_37 : decode cX1_reached 37 = .ok (.getfield 19, 3) := by decide +kernel
theorem dX1_reached_40 : decode cX1_reached 40 = .ok (.iload 5, 2) := by decide +kernel
theorem dX1_reached_42 : decode cX1_reached 42 = .ok (.baload, 1) := by decide +kernel
theorem dX1_reached_43 : decode cX1_reached 43 = .ok (.ifCond .eq 37, 3) := by decide +kernel
theorem dX1_reached_46 : decode cX1_reached 46 = .ok (.iload 4, 2) := by decide +kernel
theorem dX1_reached_48 : decode cX1_reached 48 = .ok (.iload_n 2, 1) := by decide +kernel
theorem dX1_reached_49 : decode cX1_reached 49 = .ok (.ifCond .eq 16, 3) := by decide +kernel
theorem dX1_reached_52 : decode cX1_reached 52 = .ok (.aload_n 0, 1) := by decide +kernel
theorem dX1_reached_53 : decode cX1_reached 53 = .ok (.getfield 15, 3) := by decide +kernel
theorem dX1_reached_56 : decode cX1_reached 56 = .ok (.iload 5, 2) := by decide +kernel
theorem dX1_reached_58 : decode cX1_reached 58 = .ok (.iaload, 1) := by decide +kernel
theorem dX1_reached_59 : decode cX1_reached 59 = .ok (.bipush 16, 2) := by decide +kernel
theorem dX1_reached_61 : decode cX1_reached 61 = .ok (.iand, 1) := by decide +kernel
theorem dX1_reached_62 : decode cX1_reached 62 = .ok (.ifCond .eq 7, 3) := by decide +kernel
theorem dX1_reached_65 : decode cX1_reached 65 = .ok (.iconst 1, 1) := by decide +kernel
theorem dX1_reached_66 : decode cX1_reached 66 = .ok (.goto 4, 3) := by decide +kernel
theorem dX1_reached_69 : decode cX1_reached 69 = .ok (.iconst 0, 1) := by decide +kernel
theorem dX1_reached_70 : decode cX1_reached 70 = .ok (.iadd, 1) := by decide +kernel
theorem dX1_reached_71 : decode cX1_reached 71 = .ok (.istore 4, 2) := by decide +kernel
theorem dX1_reached_73 : decode cX1_reached 73 = .ok (.aload_n 0, 1) := by decide +kernel
theorem dX1_reached_74 : decode cX1_reached 74 = .ok (.aload_n 1, 1) := by decide +kernel
theorem dX1_reached_75 : decode cX1_reached 75 = .ok (.iload 5, 2) := by decide +kernel
theorem dX1_reached_77 : decode cX1_reached 77 = .ok (.invokevirtual 117, 3) := by decide +kernel
theorem dX1_reached_80 : decode cX1_reached 80 = .ok (.iinc 5 (-1), 3) := by decide +kernel
theorem dX1_reached_83 : decode cX1_reached 83 = .ok (.goto (-52), 3) := by decide +kernel
theorem dX1_reached_86 : decode cX1_reached 86 = .ok (.iload 4, 2) := by decide +kernel
theorem dX1_reached_88 : decode cX1_reached 88 = .ok (.ireturn, 1) := by decide +kernel
theorem dX1_markNext_0 : decode cX1_markNext 0 = .ok (.iconst 0, 1) := by decide +kernel
theorem dX1_markNext_1 : decode cX1_markNext 1 = .ok (.istore_n 3, 1) := by decide +kernel
theorem dX1_markNext_2 : decode cX1_markNext 2 = .ok (.iload_n 3, 1) := by decide +kernel
theorem dX1_markNext_3 : decode cX1_markNext 3 = .ok (.iconst 4, 1) := by decide +kernel
theorem dX1_markNext_4 : decode cX1_markNext 4 = .ok (.if_icmp .ge 25, 3) := by decide +kernel
theorem dX1_markNext_7 : decode cX1_markNext 7 = .ok (.aload_n 0, 1) := by decide +kernel
theorem dX1_markNext_8 : decode cX1_markNext 8 = .ok (.getfield 23, 3) := by decide +kernel
theorem dX1_markNext_11 : decode cX1_markNext 11 = .ok (.iload_n 3, 1) := by decide +kernel
theorem dX1_markNext_12 : decode cX1_markNext 12 = .ok (.iload_n 2, 1) := by decide +kernel
theorem dX1_markNext_13 : decode cX1_markNext 13 = .ok (.getstatic 97, 3) := by decide +kernel
theorem dX1_markNext_16 : decode cX1_markNext 16 = .ok (.iload_n 3, 1) := by decide +kernel
theorem dX1_markNext_17 : decode cX1_markNext 17 = .ok (.iaload, 1) := by decide +kernel
theorem dX1_markNext_18 : decode cX1_markNext 18 = .ok (.idiv, 1) := by decide +kernel
theorem dX1_markNext_19 : decode cX1_markNext 19 = .ok (.bipush 6, 2) := by decide +kernel
theorem dX1_markNext_21 : decode cX1_markNext 21 = .ok (.irem, 1) := by decide +kernel
theorem dX1_markNext_22 : decode cX1_markNext 22 = .ok (.iastore, 1) := by decide +kernel
theorem dX1_markNext_23 : decode cX1_markNext 23 = .ok (.iinc 3 1, 3) := by decide +kernel
theorem dX1_markNext_26 : decode cX1_markNext 26 = .ok (.goto (-24), 3) := by decide +kernel
theorem dX1_markNext_29 : decode cX1_markNext 29 = .ok (.aload_n 0, 1) := by decide +kernel
theorem dX1_markNext_30 : decode cX1_markNext 30 = .ok (.aload_n 1, 1) := by decide +kernel
theorem dX1_markNext_31 : decode cX1_markNext 31 = .ok (.invokevirtual 86, 3) := by decide +kernel
theorem dX1_markNext_34 : decode cX1_markNext 34 = .ok (.iconst 0, 1) := by decide +kernel
theorem dX1_markNext_35 : decode cX1_markNext 35 = .ok (.istore_n 3, 1) := by decide +kernel
theorem dX1_markNext_36 : decode cX1_markNext 36 = .ok (.iload_n 3, 1) := by decide +kernel
theorem dX1_markNext_37 : decode cX1_markNext 37 = .ok (.aload_n 1, 1) := by decide +kernel
theorem dX1_markNext_38 : decode cX1_markNext 38 = .ok (.getfield 45, 3) := by decide +kernel
theorem dX1_markNext_41 : decode cX1_markNext 41 = .ok (.if_icmp .ge 31, 3) := by decide +kernel
theorem dX1_markNext_44 : decode cX1_markNext 44 = .ok (.aload_n 0, 1) := by decide +kernel
theorem dX1_markNext_45 : decode cX1_markNext 45 = .ok (.aload_n 1, 1) := by decide +kernel
theorem dX1_markNext_46 : decode cX1_markNext 46 = .ok (.iload_n 3, 1) := by decide +kernel
theorem dX1_markNext_47 : decode cX1_markNext 47 = .ok (.invokevirtual 93, 3) := by decide +kernel
theorem dX1_markNext_50 : decode cX1_markNext 50 = .ok (.ifCond .eq 16, 3) := by decide +kernel
theorem dX1_markNext_53 : decode cX1_markNext 53 = .ok (.aload_n 0, 1) := by decide +kernel
theorem dX1_markNext_54 : decode cX1_markNext 54 = .ok (.getfield 19, 3) := by decide +kernel
theorem dX1_markNext_57 : decode cX1_markNext 57 = .ok (.iload_n 2, 1) := by decide +kernel
theorem dX1_markNext_58 : decode cX1_markNext 58 = .ok (.getstatic 97, 3) := by decide +kernel
theorem dX1_markNext_61 : decode cX1_markNext 61 = .ok (.iload_n 3, 1) := by decide +kernel
theorem dX1_markNext_62 : decode cX1_markNext 62 = .ok (.iaload, 1) := by decide +kernel
theorem dX1_markNext_63 : decode cX1_markNext 63 = .ok (.isub, 1) := by decide +kernel
theorem dX1_markNext_64 : decode cX1_markNext 64 = .ok (.iconst 1, 1) := by decide +kernel
theorem dX1_markNext_65 : decode cX1_markNext 65 = .ok (.bastore, 1) := by decide +kernel
theorem dX1_markNext_66 : decode cX1_markNext 66 = .ok (.iinc 3 1, 3) := by decide +kernel
theorem dX1_markNext_69 : decode cX1_markNext 69 = .ok (.goto (-33), 3) := by decide +kernel
theorem dX1_markNext_72 : decode cX1_markNext 72 = .ok (.return_, 1) := by decide +kernel
theorem dX1_goOneByOne_0 : decode cX1_goOneByOne 0 = .ok (.aload_n 0, 1) := by decide +kernel
theorem dX1_goOneByOne_1 : decode cX1_goOneByOne 1 = .ok (.aload_n 1, 1) := by decide +kernel
theorem dX1_goOneByOne_2 : decode cX1_goOneByOne 2 = .ok (.invokevirtual 75, 3) := by decide +kernel
theorem dX1_goOneByOne_5 : decode cX1_goOneByOne 5 = .ok (.iconst 0, 1) := by decide +kernel
theorem dX1_goOneByOne_6 : decode cX1_goOneByOne 6 = .ok (.istore_n 2, 1) := by decide +kernel
theorem dX1_goOneByOne_7 : decode cX1_goOneByOne 7 = .ok (.iconst 0, 1) := by decide +kernel
theorem dX1_goOneByOne_8 : decode cX1_goOneByOne 8 = .ok (.istore_n 3, 1) := by decide +kernel
theorem dX1_goOneByOne_9 : decode cX1_goOneByOne 9 = .ok (.iload_n 3, 1) := by decide +kernel
theorem dX1_goOneByOne_10 : decode cX1_goOneByOne 10 = .ok (.aload_n 1, 1) := by decide +kernel
theorem dX1_goOneByOne_11 : decode cX1_goOneByOne 11 = .ok (.getfield 45, 3) := by decide +kernel
theorem dX1_goOneByOne_14 : decode cX1_goOneByOne 14 = .ok (.if_icmp .ge 34, 3) := by decide +kernel
theorem dX1_goOneByOne_17 : decode cX1_goOneByOne 17 = .ok (.aload_n 0, 1) := by decide +kernel
theorem dX1_goOneByOne_18 : decode cX1_goOneByOne 18 = .ok (.aload_n 1, 1) := by decide +kernel
theorem dX1_goOneByOne_19 : decode cX1_goOneByOne 19 = .ok (.invokevirtual 121, 3) := by decide +kernel
theorem dX1_goOneByOne_22 : decode cX1_goOneByOne 22 = .ok (.istore 4, 2) := by decide +kernel
theorem dX1_goOneByOne_24 : decode cX1_goOneByOne 24 = .ok (.iload 4, 2) := by decide +kernel
theorem dX1_goOneByOne_26 : decode cX1_goOneByOne 26 = .ok (.ifCond .ge 5, 3) := by decide +kernel
theorem dX1_goOneByOne_29 : decode cX1_goOneByOne 29 = .ok (.iload_n 2, 1) := by decide +kernel
theorem dX1_goOneByOne_30 : decode cX1_goOneByOne 30 = .ok (.ireturn, 1) := by decide +kernel
theorem dX1_goOneByOne_31 : decode cX1_goOneByOne 31 = .ok (.aload_n 0, 1) := by decide +kernel
theorem dX1_goOneByOne_32 : decode cX1_goOneByOne 32 = .ok (.getfield 29, 3) := by decide +kernel
theorem dX1_goOneByOne_35 : decode cX1_goOneByOne 35 = .ok (.iload_n 2, 1) := by decide +kernel
theorem dX1_goOneByOne_36 : decode cX1_goOneByOne 36 = .ok (.iload 4, 2) := by decide +kernel
theorem dX1_goOneByOne_38 : decode cX1_goOneByOne 38 = .ok (.iastore, 1) := by decide +kernel
theorem dX1_goOneByOne_39 : decode cX1_goOneByOne 39 = .ok (.iinc 2 1, 3) := by decide +kernel
theorem dX1_goOneByOne_42 : decode cX1_goOneByOne 42 = .ok (.iinc 3 1, 3) := by decide +kernel
theorem dX1_goOneByOne_45 : decode cX1_goOneByOne 45 = .ok (.goto (-36), 3) := by decide +kernel
theorem dX1_goOneByOne_48 : decode cX1_goOneByOne 48 = .ok (.iload_n 2, 1) := by decide +kernel
theorem dX1_goOneByOne_49 : decode cX1_goOneByOne 49 = .ok (.ireturn, 1) := by decide +kernel
theorem dX1_firstToGoAlone_0 : decode cX1_firstToGoAlone 0 = .ok (.iconst 0, 1) := by decide +kernel
theorem dX1_firstToGoAlone_1 : decode cX1_firstToGoAlone 1 = .ok (.istore_n 2, 1) := by decide +kernel
theorem dX1_firstToGoAlone_2 : decode cX1_firstToGoAlone 2 = .ok (.iload_n 2, 1) := by decide +kernel
theorem dX1_firstToGoAlone_3 : decode cX1_firstToGoAlone 3 = .ok (.aload_n 1, 1) := by decide +kernel
theorem dX1_firstToGoAlone_4 : decode cX1_firstToGoAlone 4 = .ok (.getfield 45, 3) := by decide +kernel
theorem dX1_firstToGoAlone_7 : decode cX1_firstToGoAlone 7 = .ok (.if_icmp .ge 29, 3) := by decide +kernel
theorem dX1_firstToGoAlone_10 : decode cX1_firstToGoAlone 10 = .ok (.aload_n 0, 1) := by decide +kernel
theorem dX1_firstToGoAlone_11 : decode cX1_firstToGoAlone 11 = .ok (.getfield 23, 3) := by decide +kernel
theorem dX1_firstToGoAlone_14 : decode cX1_firstToGoAlone 14 = .ok (.iload_n 2, 1) := by decide +kernel
theorem dX1_firstToGoAlone_15 : decode cX1_firstToGoAlone 15 = .ok (.iaload, 1) := by decide +kernel
theorem dX1_firstToGoAlone_16 : decode cX1_firstToGoAlone 16 = .ok (.ifCond .le 14, 3) := by decide +kernel
theorem dX1_firstToGoAlone_19 : decode cX1_firstToGoAlone 19 = .ok (.aload_n 0, 1) := by decide +kernel
theorem dX1_firstToGoAlone_20 : decode cX1_firstToGoAlone 20 = .ok (.aload_n 1, 1) := by decide +kernel
theorem dX1_firstToGoAlone_21 : decode cX1_firstToGoAlone 21 = .ok (.iload_n 2, 1) := by decide +kernel
theorem dX1_firstToGoAlone_22 : decode cX1_firstToGoAlone 22 = .ok (.invokevirtual 125, 3) := by decide +kernel
theorem dX1_firstToGoAlone_25 : decode cX1_firstToGoAlone 25 = .ok (.ifCond .eq 5, 3) := by decide +kernel
theorem dX1_firstToGoAlone_28 : decode cX1_firstToGoAlone 28 = .ok (.iload_n 2, 1) := by decide +kernel
theorem dX1_firstToGoAlone_29 : decode cX1_firstToGoAlone 29 = .ok (.ireturn, 1) := by decide +kernel
theorem dX1_firstToGoAlone_30 : decode cX1_firstToGoAlone 30 = .ok (.iinc 2 1, 3) := by decide +kernel
theorem dX1_firstToGoAlone_33 : decode cX1_firstToGoAlone 33 = .ok (.goto (-31), 3) := by decide +kernel
theorem dX1_firstToGoAlone_36 : decode cX1_firstToGoAlone 36 = .ok (.bipush (-4), 2) := by decide +kernel
theorem dX1_firstToGoAlone_38 : decode cX1_firstToGoAlone 38 = .ok (.ireturn, 1) := by decide +kernel
theorem dX1_goesAlone_0 : decode cX1_goesAlone 0 = .ok (.aload_n 0, 1) := by decide +kernel
theorem dX1_goesAlone_1 : decode cX1_goesAlone 1 = .ok (.getfield 23, 3) := by decide +kernel
theorem dX1_goesAlone_4 : decode cX1_goesAlone 4 = .ok (.iload_n 2, 1) := by decide +kernel
theorem dX1_goesAlone_5 : decode cX1_goesAlone 5 = .ok (.iaload, 1) := by decide +kernel
theorem dX1_goesAlone_6 : decode cX1_goesAlone 6 = .ok (.istore_n 3, 1) := by decide +kernel
theorem dX1_goesAlone_7 : decode cX1_goesAlone 7 = .ok (.iconst 0, 1) := by decide +kernel
theorem dX1_goesAlone_8 : decode cX1_goesAlone 8 = .ok (.istore 4, 2) := by decide +kernel
theorem dX1_goesAlone_10 : decode cX1_goesAlone 10 = .ok (.iload 4, 2) := by decide +kernel
theorem dX1_goesAlone_12 : decode cX1_goesAlone 12 = .ok (.iload_n 3, 1) := by decide +kernel
theorem dX1_goesAlone_13 : decode cX1_goesAlone 13 = .ok (.if_icmp .ge 28, 3) := by decide +kernel
theorem dX1_goesAlone_16 : decode cX1_goesAlone 16 = .ok (.aload_n 0, 1) := by decide +kernel
theorem dX1_goesAlone_17 : decode cX1_goesAlone 17 = .ok (.aload_n 1, 1) := by decide +kernel
theorem dX1_goesAlone_18 : decode cX1_goesAlone 18 = .ok (.iload_n 2, 1) := by decide +kernel
theorem dX1_goesAlone_19 : decode cX1_goesAlone 19 = .ok (.invokevirtual 93, 3) := by decide +kernel
theorem dX1_goesAlone_22 : decode cX1_goesAlone 22 = .ok (.ifCond .eq 19, 3) := by decide +kernel
theorem dX1_goesAlone_25 : decode cX1_goesAlone 25 = .ok (.aload_n 0, 1) := by decide +kernel
theorem dX1_goesAlone_26 : decode cX1_goesAlone 26 = .ok (.getfield 23, 3) := by decide +kernel
theorem dX1_goesAlone_29 : decode cX1_goesAlone 29 = .ok (.iload_n 2, 1) := by decide +kernel
theorem dX1_goesAlone_30 : decode cX1_goesAlone 30 = .ok (.dup2, 1) := by decide +kernel
theorem dX1_goesAlone_31 : decode cX1_goesAlone 31 = .ok (.iaload, 1) := by decide +kernel
theorem dX1_goesAlone_32 : decode cX1_goesAlone 32 = .ok (.iconst 1, 1) := by decide +kernel
theorem dX1_goesAlone_33 : decode cX1_goesAlone 33 = .ok (.isub, 1) := by decide +kernel
theorem dX1_goesAlone_34 : decode cX1_goesAlone 34 = .ok (.iastore, 1) := by decide +kernel
theorem dX1_goesAlone_35 : decode cX1_goesAlone 35 = .ok (.iinc 4 1, 3) := by decide +kernel
theorem dX1_goesAlone_38 : decode cX1_goesAlone 38 = .ok (.goto (-28), 3) := by decide +kernel
theorem dX1_goesAlone_41 : decode cX1_goesAlone 41 = .ok (.aload_n 0, 1) := by decide +kernel
theorem dX1_goesAlone_42 : decode cX1_goesAlone 42 = .ok (.getfield 23, 3) := by decide +kernel
theorem dX1_goesAlone_45 : decode cX1_goesAlone 45 = .ok (.iload_n 2, 1) := by decide +kernel
theorem dX1_goesAlone_46 : decode cX1_goesAlone 46 = .ok (.iaload, 1) := by decide +kernel
theorem dX1_goesAlone_47 : decode cX1_goesAlone 47 = .ok (.ifCond .ne 7, 3) := by decide +kernel
theorem dX1_goesAlone_50 : decode cX1_goesAlone 50 = .ok (.iconst 1, 1) := by decide +kernel
theorem dX1_goesAlone_51 : decode cX1_goesAlone 51 = .ok (.goto 4, 3) := by decide +kernel
theorem dX1_goesAlone_54 : decode cX1_goesAlone 54 = .ok (.iconst 0, 1) := by decide +kernel
theorem dX1_goesAlone_55 : decode cX1_goesAlone 55 = .ok (.istore 4, 2) := by decide +kernel
theorem dX1_goesAlone_57 : decode cX1_goesAlone 57 = .ok (.iload 4, 2) := by decide +kernel
theorem dX1_goesAlone_59 : decode cX1_goesAlone 59 = .ok (.ifCond .ne 10, 3) := by decide +kernel
theorem dX1_goesAlone_62 : decode cX1_goesAlone 62 = .ok (.aload_n 0, 1) := by decide +kernel
theorem dX1_goesAlone_63 : decode cX1_goesAlone 63 = .ok (.getfield 23, 3) := by decide +kernel
theorem dX1_goesAlone_66 : decode cX1_goesAlone 66 = .ok (.iload_n 2, 1) := by decide +kernel
theorem dX1_goesAlone_67 : decode cX1_goesAlone 67 = .ok (.iload_n 3, 1) := by decide +kernel
theorem dX1_goesAlone_68 : decode cX1_goesAlone 68 = .ok (.iastore, 1) := by decide +kernel
theorem dX1_goesAlone_69 : decode cX1_goesAlone 69 = .ok (.aload_n 0, 1) := by decide +kernel
theorem dX1_goesAlone_70 : decode cX1_goesAlone 70 = .ok (.aload_n 1, 1) := by decide +kernel
theorem dX1_goesAlone_71 : decode cX1_goesAlone 71 = .ok (.invokevirtual 86, 3) := by decide +kernel
theorem dX1_goesAlone_74 : decode cX1_goesAlone 74 = .ok (.iload 4, 2) := by decide +kernel
theorem dX1_goesAlone_76 : decode cX1_goesAlone 76 = .ok (.ireturn, 1) := by decide +kernel
end
section
theorem dX2_init_0 : decode cX2_init 0 = .ok (.aload_n 0, 1) := by decide +kernel
theorem dX2_init_1 : decode cX2_init 1 = .ok (.invokespecial 3, 3) := by decide +kernel
theorem dX2_init_4 : decode cX2_init 4 = .ok (.aload_n 0, 1) := by decide +kernel
theorem dX2_init_5 : decode cX2_init 5 = .ok (.sipush 160, 3) := by decide +kernel
theorem dX2_init_8 : decode cX2_init 8 = .ok (.newarray .byte, 2) := by decide +kernel
theorem dX2_init_10 : decode cX2_init 10 = .ok (.putfield 9, 3) := by decide +kernel
theorem dX2_init_13 : decode cX2_init 13 = .ok (.return_, 1) := by decide +kernel
theorem dX2_readInto_0 : decode cX2_readInto 0 = .ok (.aload_n 1, 1) := by decide +kernel
theorem dX2_readInto_1 : decode cX2_readInto 1 = .ok (.invokevirtual 15, 3) := by decide +kernel
theorem dX2_readInto_4 : decode cX2_readInto 4 = .ok (.aload_n 0, 1) := by decide +kernel
theorem dX2_readInto_5 : decode cX2_readInto 5 = .ok (.iconst 0, 1) := by decide +kernel
theorem dX2_readInto_6 : decode cX2_readInto 6 = .ok (.putfield 20, 3) := by decide +kernel
theorem dX2_readInto_9 : decode cX2_readInto 9 = .ok (.aload_n 0, 1) := by decide +kernel
theorem dX2_readInto_10 : decode cX2_readInto 10 = .ok (.iconst 0, 1) := by decide +kernel
theorem dX2_readInto_11 : decode cX2_readInto 11 = .ok (.putfield 24, 3) := by decide +kernel
theorem dX2_readInto_14 : decode cX2_readInto 14 = .ok (.aload_n 0, 1) := by decide +kernel
theorem dX2_readInto_15 : decode cX2_readInto 15 = .ok (.iconst 0, 1) := by decide +kernel
theorem dX2_readInto_16 : decode cX2_readInto 16 = .ok (.putfield 27, 3) := by decide +kernel
theorem dX2_readInto_19 : decode cX2_readInto 19 = .ok (.iconst 0, 1) := by decide +kernel
theorem dX2_readInto_20 : decode cX2_readInto 20 = .ok (.istore_n 2, 1) := by decide +kernel
theorem dX2_readInto_21 : decode cX2_readInto 21 = .ok (.iconst 0, 1) := by decide +kernel
theorem dX2_readInto_22 : decode cX2_readInto 22 = .ok (.istore_n 3, 1) := by decide +kernel
theorem dX2_readInto_23 : decode cX2_readInto 23 = .ok (.iload_n 3, 1) := by decide +kernel
theorem dX2_readInto_24 : decode cX2_readInto 24 = .ok (.sipush 160, 3) := by decide +kernel
theorem dX2_readInto_27 : decode cX2_readInto 27 = .ok (.if_icmp .gt 36, 3) := by decide +kernel
theorem dX2_readInto_30 : decode cX2_readInto 30 = .ok (.aload_n 0, 1) := by decide +kernel
theorem dX2_readInto_31 : decode cX2_readInto 31 = .ok (.invokevirtual 30, 3) := by decide +kernel
theorem dX2_readInto_34 : decode cX2_readInto 34 = .ok (.ifCond .eq 18, 3) := by decide +kernel
theorem dX2_readInto_37 : decode cX2_readInto 37 = .ok (.aload_n 0, 1) := by decide +kernel
theorem dX2_readInto_38 : decode cX2_readInto 38 = .ok (.getfield 34, 3) := by decide +kernel
theorem dX2_readInto_41 : decode cX2_readInto 41 = .ok (.ifCond .eq 11, 3) := by decide +kernel
theorem dX2_readInto_44 : decode cX2_readInto 44 = .ok (.aload_n 0, 1) := by decide +kernel
theorem dX2_readInto_45 : decode cX2_readInto 45 = .ok (.aload_n 1, 1) := by decide +kernel
theorem dX2_readInto_46 : decode cX2_readInto 46 = .ok (.invokevirtual 37, 3) := by decide +kernel
theorem dX2_readInto_49 : decode cX2_readInto 49 = .ok (.ifCond .ne 5, 3) := by decide +kernel
theorem dX2_readInto_52 : decode cX2_readInto 52 = .ok (.iload_n 2, 1) := by decide +kernel
theorem dX2_readInto_53 : decode cX2_readInto 53 = .ok (.ireturn, 1) := by decide +kernel
theorem dX2_readInto_54 : decode cX2_readInto 54 = .ok (.iinc 2 1, 3) := by decide +kernel
theorem dX2_readInto_57 : decode cX2_readInto 57 = .ok (.iinc 3 1, 3) := by decide +kernel
theorem dX2_readInto_60 : decode cX2_readInto 60 = .ok (.goto (-37), 3) := by decide +kernel
theorem dX2_readInto_63 : decode cX2_readInto 63 = .ok (.iload_n 2, 1) := by decide +kernel
theorem dX2_readInto_64 : decode cX2_readInto 64 = .ok (.ireturn, 1) := by decide +kernel
theorem dX2_failBehindAll_0 : decode cX2_failBehindAll 0 = .ok (.aload_n 0, 1) := by decide +kernel
theorem dX2_failBehindAll_1 : decode cX2_failBehindAll 1 = .ok (.iload_n 1, 1) := by decide +kernel
theorem dX2_failBehindAll_2 : decode cX2_failBehindAll 2 = .ok (.putfield 20, 3) := by decide +kernel
theorem dX2_failBehindAll_5 : decode cX2_failBehindAll 5 = .ok (.aload_n 0, 1) := by decide +kernel
theorem dX2_failBehindAll_6 : decode cX2_failBehindAll 6 = .ok (.aload_n 0, 1) := by decide +kernel
theorem dX2_failBehindAll_7 : decode cX2_failBehindAll 7 = .ok (.getfield 41, 3) := by decide +kernel
theorem dX2_failBehindAll_10 : decode cX2_failBehindAll 10 = .ok (.putfield 24, 3) := by decide +kernel
theorem dX2_failBehindAll_13 : decode cX2_failBehindAll 13 = .ok (.return_, 1) := by decide +kernel
theorem dX2_fail_0 : decode cX2_fail 0 = .ok (.aload_n 0, 1) := by decide +kernel
theorem dX2_fail_1 : decode cX2_fail 1 = .ok (.iload_n 1, 1) := by decide +kernel
theorem dX2_fail_2 : decode cX2_fail 2 = .ok (.putfield 20, 3) := by decide +kernel
theorem dX2_fail_5 : decode cX2_fail 5 = .ok (.aload_n 0, 1) := by decide +kernel
theorem dX2_fail_6 : decode cX2_fail 6 = .ok (.aload_n 0, 1) := by decide +kernel
theorem dX2_fail_7 : decode cX2_fail 7 = .ok (.getfield 44, 3) := by decide +kernel
theorem dX2_fail_10 : decode cX2_fail 10 = .ok (.putfield 24, 3) := by decide +kernel
theorem dX2_fail_13 : decode cX2_fail 13 = .ok (.iconst 0, 1) := by decide +kernel
theorem dX2_fail_14 : decode cX2_fail 14 = .ok (.ireturn, 1) := by decide +kernel
theorem dX2_takeLine_0 : decode cX2_takeLine 0 = .ok (.aload_n 0, 1) := by decide +kernel
theorem dX2_takeLine_1 : decode cX2_takeLine 1 = .ok (.ldc 47, 2) := by decide +kernel
theorem dX2_takeLine_3 : decode cX2_takeLine 3 = .ok (.invokevirtual 49, 3) := by decide +kernel
theorem dX2_takeLine_6 : decode cX2_takeLine 6 = .ok (.ifCond .eq 9, 3) := by decide +kernel
theorem dX2_takeLine_9 : decode cX2_takeLine 9 = .ok (.aload_n 0, 1) := by decide +kernel
theorem dX2_takeLine_10 : decode cX2_takeLine 10 = .ok (.aload_n 1, 1) := by decide +kernel
theorem dX2_takeLine_11 : decode cX2_takeLine 11 = .ok (.invokevirtual 53, 3) := by decide +kernel
theorem dX2_takeLine_14 : decode cX2_takeLine 14 = .ok (.ireturn, 1) := by decide +kernel
theorem dX2_takeLine_15 : decode cX2_takeLine 15 = .ok (.aload_n 0, 1) := by decide +kernel
theorem dX2_takeLine_16 : decode cX2_takeLine 16 = .ok (.ldc 56, 2) := by decide +kernel
theorem dX2_takeLine_18 : decode cX2_takeLine 18 = .ok (.invokevirtual 49, 3) := by decide +kernel
theorem dX2_takeLine_21 : decode cX2_takeLine 21 = .ok (.ifCond .eq 9, 3) := by decide +kernel
theorem dX2_takeLine_24 : decode cX2_takeLine 24 = .ok (.aload_n 0, 1) := by decide +kernel
theorem dX2_takeLine_25 : decode cX2_takeLine 25 = .ok (.aload_n 1, 1) := by decide +kernel
theorem dX2_takeLine_26 : decode cX2_takeLine 26 = .ok (.invokevirtual 58, 3) := by decide +kernel
theorem dX2_takeLine_29 : decode cX2_takeLine 29 = .ok (.ireturn, 1) := by decide +kernel
theorem dX2_takeLine_30 : decode cX2_takeLine 30 = .ok (.aload_n 0, 1) := by decide +kernel
theorem dX2_takeLine_31 : decode cX2_takeLine 31 = .ok (.ldc 61, 2) := by decide +kernel
theorem dX2_takeLine_33 : decode cX2_takeLine 33 = .ok (.invokevirtual 49, 3) := by decide +kernel
theorem dX2_takeLine_36 : decode cX2_takeLine 36 = .ok (.ifCond .eq 9, 3) := by decide +kernel
theorem dX2_takeLine_39 : decode cX2_takeLine 39 = .ok (.aload_n 0, 1) := by decide +kernel
theorem dX2_takeLine_40 : decode cX2_takeLine 40 = .ok (.aload_n 1, 1) := by decide +kernel
theorem dX2_takeLine_41 : decode cX2_takeLine 41 = .ok (.invokevirtual 63, 3) := by decide +kernel
theorem dX2_takeLine_44 : decode cX2_takeLine 44 = .ok (.ireturn, 1) := by decide +kernel
theorem dX2_takeLine_45 : decode cX2_takeLine 45 = .ok (.aload_n 0, 1) := by decide +kernel
theorem dX2_takeLine_46 : decode cX2_takeLine 46 = .ok (.iconst 2, 1) := by decide +kernel
theorem dX2_takeLine_47 : decode cX2_takeLine 47 = .ok (.invokevirtual 66, 3) := by decide +kernel
theorem dX2_takeLine_50 : decode cX2_takeLine 50 = .ok (.ireturn, 1) := by decide +kernel
theorem dX2_takePlace_0 : decode cX2_takePlace 0 = .ok (.aload_n 1, 1) := by decide +kernel
theorem dX2_takePlace_1 : decode cX2_takePlace 1 = .ok (.getfield 70, 3) := by decide +kernel
theorem dX2_takePlace_4 : decode cX2_takePlace 4 = .ok (.bipush 6, 2) := by decide +kernel
theorem dX2_takePlace_6 : decode cX2_takePlace 6 = .ok (.if_icmp .lt 9, 3) := by decide +kernel
theorem dX2_takePlace_9 : decode cX2_takePlace 9 = .ok (.aload_n 0, 1) := by decide +kernel
theorem dX2_takePlace_10 : decode cX2_takePlace 10 = .ok (.iconst 5, 1) := by decide +kernel
theorem dX2_takePlace_11 : decode cX2_takePlace 11 = .ok (.invokevirtual 66, 3) := by decide +kernel
theorem dX2_takePlace_14 : decode cX2_takePlace 14 = .ok (.ireturn, 1) := by decide +kernel
theorem dX2_takePlace_15 : decode cX2_takePlace 15 = .ok (.aload_n 1, 1) := by decide +kernel
theorem dX2_takePlace_16 : decode cX2_takePlace 16 = .ok (.invokevirtual 73, 3) := by decide +kernel
theorem dX2_takePlace_19 : decode cX2_takePlace 19 = .ok (.iconst 0, 1) := by decide +kernel
theorem dX2_takePlace_20 : decode cX2_takePlace 20 = .ok (.istore_n 2, 1) := by decide +kernel
theorem dX2_takePlace_21 : decode cX2_takePlace 21 = .ok (.iload_n 2, 1) := by decide +kernel
theorem dX2_takePlace_22 : decode cX2_takePlace 22 = .ok (.iconst 3, 1) := by decide +kernel
theorem dX2_takePlace_23 : decode cX2_takePlace 23 = .ok (.if_icmp .ge 52, 3) := by decide +kernel
theorem dX2_takePlace_26 : decode cX2_takePlace 26 = .ok (.aload_n 0, 1) := by decide +kernel
theorem dX2_takePlace_27 : decode cX2_takePlace 27 = .ok (.invokevirtual 30, 3) := by decide +kernel
theorem dX2_takePlace_30 : decode cX2_takePlace 30 = .ok (.ifCond .ne 5, 3) := by decide +kernel
theorem dX2_takePlace_33 : decode cX2_takePlace 33 = .ok (.iconst 0, 1) := by decide +kernel
theorem dX2_takePlace_34 : decode cX2_takePlace 34 = .ok (.ireturn, 1) := by decide +kernel
theorem dX2_takePlace_35 : decode cX2_takePlace 35 = .ok (.iload_n 2, 1) := by decide +kernel
theorem dX2_takePlace_36 : decode cX2_takePlace 36 = .ok (.ifCond .le 13, 3) := by decide +kernel
theorem dX2_takePlace_39 : decode cX2_takePlace 39 = .ok (.aload_n 0, 1) := by decide +kernel
theorem dX2_takePlace_40 : decode cX2_takePlace 40 = .ok (.getfield 34, 3) := by decide +kernel
theorem dX2_takePlace_43 : decode cX2_takePlace 43 = .ok (.iconst 3, 1) := by decide +kernel
theorem dX2_takePlace_44 : decode cX2_takePlace 44 = .ok (.if_icmp .ne 5, 3) := by decide +kernel
theorem dX2_takePlace_47 : decode cX2_takePlace 47 = .ok (.iconst 1, 1) := by decide +kernel
theorem dX2_takePlace_48 : decode cX2_takePlace 48 = .ok (.ireturn, 1) := by decide +kernel
theorem dX2_takePlace_49 : decode cX2_takePlace 49 = .ok (.aload_n 0, 1) := by decide +kernel
theorem dX2_takePlace_50 : decode cX2_takePlace 50 = .ok (.iconst 1, 1) := by decide +kernel
theorem dX2_takePlace_51 : decode cX2_takePlace 51 = .ok (.bipush 20, 2) := by decide +kernel
theorem dX2_takePlace_53 : decode cX2_takePlace 53 = .ok (.invokevirtual 76, 3) := by decide +kernel
theorem dX2_takePlace_56 : decode cX2_takePlace 56 = .ok (.ifCond .ne 5, 3) := by decide +kernel
theorem dX2_takePlace_59 : decode cX2_takePlace 59 = .ok (.iconst 0, 1) := by decide +kernel
theorem dX2_takePlace_60 : decode cX2_takePlace 60 = .ok (.ireturn, 1) := by decide +kernel
theorem dX2_takePlace_61 : decode cX2_takePlace 61 = .ok (.aload_n 1, 1) := by decide +kernel
theorem dX2_takePlace_62 : decode cX2_takePlace 62 = .ok (.aload_n 0, 1) := by decide +kernel
theorem dX2_takePlace_63 : decode cX2_takePlace 63 = .ok (.getfield 80, 3) := by decide +kernel
theorem dX2_takePlace_66 : decode cX2_takePlace 66 = .ok (.invokevirtual 83, 3) := by decide +kernel
theorem dX2_takePlace_69 : decode cX2_takePlace 69 = .ok (.iinc 2 1, 3) := by decide +kernel
theorem dX2_takePlace_72 : decode cX2_takePlace 72 = .ok (.goto (-51), 3) := by decide +kernel
theorem dX2_takePlace_75 : decode cX2_takePlace 75 = .ok (.aload_n 0, 1) := by decide +kernel
theorem dX2_takePlace_76 : decode cX2_takePlace 76 = .ok (.invokevirtual 87, 3) := by decide +kernel
theorem dX2_takePlace_79 : decode cX2_takePlace 79 = .ok (.ireturn, 1) := by decide +kernel
theorem dX2_takeSection_0 : decode cX2_takeSection 0 = .ok (.aload_n 1, 1) := by decide +kernel
theorem dX2_takeSection_1 : decode cX2_takeSection 1 = .ok (.getfield 70, 3) := by decide +kernel
theorem dX2_takeSection_4 : decode cX2_takeSection 4 = .ok (.iconst 1, 1) := by decide +kernel
theorem dX2_takeSection_5 : decode cX2_takeSection 5 = .ok (.if_icmp .ge 9, 3) := by decide +kernel
theorem dX2_takeSection_8 : decode cX2_takeSection 8 = .ok (.aload_n 0, 1) := by decide +kernel
theorem dX2_takeSection_9 : decode cX2_takeSection 9 = .ok (.iconst 5, 1) := by decide +kernel
theorem dX2_takeSection_10 : decode cX2_takeSection 10 = .ok (.invokevirtual 66, 3) := by decide +kernel
theorem dX2_takeSection_13 : decode cX2_takeSection 13 = .ok (.ireturn, 1) := by decide +kernel
theorem dX2_takeSection_14 : decode cX2_takeSection 14 = .ok (.aload_n 0, 1) := by decide +kernel
theorem dX2_takeSection_15 : decode cX2_takeSection 15 = .ok (.iconst 1, 1) := by decide +kernel
theorem dX2_takeSection_16 : decode cX2_takeSection 16 = .ok (.bipush 9, 2) := by decide +kernel
theorem dX2_takeSection_18 : decode cX2_takeSection 18 = .ok (.invokevirtual 90, 3) := by decide +kernel
theorem dX2_takeSection_21 : decode cX2_takeSection 21 = .ok (.ifCond .ne 5, 3) := by decide +kernel
theorem dX2_takeSection_24 : decode cX2_takeSection 24 = .ok (.iconst 0, 1) := by decide +kernel
theorem dX2_takeSection_25 : decode cX2_takeSection 25 = .ok (.ireturn, 1) := by decide +kernel
theorem dX2_takeSection_26 : decode cX2_takeSection 26 = .ok (.aload_n 1, 1) := by decide +kernel
theorem dX2_takeSection_27 : decode cX2_takeSection 27 = .ok (.getfield 93, 3) := by decide +kernel
theorem dX2_takeSection_30 : decode cX2_takeSection 30 = .ok (.aload_n 1, 1) := by decide +kernel
theorem dX2_takeSection_31 : decode cX2_takeSection 31 = .ok (.getfield 70, 3) := by decide +kernel
theorem dX2_takeSection_34 : decode cX2_takeSection 34 = .ok (.iconst 1, 1) := by decide +kernel
theorem dX2_takeSection_35 : decode cX2_takeSection 35 = .ok (.isub, 1) := by decide +kernel
theorem dX2_takeSection_36 : decode cX2_takeSection 36 = .ok (.aload_n 0, 1) := by decide +kernel
theorem dX2_takeSection_37 : decode cX2_takeSection 37 = .ok (.getfield 80, 3) := by decide +kernel
theorem dX2_takeSection_40 : decode cX2_takeSection 40 = .ok (.iastore, 1) := by decide +kernel
theorem dX2_takeSection_41 : decode cX2_takeSection 41 = .ok (.aload_n 0, 1) := by decide +kernel
theorem dX2_takeSection_42 : decode cX2_takeSection 42 = .ok (.invokevirtual 87, 3) := by decide +kernel
theorem dX2_takeSection_45 : decode cX2_takeSection 45 = .ok (.ireturn, 1) := by decide +kernel
theorem dX2_takeTrain_0 : decode cX2_takeTrain 0 = .ok (.aload_n 1, 1) := by decide +kernel
theorem dX2_takeTrain_1 : decode cX2_takeTrain 1 = .ok (.getfield 97, 3) := by decide +kernel
theorem dX2_takeTrain_4 : decode cX2_takeTrain 4 = .ok (.iconst 4, 1) := by decide +kernel
theorem dX2_takeTrain_5 : decode cX2_takeTrain 5 = .ok (.if_icmp .lt 9, 3) := by decide +kernel
theorem dX2_takeTrain_8 : decode cX2_takeTrain 8 = .ok (.aload_n 0, 1) := by decide +kernel
theorem dX2_takeTrain_9 : decode cX2_takeTrain 9 = .ok (.iconst 5, 1) := by decide +kernel
theorem dX2_takeTrain_10 : decode cX2_takeTrain 10 = .ok (.invokevirtual 66, 3) := by decide +kernel
theorem dX2_takeTrain_13 : decode cX2_takeTrain 13 = .ok (.ireturn, 1) := by decide +kernel
theorem dX2_takeTrain_14 : decode cX2_takeTrain 14 = .ok (.aload_n 0, 1) := by decide +kernel
theorem dX2_takeTrain_15 : decode cX2_takeTrain 15 = .ok (.iconst 0, 1) := by decide +kernel
theorem dX2_takeTrain_16 : decode cX2_takeTrain 16 = .ok (.iconst 5, 1) := by decide +kernel
theorem dX2_takeTrain_17 : decode cX2_takeTrain 17 = .ok (.invokevirtual 90, 3) := by decide +kernel
theorem dX2_takeTrain_20 : decode cX2_takeTrain 20 = .ok (.ifCond .ne 5, 3) := by decide +kernel
theorem dX2_takeTrain_23 : decode cX2_takeTrain 23 = .ok (.iconst 0, 1) := by decide +kernel
theorem dX2_takeTrain_24 : decode cX2_takeTrain 24 = .ok (.ireturn, 1) := by decide +kernel
theorem dX2_takeTrain_25 : decode cX2_takeTrain 25 = .ok (.aload_n 0, 1) := by decide +kernel
theorem dX2_takeTrain_26 : decode cX2_takeTrain 26 = .ok (.getfield 80, 3) := by decide +kernel
theorem dX2_takeTrain_29 : decode cX2_takeTrain 29 = .ok (.istore_n 2, 1) := by decide +kernel
theorem dX2_takeTrain_30 : decode cX2_takeTrain 30 = .ok (.aload_n 0, 1) := by decide +kernel
theorem dX2_takeTrain_31 : decode cX2_takeTrain 31 = .ok (.iconst 0, 1) := by decide +kernel
theorem dX2_takeTrain_32 : decode cX2_takeTrain 32 = .ok (.iconst 5, 1) := by decide +kernel
theorem dX2_takeTrain_33 : decode cX2_takeTrain 33 = .ok (.invokevirtual 90, 3) := by decide +kernel
theorem dX2_takeTrain_36 : decode cX2_takeTrain 36 = .ok (.ifCond .ne 5, 3) := by decide +kernel
theorem dX2_takeTrain_39 : decode cX2_takeTrain 39 = .ok (.iconst 0, 1) := by decide +kernel
theorem dX2_takeTrain_40 : decode cX2_takeTrain 40 = .ok (.ireturn, 1) := by decide +kernel
theorem dX2_takeTrain_41 : decode cX2_takeTrain 41 = .ok (.aload_n 0, 1) := by decide +kernel
theorem dX2_takeTrain_42 : decode cX2_takeTrain 42 = .ok (.getfield 80, 3) := by decide +kernel
theorem dX2_takeTrain_45 : decode cX2_takeTrain 45 = .ok (.istore_n 3, 1) := by decide +kernel
theorem dX2_takeTrain_46 : decode cX2_takeTrain 46 = .ok (.iload_n 3, 1) := by decide +kernel
theorem dX2_takeTrain_47 : decode cX2_takeTrain 47 = .ok (.iload_n 2, 1) := by decide +kernel
theorem dX2_takeTrain_48 : decode cX2_takeTrain 48 = .ok (.if_icmp .ne 9, 3) := by decide +kernel
theorem dX2_takeTrain_51 : decode cX2_takeTrain 51 = .ok (.aload_n 0, 1) := by decide +kernel
theorem dX2_takeTrain_52 : decode cX2_takeTrain 52 = .ok (.iconst 4, 1) := by decide +kernel
theorem dX2_takeTrain_53 : decode cX2_takeTrain 53 = .ok (.invokevirtual 66, 3) := by decide +kernel
theorem dX2_takeTrain_56 : decode cX2_takeTrain 56 = .ok (.ireturn, 1) := by decide +kernel
theorem dX2_takeTrain_57 : decode cX2_takeTrain 57 = .ok (.aload_n 0, 1) := by decide +kernel
theorem dX2_takeTrain_58 : decode cX2_takeTrain 58 = .ok (.iconst 1, 1) := by decide +kernel
theorem dX2_takeTrain_59 : decode cX2_takeTrain 59 = .ok (.bipush 20, 2) := by decide +kernel
theorem dX2_takeTrain_61 : decode cX2_takeTrain 61 = .ok (.invokevirtual 90, 3) := by decide +kernel
theorem dX2_takeTrain_64 : decode cX2_takeTrain 64 = .ok (.ifCond .ne 5, 3) := by decide +kernel
theorem dX2_takeTrain_67 : decode cX2_takeTrain 67 = .ok (.iconst 0, 1) := by decide +kernel
theorem dX2_takeTrain_68 : decode cX2_takeTrain 68 = .ok (.ireturn, 1) := by decide +kernel
theorem dX2_takeTrain_69 : decode cX2_takeTrain 69 = .ok (.aload_n 1, 1) := by decide +kernel
theorem dX2_takeTrain_70 : decode cX2_takeTrain 70 = .ok (.iload_n 2, 1) := by decide +kernel
theorem dX2_takeTrain_71 : decode cX2_takeTrain 71 = .ok (.iload_n 3, 1) := by decide +kernel
theorem dX2_takeTrain_72 : decode cX2_takeTrain 72 = .ok (.aload_n 0, 1) := by decide +kernel
theorem dX2_takeTrain_73 : decode cX2_takeTrain 73 = .ok (.getfield 80, 3) := by decide +kernel
theorem dX2_takeTrain_76 : decode cX2_takeTrain 76 = .ok (.invokevirtual 100, 3) := by decide +kernel
theorem dX2_takeTrain_79 : decode cX2_takeTrain 79 = .ok (.aload_n 0, 1) := by decide +kernel
theorem dX2_takeTrain_80 : decode cX2_takeTrain 80 = .ok (.invokevirtual 87, 3) := by decide +kernel
theorem dX2_takeTrain_83 : decode cX2_takeTrain 83 = .ok (.ireturn, 1) := by decide +kernel
theorem dX2_takeNumber_0 : decode cX2_takeNumber 0 = .ok (.aload_n 0, 1) := by decide +kernel
theorem dX2_takeNumber_1 : decode cX2_takeNumber 1 = .ok (.invokevirtual 30, 3) := by decide +kernel
theorem dX2_takeNumber_4 : decode cX2_takeNumber 4 = .ok (.ifCond .eq 16, 3) := by decide +kernel
theorem dX2_takeNumber_7 : decode cX2_takeNumber 7 = .ok (.aload_n 0, 1) := by decide +kernel
theorem dX2_takeNumber_8 : decode cX2_takeNumber 8 = .ok (.iload_n 1, 1) := by decide +kernel
theorem dX2_takeNumber_9 : decode cX2_takeNumber 9 = .ok (.iload_n 2, 1) := by decide +kernel
theorem dX2_takeNumber_10 : decode cX2_takeNumber 10 = .ok (.invokevirtual 76, 3) := by decide +kernel
theorem dX2_takeNumber_13 : decode cX2_takeNumber 13 = .ok (.ifCond .eq 7, 3) := by decide +kernel
theorem dX2_takeNumber_16 : decode cX2_takeNumber 16 = .ok (.iconst 1, 1) := by decide +kernel
theorem dX2_takeNumber_17 : decode cX2_takeNumber 17 = .ok (.goto 4, 3) := by decide +kernel
theorem dX2_takeNumber_20 : decode cX2_takeNumber 20 = .ok (.iconst 0, 1) := by decide +kernel
theorem dX2_takeNumber_21 : decode cX2_takeNumber 21 = .ok (.ireturn, 1) := by decide +kernel
theorem dX2_isNumberWithin_0 : decode cX2_isNumberWithin 0 = .ok (.aload_n 0, 1) := by decide +kernel
theorem dX2_isNumberWithin_1 : decode cX2_isNumberWithin 1 = .ok (.getfield 34, 3) := by decide +kernel
theorem dX2_isNumberWithin_4 : decode cX2_isNumberWithin 4 = .ok (.iconst 2, 1) := by decide +kernel
theorem dX2_isNumberWithin_5 : decode cX2_isNumberWithin 5 = .ok (.if_icmp .eq 9, 3) := by decide +kernel
theorem dX2_isNumberWithin_8 : decode cX2_isNumberWithin 8 = .ok (.aload_n 0, 1) := by decide +kernel
theorem dX2_isNumberWithin_9 : decode cX2_isNumberWithin 9 = .ok (.iconst 2, 1) := by decide +kernel
theorem dX2_isNumberWithin_10 : decode cX2_isNumberWithin 10 = .ok (.invokevirtual 66, 3) := by decide +kernel
theorem dX2_isNumberWithin_13 : decode cX2_isNumberWithin 13 = .ok (.ireturn, 1) := by decide +kernel
theorem dX2_isNumberWithin_14 : decode cX2_isNumberWithin 14 = .ok (.aload_n 0, 1) := by decide +kernel
theorem dX2_isNumberWithin_15 : decode cX2_isNumberWithin 15 = .ok (.iconst 0, 1) := by decide +kernel
theorem dX2_isNumberWithin_16 : decode cX2_isNumberWithin 16 = .ok (.putfield 80, 3) := by decide +kernel
theorem dX2_isNumberWithin_19 : decode cX2_isNumberWithin 19 = .ok (.aload_n 0, 1) := by decide +kernel
theorem dX2_isNumberWithin_20 : decode cX2_isNumberWithin 20 = .ok (.getfield 44, 3) := by decide +kernel
theorem dX2_isNumberWithin_23 : decode cX2_isNumberWithin 23 = .ok (.istore_n 3, 1) := by decide +kernel
theorem dX2_isNumberWithin_24 : decode cX2_isNumberWithin 24 = .ok (.iload_n 3, 1) := by decide +kernel
theorem dX2_isNumberWithin_25 : decode cX2_isNumberWithin 25 = .ok (.aload_n 0, 1) := by decide +kernel
theorem dX2_isNumberWithin_26 : decode cX2_isNumberWithin 26 = .ok (.getfield 27, 3) := by decide +kernel
theorem dX2_isNumberWithin_29 : decode cX2_isNumberWithin 29 = .ok (.if_icmp .ge 30, 3) := by decide +kernel
theorem dX2_isNumberWithin_32 : decode cX2_isNumberWithin 32 = .ok (.aload_n 0, 1) := by decide +kernel
theorem dX2_isNumberWithin_33 : decode cX2_isNumberWithin 33 = .ok (.aload_n 0, 1) := by decide +kernel
theorem dX2_isNumberWithin_34 : decode cX2_isNumberWithin 34 = .ok (.getfield 80, 3) := by decide +kernel
theorem dX2_isNumberWithin_37 : decode cX2_isNumberWithin 37 = .ok (.bipush 10, 2) := by decide +kernel
theorem dX2_isNumberWithin_39 : decode cX2_isNumberWithin 39 = .ok (.imul, 1) := by decide +kernel
theorem dX2_isNumberWithin_40 : decode cX2_isNumberWithin 40 = .ok (.aload_n 0, 1) := by decide +kernel
theorem dX2_isNumberWithin_41 : decode cX2_isNumberWithin 41 = .ok (.getfield 9, 3) := by decide +kernel
theorem dX2_isNumberWithin_44 : decode cX2_isNumberWithin 44 = .ok (.iload_n 3, 1) := by decide +kernel
theorem dX2_isNumberWithin_45 : decode cX2_isNumberWithin 45 = .ok (.baload, 1) := by decide +kernel
theorem dX2_isNumberWithin_46 : decode cX2_isNumberWithin 46 = .ok (.iadd, 1) := by decide +kernel
theorem dX2_isNumberWithin_47 : decode cX2_isNumberWithin 47 = .ok (.bipush 48, 2) := by decide +kernel
theorem dX2_isNumberWithin_49 : decode cX2_isNumberWithin 49 = .ok (.isub, 1) := by decide +kernel
theorem dX2_isNumberWithin_50 : decode cX2_isNumberWithin 50 = .ok (.putfield 80, 3) := by decide +kernel
theorem dX2_isNumberWithin_53 : decode cX2_isNumberWithin 53 = .ok (.iinc 3 1, 3) := by decide +kernel
theorem dX2_isNumberWithin_56 : decode cX2_isNumberWithin 56 = .ok (.goto (-32), 3) := by decide +kernel
theorem dX2_isNumberWithin_59 : decode cX2_isNumberWithin 59 = .ok (.aload_n 0, 1) := by decide +kernel
theorem dX2_isNumberWithin_60 : decode cX2_isNumberWithin 60 = .ok (.getfield 80, 3) := by decide +kernel
theorem dX2_isNumberWithin_63 : decode cX2_isNumberWithin 63 = .ok (.iload_n 1, 1) := by decide +kernel
theorem dX2_isNumberWithin_64 : decode cX2_isNumberWithin 64 = .ok (.if_icmp .lt 11, 3) := by decide +kernel
theorem dX2_isNumberWithin_67 : decode cX2_isNumberWithin 67 = .ok (.aload_n 0, 1) := by decide +kernel
theorem dX2_isNumberWithin_68 : decode cX2_isNumberWithin 68 = .ok (.getfield 80, 3) := by decide +kernel
theorem dX2_isNumberWithin_71 : decode cX2_isNumberWithin 71 = .ok (.iload_n 2, 1) := by decide +kernel
theorem dX2_isNumberWithin_72 : decode cX2_isNumberWithin 72 = .ok (.if_icmp .le 11, 3) := by decide +kernel
theorem dX2_isNumberWithin_75 : decode cX2_isNumberWithin 75 = .ok (.aload_n 0, 1) := by decide +kernel
theorem dX2_isNumberWithin_76 : decode cX2_isNumberWithin 76 = .ok (.iconst 3, 1) := by decide +kernel
theorem dX2_isNumberWithin_77 : decode cX2_isNumberWithin 77 = .ok (.invokevirtual 66, 3) := by decide +kernel
theorem dX2_isNumberWithin_80 : decode cX2_isNumberWithin 80 = .ok (.ifCond .eq 7, 3) := by decide +kernel
theorem dX2_isNumberWithin_83 : decode cX2_isNumberWithin 83 = .ok (.iconst 1, 1) := by decide +kernel
theorem dX2_isNumberWithin_84 : decode cX2_isNumberWithin 84 = .ok (.goto 4, 3) := by decide +kernel
theorem dX2_isNumberWithin_87 : decode cX2_isNumberWithin 87 = .ok (.iconst 0, 1) := by decide +kernel
theorem dX2_isNumberWithin_88 : decode cX2_isNumberWithin 88 = .ok (.ireturn, 1) := by decide +kernel
theorem dX2_takeSign_0 : decode cX2_takeSign 0 = .ok (.aload_n 0, 1) := by decide +kernel
theorem dX2_takeSign_1 : decode cX2_takeSign 1 = .ok (.invokevirtual 30, 3) := by decide +kernel
theorem dX2_takeSign_4 : decode cX2_takeSign 4 = .ok (.ifCond .eq 23, 3) := by decide +kernel
theorem dX2_takeSign_7 : decode cX2_takeSign 7 = .ok (.aload_n 0, 1) := by decide +kernel
theorem dX2_takeSign_8 : decode cX2_takeSign 8 = .ok (.getfield 34, 3) := by decide +kernel
theorem dX2_takeSign_11 : decode cX2_takeSign 11 = .ok (.iconst 3, 1) := by decide +kernel
theorem dX2_takeSign_12 : decode cX2_takeSign 12 = .ok (.if_icmp .eq 11, 3) := by decide +kernel
theorem dX2_takeSign_15 : decode cX2_takeSign 15 = .ok (.aload_n 0, 1) := by decide +kernel
theorem dX2_takeSign_16 : decode cX2_takeSign 16 = .ok (.iconst 2, 1) := by decide +kernel
theorem dX2_takeSign_17 : decode cX2_takeSign 17 = .ok (.invokevirtual 66, 3) := by decide +kernel
theorem dX2_takeSign_20 : decode cX2_takeSign 20 = .ok (.ifCond .eq 7, 3) := by decide +kernel
theorem dX2_takeSign_23 : decode cX2_takeSign 23 = .ok (.iconst 1, 1) := by decide +kernel
theorem dX2_takeSign_24 : decode cX2_takeSign 24 = .ok (.goto 4, 3) := by decide +kernel
theorem dX2_takeSign_27 : decode cX2_takeSign 27 = .ok (.iconst 0, 1) := by decide +kernel
theorem dX2_takeSign_28 : decode cX2_takeSign 28 = .ok (.ireturn, 1) := by decide +kernel
theorem dX2_takeToken_0 : decode cX2_takeToken 0 = .ok (.aload_n 0, 1) := by decide +kernel
theorem dX2_takeToken_1 : decode cX2_takeToken 1 = .ok (.getfield 27, 3) := by decide +kernel
theorem dX2_takeToken_4 : decode cX2_takeToken 4 = .ok (.aload_n 0, 1) := by decide +kernel
theorem dX2_takeToken_5 : decode cX2_takeToken 5 = .ok (.getfield 41, 3) := by decide +kernel
theorem dX2_takeToken_8 : decode cX2_takeToken 8 = .ok (.if_icmp .ge 30, 3) := by decide +kernel
theorem dX2_takeToken_11 : decode cX2_takeToken 11 = .ok (.aload_n 0, 1) := by decide +kernel
theorem dX2_takeToken_12 : decode cX2_takeToken 12 = .ok (.getfield 9, 3) := by decide +kernel
theorem dX2_takeToken_15 : decode cX2_takeToken 15 = .ok (.aload_n 0, 1) := by decide +kernel
theorem dX2_takeToken_16 : decode cX2_takeToken 16 = .ok (.getfield 27, 3) := by decide +kernel
theorem dX2_takeToken_19 : decode cX2_takeToken 19 = .ok (.baload, 1) := by decide +kernel
theorem dX2_takeToken_20 : decode cX2_takeToken 20 = .ok (.bipush 32, 2) := by decide +kernel
theorem dX2_takeToken_22 : decode cX2_takeToken 22 = .ok (.if_icmp .ne 16, 3) := by decide +kernel
theorem dX2_takeToken_25 : decode cX2_takeToken 25 = .ok (.aload_n 0, 1) := by decide +kernel
theorem dX2_takeToken_26 : decode cX2_takeToken 26 = .ok (.dup, 1) := by decide +kernel
theorem dX2_takeToken_27 : decode cX2_takeToken 27 = .ok (.getfield 27, 3) := by decide +kernel
theorem dX2_takeToken_30 : decode cX2_takeToken 30 = .ok (.iconst 1, 1) := by decide +kernel
theorem dX2_takeToken_31 : decode cX2_takeToken 31 = .ok (.iadd, 1) := by decide +kernel
theorem dX2_takeToken_32 : decode cX2_takeToken 32 = .ok (.putfield 27, 3) := by decide +kernel
theorem dX2_takeToken_35 : decode cX2_takeToken 35 = .ok (.goto (-35), 3) := by decide +kernel
theorem dX2_takeToken_38 : decode cX2_takeToken 38 = .ok (.aload_n 0, 1) := by decide +kernel
theorem dX2_takeToken_39 : decode cX2_takeToken 39 = .ok (.aload_n 0, 1) := by decide +kernel
theorem dX2_takeToken_40 : decode cX2_takeToken 40 = .ok (.getfield 27, 3) := by decide +kernel
theorem dX2_takeToken_43 : decode cX2_takeToken 43 = .ok (.putfield 44, 3) := by decide +kernel
theorem dX2_takeToken_46 : decode cX2_takeToken 46 = .ok (.aload_n 0, 1) := by decide +kernel
theorem dX2_takeToken_47 : decode cX2_takeToken 47 = .ok (.getfield 27, 3) := by decide +kernel
theorem dX2_takeToken_50 : decode cX2_takeToken 50 = .ok (.aload_n 0, 1) := by decide +kernel
theorem dX2_takeToken_51 : decode cX2_takeToken 51 = .ok (.getfield 41, 3) := by decide +kernel
theorem dX2_takeToken_54 : decode cX2_takeToken 54 = .ok (.if_icmp .lt 10, 3) := by decide +kernel
theorem dX2_takeToken_57 : decode cX2_takeToken 57 = .ok (.aload_n 0, 1) := by decide +kernel
theorem dX2_takeToken_58 : decode cX2_takeToken 58 = .ok (.iconst 0, 1) := by decide +kernel
theorem dX2_takeToken_59 : decode cX2_takeToken 59 = .ok (.putfield 34, 3) := by decide +kernel
theorem dX2_takeToken_62 : decode cX2_takeToken 62 = .ok (.iconst 1, 1) := by decide +kernel
theorem dX2_takeToken_63 : decode cX2_takeToken 63 = .ok (.ireturn, 1) := by decide +kernel
theorem dX2_takeToken_64 : decode cX2_takeToken 64 = .ok (.aload_n 0, 1) := by decide +kernel
theorem dX2_takeToken_65 : decode cX2_takeToken 65 = .ok (.aload_n 0, 1) := by decide +kernel
theorem dX2_takeToken_66 : decode cX2_takeToken 66 = .ok (.getfield 9, 3) := by decide +kernel
theorem dX2_takeToken_69 : decode cX2_takeToken 69 = .ok (.aload_n 0, 1) := by decide +kernel
theorem dX2_takeToken_70 : decode cX2_takeToken 70 = .ok (.getfield 27, 3) := by decide +kernel
theorem dX2_takeToken_73 : decode cX2_takeToken 73 = .ok (.baload, 1) := by decide +kernel
theorem dX2_takeToken_74 : decode cX2_takeToken 74 = .ok (.invokestatic 104, 3) := by decide +kernel
theorem dX2_takeToken_77 : decode cX2_takeToken 77 = .ok (.putfield 34, 3) := by decide +kernel
theorem dX2_takeToken_80 : decode cX2_takeToken 80 = .ok (.aload_n 0, 1) := by decide +kernel
theorem dX2_takeToken_81 : decode cX2_takeToken 81 = .ok (.dup, 1) := by decide +kernel
theorem dX2_takeToken_82 : decode cX2_takeToken 82 = .ok (.getfield 27, 3) := by decide +kernel
theorem dX2_takeToken_85 : decode cX2_takeToken 85 = .ok (.iconst 1, 1) := by decide +kernel
theorem dX2_takeToken_86 : decode cX2_takeToken 86 = .ok (.iadd, 1) := by decide +kernel
theorem dX2_takeToken_87 : decode cX2_takeToken 87 = .ok (.putfield 27, 3) := by decide +kernel
theorem dX2_takeToken_90 : decode cX2_takeToken 90 = .ok (.aload_n 0, 1) := by decide +kernel
theorem dX2_takeToken_91 : decode cX2_takeToken 91 = .ok (.getfield 34, 3) := by decide +kernel
theorem dX2_takeToken_94 : decode cX2_takeToken 94 = .ok (.iconst 1, 1) := by decide +kernel
theorem dX2_takeToken_95 : decode cX2_takeToken 95 = .ok (.if_icmp .eq 11, 3) := by decide +kernel
theorem dX2_takeToken_98 : decode cX2_takeToken 98 = .ok (.aload_n 0, 1) := by decide +kernel
theorem dX2_takeToken_99 : decode cX2_takeToken 99 = .ok (.getfield 34, 3) := by decide +kernel
theorem dX2_takeToken_102 : decode cX2_takeToken 102 = .ok (.iconst 2, 1) := by decide +kernel
theorem dX2_takeToken_103 : decode cX2_takeToken 103 = .ok (.if_icmp .ne 7, 3) := by decide +kernel
theorem dX2_takeToken_106 : decode cX2_takeToken 106 = .ok (.iconst 1, 1) := by decide +kernel
theorem dX2_takeToken_107 : decode cX2_takeToken 107 = .ok (.goto 4, 3) := by decide +kernel
theorem dX2_takeToken_110 : decode cX2_takeToken 110 = .ok (.iconst 0, 1) := by decide +kernel
theorem dX2_takeToken_111 : decode cX2_takeToken 111 = .ok (.istore_n 1, 1) := by decide +kernel
theorem dX2_takeToken_112 : decode cX2_takeToken 112 = .ok (.iload_n 1, 1) := by decide +kernel
theorem dX2_takeToken_113 : decode cX2_takeToken 113 = .ok (.ifCond .eq 46, 3) := by decide +kernel
theorem dX2_takeToken_116 : decode cX2_takeToken 116 = .ok (.aload_n 0, 1) := by decide +kernel
theorem dX2_takeToken_117 : decode cX2_takeToken 117 = .ok (.getfield 27, 3) := by decide +kernel
theorem dX2_takeToken_120 : decode cX2_takeToken 120 = .ok (.aload_n 0, 1) := by decide +kernel
theorem dX2_takeToken_121 : decode cX2_takeToken 121 = .ok (.getfield 41, 3) := by decide +kernel
theorem dX2_takeToken_124 : decode cX2_takeToken 124 = .ok (.if_icmp .ge 35, 3) := by decide +kernel
theorem dX2_takeToken_127 : decode cX2_takeToken 127 = .ok (.aload_n 0, 1) := by decide +kernel
theorem dX2_takeToken_128 : decode cX2_takeToken 128 = .ok (.getfield 9, 3) := by decide +kernel
theorem dX2_takeToken_131 : decode cX2_takeToken 131 = .ok (.aload_n 0, 1) := by decide +kernel
theorem dX2_takeToken_132 : decode cX2_takeToken 132 = .ok (.getfield 27, 3) := by decide +kernel
theorem dX2_takeToken_135 : decode cX2_takeToken 135 = .ok (.baload, 1) := by decide +kernel
theorem dX2_takeToken_136 : decode cX2_takeToken 136 = .ok (.invokestatic 104, 3) := by decide +kernel
theorem dX2_takeToken_139 : decode cX2_takeToken 139 = .ok (.aload_n 0, 1) := by decide +kernel
theorem dX2_takeToken_140 : decode cX2_takeToken 140 = .ok (.getfield 34, 3) := by decide +kernel
theorem dX2_takeToken_143 : decode cX2_takeToken 143 = .ok (.if_icmp .ne 16, 3) := by decide +kernel
theorem dX2_takeToken_146 : decode cX2_takeToken 146 = .ok (.aload_n 0, 1) := by decide +kernel
theorem dX2_takeToken_147 : decode cX2_takeToken 147 = .ok (.dup, 1) := by decide +kernel
theorem dX2_takeToken_148 : decode cX2_takeToken 148 = .ok (.getfield 27, 3) := by decide +kernel
theorem dX2_takeToken_151 : decode cX2_takeToken 151 = .ok (.iconst 1, 1) := by decide +kernel
theorem dX2_takeToken_152 : decode cX2_takeToken 152 = .ok (.iadd, 1) := by decide +kernel
theorem dX2_takeToken_153 : decode cX2_takeToken 153 = .ok (.putfield 27, 3) := by decide +kernel
theorem dX2_takeToken_156 : decode cX2_takeToken 156 = .ok (.goto (-44), 3) := by decide +kernel
theorem dX2_takeToken_159 : decode cX2_takeToken 159 = .ok (.aload_n 0, 1) := by decide +kernel
theorem dX2_takeToken_160 : decode cX2_takeToken 160 = .ok (.getfield 34, 3) := by decide +kernel
theorem dX2_takeToken_163 : decode cX2_takeToken 163 = .ok (.iconst 2, 1) := by decide +kernel
theorem dX2_takeToken_164 : decode cX2_takeToken 164 = .ok (.if_icmp .ne 20, 3) := by decide +kernel
theorem dX2_takeToken_167 : decode cX2_takeToken 167 = .ok (.aload_n 0, 1) := by decide +kernel
theorem dX2_takeToken_168 : decode cX2_takeToken 168 = .ok (.getfield 27, 3) := by decide +kernel
theorem dX2_takeToken_171 : decode cX2_takeToken 171 = .ok (.aload_n 0, 1) := by decide +kernel
theorem dX2_takeToken_172 : decode cX2_takeToken 172 = .ok (.getfield 44, 3) := by decide +kernel
theorem dX2_takeToken_175 : decode cX2_takeToken 175 = .ok (.isub, 1) := by decide +kernel
theorem dX2_takeToken_176 : decode cX2_takeToken 176 = .ok (.iconst 2, 1) := by decide +kernel
theorem dX2_takeToken_177 : decode cX2_takeToken 177 = .ok (.if_icmp .le 7, 3) := by decide +kernel
theorem dX2_takeToken_180 : decode cX2_takeToken 180 = .ok (.iconst 1, 1) := by decide +kernel
theorem dX2_takeToken_181 : decode cX2_takeToken 181 = .ok (.goto 4, 3) := by decide +kernel
theorem dX2_takeToken_184 : decode cX2_takeToken 184 = .ok (.iconst 0, 1) := by decide +kernel
theorem dX2_takeToken_185 : decode cX2_takeToken 185 = .ok (.istore_n 2, 1) := by decide +kernel
theorem dX2_takeToken_186 : decode cX2_takeToken 186 = .ok (.aload_n 0, 1) := by decide +kernel
theorem dX2_takeToken_187 : decode cX2_takeToken 187 = .ok (.getfield 34, 3) := by decide +kernel
theorem dX2_takeToken_190 : decode cX2_takeToken 190 = .ok (.iconst 4, 1) := by decide +kernel
theorem dX2_takeToken_191 : decode cX2_takeToken 191 = .ok (.if_icmp .eq 7, 3) := by decide +kernel
theorem dX2_takeToken_194 : decode cX2_takeToken 194 = .ok (.iload_n 2, 1) := by decide +kernel
theorem dX2_takeToken_195 : decode cX2_takeToken 195 = .ok (.ifCond .eq 11, 3) := by decide +kernel
theorem dX2_takeToken_198 : decode cX2_takeToken 198 = .ok (.aload_n 0, 1) := by decide +kernel
theorem dX2_takeToken_199 : decode cX2_takeToken 199 = .ok (.iconst 1, 1) := by decide +kernel
theorem dX2_takeToken_200 : decode cX2_takeToken 200 = .ok (.invokevirtual 66, 3) := by decide +kernel
theorem dX2_takeToken_203 : decode cX2_takeToken 203 = .ok (.ifCond .eq 7, 3) := by decide +kernel
theorem dX2_takeToken_206 : decode cX2_takeToken 206 = .ok (.iconst 1, 1) := by decide +kernel
theorem dX2_takeToken_207 : decode cX2_takeToken 207 = .ok (.goto 4, 3) := by decide +kernel
theorem dX2_takeToken_210 : decode cX2_takeToken 210 = .ok (.iconst 0, 1) := by decide +kernel
theorem dX2_takeToken_211 : decode cX2_takeToken 211 = .ok (.ireturn, 1) := by decide +kernel
theorem dX2_kindOf_0 : decode cX2_kindOf 0 = .ok (.iload_n 0, 1) := by decide +kernel
theorem dX2_kindOf_1 : decode cX2_kindOf 1 = .ok (.bipush 97, 2) := by decide +kernel
theorem dX2_kindOf_3 : decode cX2_kindOf 3 = .ok (.if_icmp .lt 11, 3) := by decide +kernel
theorem dX2_kindOf_6 : decode cX2_kindOf 6 = .ok (.iload_n 0, 1) := by decide +kernel
theorem dX2_kindOf_7 : decode cX2_kindOf 7 = .ok (.bipush 122, 2) := by decide +kernel
theorem dX2_kindOf_9 : decode cX2_kindOf 9 = .ok (.if_icmp .gt 5, 3) := by decide +kernel
theorem dX2_kindOf_12 : decode cX2_kindOf 12 = .ok (.iconst 1, 1) := by decide +kernel
theorem dX2_kindOf_13 : decode cX2_kindOf 13 = .ok (.ireturn, 1) := by decide +kernel
theorem dX2_kindOf_14 : decode cX2_kindOf 14 = .ok (.iload_n 0, 1) := by decide +kernel
theorem dX2_kindOf_15 : decode cX2_kindOf 15 = .ok (.bipush 48, 2) := by decide +kernel
theorem dX2_kindOf_17 : decode cX2_kindOf 17 = .ok (.if_icmp .lt 11, 3) := by decide +kernel
theorem dX2_kindOf_20 : decode cX2_kindOf 20 = .ok (.iload_n 0, 1) := by decide +kernel
theorem dX2_kindOf_21 : decode cX2_kindOf 21 = .ok (.bipush 57, 2) := by decide +kernel
theorem dX2_kindOf_23 : decode cX2_kindOf 23 = .ok (.if_icmp .gt 5, 3) := by decide +kernel
theorem dX2_kindOf_26 : decode cX2_kindOf 26 = .ok (.iconst 2, 1) := by decide +kernel
theorem dX2_kindOf_27 : decode cX2_kindOf 27 = .ok (.ireturn, 1) := by decide +kernel
theorem dX2_kindOf_28 : decode cX2_kindOf 28 = .ok (.iload_n 0, 1) := by decide +kernel
theorem dX2_kindOf_29 : decode cX2_kindOf 29 = .ok (.bipush 59, 2) := by decide +kernel
theorem dX2_kindOf_31 : decode cX2_kindOf 31 = .ok (.if_icmp .ne 7, 3) := by decide +kernel
theorem dX2_kindOf_34 : decode cX2_kindOf 34 = .ok (.iconst 3, 1) := by decide +kernel
theorem dX2_kindOf_35 : decode cX2_kindOf 35 = .ok (.goto 4, 3) := by decide +kernel
theorem dX2_kindOf_38 : decode cX2_kindOf 38 = .ok (.iconst 4, 1) := by decide +kernel
theorem dX2_kindOf_39 : decode cX2_kindOf 39 = .ok (.ireturn, 1) := by decide +kernel
theorem dX2_isWord_0 : decode cX2_isWord 0 = .ok (.aload_n 0, 1) := by decide +kernel
theorem dX2_isWord_1 : decode cX2_isWord 1 = .ok (.getfield 34, 3) := by decide +kernel
theorem dX2_isWord_4 : decode cX2_isWord 4 = .ok (.iconst 1, 1) := by decide +kernel
theorem dX2_isWord_5 : decode cX2_isWord 5 = .ok (.if_icmp .ne 19, 3) := by decide +kernel
theorem dX2_isWord_8 : decode cX2_isWord 8 = .ok (.aload_n 0, 1) := by decide +kernel
theorem dX2_isWord_9 : decode cX2_isWord 9 = .ok (.getfield 27, 3) := by decide +kernel
theorem dX2_isWord_12 : decode cX2_isWord 12 = .ok (.aload_n 0, 1) := by decide +kernel
theorem dX2_isWord_13 : decode cX2_isWord 13 = .ok (.getfield 44, 3) := by decide +kernel
theorem dX2_isWord_16 : decode cX2_isWord 16 = .ok (.isub, 1) := by decide +kernel
theorem dX2_isWord_17 : decode cX2_isWord 17 = .ok (.aload_n 1, 1) := by decide +kernel
theorem dX2_isWord_18 : decode cX2_isWord 18 = .ok (.invokevirtual 108, 3) := by decide +kernel
theorem dX2_isWord_21 : decode cX2_isWord 21 = .ok (.if_icmp .eq 5, 3) := by decide +kernel
theorem dX2_isWord_24 : decode cX2_isWord 24 = .ok (.iconst 0, 1) := by decide +kernel
theorem dX2_isWord_25 : decode cX2_isWord 25 = .ok (.ireturn, 1) := by decide +kernel
theorem dX2_isWord_26 : decode cX2_isWord 26 = .ok (.iconst 0, 1) := by decide +kernel
theorem dX2_isWord_27 : decode cX2_isWord 27 = .ok (.istore_n 2, 1) := by decide +kernel
theorem dX2_isWord_28 : decode cX2_isWord 28 = .ok (.iload_n 2, 1) := by decide +kernel
theorem dX2_isWord_29 : decode cX2_isWord 29 = .ok (.aload_n 1, 1) := by decide +kernel
theorem dX2_isWord_30 : decode cX2_isWord 30 = .ok (.invokevirtual 108, 3) := by decide +kernel
theorem dX2_isWord_33 : decode cX2_isWord 33 = .ok (.if_icmp .ge 30, 3) := by decide +kernel
theorem dX2_isWord_36 : decode cX2_isWord 36 = .ok (.aload_n 0, 1) := by decide +kernel
theorem dX2_isWord_37 : decode cX2_isWord 37 = .ok (.getfield 9, 3) := by decide +kernel
theorem dX2_isWord_40 : decode cX2_isWord 40 = .ok (.aload_n 0, 1) := by decide +kernel
theorem dX2_isWord_41 : decode cX2_isWord 41 = .ok (.getfield 44, 3) := by decide +kernel
theorem dX2_isWord_44 : decode cX2_isWord 44 = .ok (.iload_n 2, 1) := by decide +kernel
theorem dX2_isWord_45 : decode cX2_isWord 45 = .ok (.iadd, 1) := by decide +kernel
theorem dX2_isWord_46 : decode cX2_isWord 46 = .ok (.baload, 1) := by decide +kernel
theorem dX2_isWord_47 : decode cX2_isWord 47 = .ok (.aload_n 1, 1) := by decide +kernel
theorem dX2_isWord_48 : decode cX2_isWord 48 = .ok (.iload_n 2, 1) := by decide +kernel
theorem dX2_isWord_49 : decode cX2_isWord 49 = .ok (.invokevirtual 114, 3) := by decide +kernel
theorem dX2_isWord_52 : decode cX2_isWord 52 = .ok (.if_icmp .eq 5, 3) := by decide +kernel
theorem dX2_isWord_55 : decode cX2_isWord 55 = .ok (.iconst 0, 1) := by decide +kernel
theorem dX2_isWord_56 : decode cX2_isWord 56 = .ok (.ireturn, 1) := by decide +kernel
theorem dX2_isWord_57 : decode cX2_isWord 57 = .ok (.iinc 2 1, 3) := by decide +kernel
theorem dX2_isWord_60 : decode cX2_isWord 60 = .ok (.goto (-32), 3) := by decide +kernel
theorem dX2_isWord_63 : decode cX2_isWord 63 = .ok (.iconst 1, 1) := by decide +kernel
theorem dX2_isWord_64 : decode cX2_isWord 64 = .ok (.ireturn, 1) := by decide +kernel
end
section
theorem dX3_init_0 : decode cX3_init 0 = .ok (.aload_n 0, 1) := by decide +kernel
theorem dX3_init_1 : decode cX3_init 1 = .ok (.invokespecial 3, 3) := by decide +kernel
theorem dX3_init_4 : decode cX3_init 4 = .ok (.aload_n 0, 1) := by decide +kernel
theorem dX3_init_5 : decode cX3_init 5 = .ok (.iconst (-1), 1) := by decide +kernel
theorem dX3_init_6 : decode cX3_init 6 = .ok (.putfield 9, 3) := by decide +kernel
theorem dX3_init_9 : decode cX3_init 9 = .ok (.aload_n 0, 1) := by decide +kernel
theorem dX3_init_10 : decode cX3_init 10 = .ok (.bipush 40, 2) := by decide +kernel
theorem dX3_init_12 : decode cX3_init 12 = .ok (.newarray .int, 2) := by decide +kernel
theorem dX3_init_14 : decode cX3_init 14 = .ok (.putfield 15, 3) := by decide +kernel
theorem dX3_init_17 : decode cX3_init 17 = .ok (.return_, 1) := by decide +kernel
theorem dX3_renew_0 : decode cX3_renew 0 = .ok (.aload_n 0, 1) := by decide +kernel
theorem dX3_renew_1 : decode cX3_renew 1 = .ok (.iload_n 1, 1) := by decide +kernel
theorem dX3_renew_2 : decode cX3_renew 2 = .ok (.putfield 19, 3) := by decide +kernel
theorem dX3_renew_5 : decode cX3_renew 5 = .ok (.aload_n 0, 1) := by decide +kernel
theorem dX3_renew_6 : decode cX3_renew 6 = .ok (.iload_n 2, 1) := by decide +kernel
theorem dX3_renew_7 : decode cX3_renew 7 = .ok (.putfield 9, 3) := by decide +kernel
theorem dX3_renew_10 : decode cX3_renew 10 = .ok (.aload_n 0, 1) := by decide +kernel
theorem dX3_renew_11 : decode cX3_renew 11 = .ok (.getfield 15, 3) := by decide +kernel
theorem dX3_renew_14 : decode cX3_renew 14 = .ok (.iconst 0, 1) := by decide +kernel
theorem dX3_renew_15 : decode cX3_renew 15 = .ok (.invokestatic 22, 3) := by decide +kernel
theorem dX3_renew_18 : decode cX3_renew 18 = .ok (.return_, 1) := by decide +kernel
theorem dX3_faultOfCell_0 : decode cX3_faultOfCell 0 = .ok (.aload_n 0, 1) := by decide +kernel
theorem dX3_faultOfCell_1 : decode cX3_faultOfCell 1 = .ok (.getfield 9, 3) := by decide +kernel
theorem dX3_faultOfCell_4 : decode cX3_faultOfCell 4 = .ok (.ifCond .ge 5, 3) := by decide +kernel
theorem dX3_faultOfCell_7 : decode cX3_faultOfCell 7 = .ok (.iconst 1, 1) := by decide +kernel
theorem dX3_faultOfCell_8 : decode cX3_faultOfCell 8 = .ok (.ireturn, 1) := by decide +kernel
theorem dX3_faultOfCell_9 : decode cX3_faultOfCell 9 = .ok (.iload_n 1, 1) := by decide +kernel
theorem dX3_faultOfCell_10 : decode cX3_faultOfCell 10 = .ok (.ifCond .lt 11, 3) := by decide +kernel
theorem dX3_faultOfCell_13 : decode cX3_faultOfCell 13 = .ok (.iload_n 1, 1) := by decide +kernel
theorem dX3_faultOfCell_14 : decode cX3_faultOfCell 14 = .ok (.aload_n 0, 1) := by decide +kernel
theorem dX3_faultOfCell_15 : decode cX3_faultOfCell 15 = .ok (.getfield 9, 3) := by decide +kernel
theorem dX3_faultOfCell_18 : decode cX3_faultOfCell 18 = .ok (.if_icmp .lt 7, 3) := by decide +kernel
theorem dX3_faultOfCell_21 : decode cX3_faultOfCell 21 = .ok (.iconst 2, 1) := by decide +kernel
theorem dX3_faultOfCell_22 : decode cX3_faultOfCell 22 = .ok (.goto 4, 3) := by decide +kernel
theorem dX3_faultOfCell_25 : decode cX3_faultOfCell 25 = .ok (.iconst 0, 1) := by decide +kernel
theorem dX3_faultOfCell_26 : decode cX3_faultOfCell 26 = .ok (.ireturn, 1) := by decide +kernel
theorem dX3_faultOfThree_0 : decode cX3_faultOfThree 0 = .ok (.aload_n 0, 1) := by decide +kernel
theorem dX3_faultOfThree_1 : decode cX3_faultOfThree 1 = .ok (.getfield 9, 3) := by decide +kernel
theorem dX3_faultOfThree_4 : decode cX3_faultOfThree 4 = .ok (.ifCond .ge 5, 3) := by decide +kernel
theorem dX3_faultOfThree_7 : decode cX3_faultOfThree 7 = .ok (.iconst 1, 1) := by decide +kernel
theorem dX3_faultOfThree_8 : decode cX3_faultOfThree 8 = .ok (.ireturn, 1) := by decide +kernel
theorem dX3_faultOfThree_9 : decode cX3_faultOfThree 9 = .ok (.iload_n 1, 1) := by decide +kernel
theorem dX3_faultOfThree_10 : decode cX3_faultOfThree 10 = .ok (.aload_n 0, 1) := by decide +kernel
theorem dX3_faultOfThree_11 : decode cX3_faultOfThree 11 = .ok (.getfield 19, 3) := by decide +kernel
theorem dX3_faultOfThree_14 : decode cX3_faultOfThree 14 = .ok (.if_icmp .eq 5, 3) := by decide +kernel
theorem dX3_faultOfThree_17 : decode cX3_faultOfThree 17 = .ok (.iconst 3, 1) := by decide +kernel
theorem dX3_faultOfThree_18 : decode cX3_faultOfThree 18 = .ok (.ireturn, 1) := by decide +kernel
theorem dX3_faultOfThree_19 : decode cX3_faultOfThree 19 = .ok (.iload_n 2, 1) := by decide +kernel
theorem dX3_faultOfThree_20 : decode cX3_faultOfThree 20 = .ok (.ifCond .lt 13, 3) := by decide +kernel
theorem dX3_faultOfThree_23 : decode cX3_faultOfThree 23 = .ok (.iload_n 2, 1) := by decide +kernel
theorem dX3_faultOfThree_24 : decode cX3_faultOfThree 24 = .ok (.aload_n 0, 1) := by decide +kernel
theorem dX3_faultOfThree_25 : decode cX3_faultOfThree 25 = .ok (.getfield 9, 3) := by decide +kernel
theorem dX3_faultOfThree_28 : decode cX3_faultOfThree 28 = .ok (.iconst 3, 1) := by decide +kernel
theorem dX3_faultOfThree_29 : decode cX3_faultOfThree 29 = .ok (.isub, 1) := by decide +kernel
theorem dX3_faultOfThree_30 : decode cX3_faultOfThree 30 = .ok (.if_icmp .le 7, 3) := by decide +kernel
theorem dX3_faultOfThree_33 : decode cX3_faultOfThree 33 = .ok (.iconst 2, 1) := by decide +kernel
theorem dX3_faultOfThree_34 : decode cX3_faultOfThree 34 = .ok (.goto 4, 3) := by decide +kernel
theorem dX3_faultOfThree_37 : decode cX3_faultOfThree 37 = .ok (.iconst 0, 1) := by decide +kernel
theorem dX3_faultOfThree_38 : decode cX3_faultOfThree 38 = .ok (.ireturn, 1) := by decide +kernel
theorem dX3_put_0 : decode cX3_put 0 = .ok (.aload_n 0, 1) := by decide +kernel
theorem dX3_put_1 : decode cX3_put 1 = .ok (.getfield 19, 3) := by decide +kernel
theorem dX3_put_4 : decode cX3_put 4 = .ok (.lookupswitch 50 #[(0, 28), (1, 39)], 28) := by decide +kernel
theorem dX3_put_32 : decode cX3_put 32 = .ok (.aload_n 0, 1) := by decide +kernel
theorem dX3_put_33 : decode cX3_put 33 = .ok (.getfield 15, 3) := by decide +kernel
theorem dX3_put_36 : decode cX3_put 36 = .ok (.iload_n 1, 1) := by decide +kernel
theorem dX3_put_37 : decode cX3_put 37 = .ok (.iload_n 2, 1) := by decide +kernel
theorem dX3_put_38 : decode cX3_put 38 = .ok (.i2b, 1) := by decide +kernel
theorem dX3_put_39 : decode cX3_put 39 = .ok (.iastore, 1) := by decide +kernel
theorem dX3_put_40 : decode cX3_put 40 = .ok (.goto 21, 3) := by decide +kernel
theorem dX3_put_43 : decode cX3_put 43 = .ok (.aload_n 0, 1) := by decide +kernel
theorem dX3_put_44 : decode cX3_put 44 = .ok (.getfield 15, 3) := by decide +kernel
theorem dX3_put_47 : decode cX3_put 47 = .ok (.iload_n 1, 1) := by decide +kernel
theorem dX3_put_48 : decode cX3_put 48 = .ok (.iload_n 2, 1) := by decide +kernel
theorem dX3_put_49 : decode cX3_put 49 = .ok (.i2s, 1) := by decide +kernel
theorem dX3_put_50 : decode cX3_put 50 = .ok (.iastore, 1) := by decide +kernel
theorem dX3_put_51 : decode cX3_put 51 = .ok (.goto 10, 3) := by decide +kernel
theorem dX3_put_54 : decode cX3_put 54 = .ok (.aload_n 0, 1) := by decide +kernel
theorem dX3_put_55 : decode cX3_put 55 = .ok (.getfield 15, 3) := by decide +kernel
theorem dX3_put_58 : decode cX3_put 58 = .ok (.iload_n 1, 1) := by decide +kernel
theorem dX3_put_59 : decode cX3_put 59 = .ok (.iload_n 2, 1) := by decide +kernel
theorem dX3_put_60 : decode cX3_put 60 = .ok (.iastore, 1) := by decide +kernel
theorem dX3_put_61 : decode cX3_put 61 = .ok (.return_, 1) := by decide +kernel
end
section
theorem dX4_init_0 : decode cX4_init 0 = .ok (.aload_n 0, 1) := by decide +kernel
theorem dX4_init_1 : decode cX4_init 1 = .ok (.invokespecial 1, 3) := by decide +kernel
theorem dX4_init_4 : decode cX4_init 4 = .ok (.aload_n 0, 1) := by decide +kernel
theorem dX4_init_5 : decode cX4_init 5 = .ok (.new 7, 3) := by decide +kernel
theorem dX4_init_8 : decode cX4_init 8 = .ok (.dup, 1) := by decide +kernel
theorem dX4_init_9 : decode cX4_init 9 = .ok (.invokespecial 9, 3) := by decide +kernel
theorem dX4_init_12 : decode cX4_init 12 = .ok (.putfield 10, 3) := by decide +kernel
theorem dX4_init_15 : decode cX4_init 15 = .ok (.aload_n 0, 1) := by decide +kernel
theorem dX4_init_16 : decode cX4_init 16 = .ok (.new 7, 3) := by decide +kernel
theorem dX4_init_19 : decode cX4_init 19 = .ok (.dup, 1) := by decide +kernel
theorem dX4_init_20 : decode cX4_init 20 = .ok (.invokespecial 9, 3) := by decide +kernel
theorem dX4_init_23 : decode cX4_init 23 = .ok (.putfield 16, 3) := by decide +kernel
theorem dX4_init_26 : decode cX4_init 26 = .ok (.aload_n 0, 1) := by decide +kernel
theorem dX4_init_27 : decode cX4_init 27 = .ok (.iconst 2, 1) := by decide +kernel
theorem dX4_init_28 : decode cX4_init 28 = .ok (.anewarray 7, 3) := by decide +kernel
theorem dX4_init_31 : decode cX4_init 31 = .ok (.putfield 19, 3) := by decide +kernel
theorem dX4_init_34 : decode cX4_init 34 = .ok (.aload_n 0, 1) := by decide +kernel
theorem dX4_init_35 : decode cX4_init 35 = .ok (.iconst 2, 1) := by decide +kernel
theorem dX4_init_36 : decode cX4_init 36 = .ok (.newarray .boolean, 2) := by decide +kernel
theorem dX4_init_38 : decode cX4_init 38 = .ok (.putfield 23, 3) := by decide +kernel
theorem dX4_init_41 : decode cX4_init 41 = .ok (.aload_n 0, 1) := by decide +kernel
theorem dX4_init_42 : decode cX4_init 42 = .ok (.iconst 4, 1) := by decide +kernel
theorem dX4_init_43 : decode cX4_init 43 = .ok (.anewarray 27, 3) := by decide +kernel
theorem dX4_init_46 : decode cX4_init 46 = .ok (.putfield 29, 3) := by decide +kernel
theorem dX4_init_49 : decode cX4_init 49 = .ok (.aload_n 0, 1) := by decide +kernel
theorem dX4_init_50 : decode cX4_init 50 = .ok (.new 33, 3) := by decide +kernel
theorem dX4_init_53 : decode cX4_init 53 = .ok (.dup, 1) := by decide +kernel
theorem dX4_init_54 : decode cX4_init 54 = .ok (.invokespecial 35, 3) := by decide +kernel
theorem dX4_init_57 : decode cX4_init 57 = .ok (.putfield 36, 3) := by decide +kernel
theorem dX4_init_60 : decode cX4_init 60 = .ok (.aload_n 0, 1) := by decide +kernel
theorem dX4_init_61 : decode cX4_init 61 = .ok (.new 40, 3) := by decide +kernel
theorem dX4_init_64 : decode cX4_init 64 = .ok (.dup, 1) := by decide +kernel
theorem dX4_init_65 : decode cX4_init 65 = .ok (.invokespecial 42, 3) := by decide +kernel
theorem dX4_init_68 : decode cX4_init 68 = .ok (.putfield 43, 3) := by decide +kernel
theorem dX4_init_71 : decode cX4_init 71 = .ok (.iconst 0, 1) := by decide +kernel
theorem dX4_init_72 : decode cX4_init 72 = .ok (.istore_n 1, 1) := by decide +kernel
theorem dX4_init_73 : decode cX4_init 73 = .ok (.iload_n 1, 1) := by decide +kernel
theorem dX4_init_74 : decode cX4_init 74 = .ok (.iconst 2, 1) := by decide +kernel
theorem dX4_init_75 : decode cX4_init 75 = .ok (.if_icmp .ge 22, 3) := by decide +kernel
theorem dX4_init_78 : decode cX4_init 78 = .ok (.aload_n 0, 1) := by decide +kernel
theorem dX4_init_79 : decode cX4_init 79 = .ok (.getfield 19, 3) := by decide +kernel
theorem dX4_init_82 : decode cX4_init 82 = .ok (.iload_n 1, 1) := by decide +kernel
theorem dX4_init_83 : decode cX4_init 83 = .ok (.new 7, 3) := by decide +kernel
theorem dX4_init_86 : decode cX4_init 86 = .ok (.dup, 1) := by decide +kernel
theorem dX4_init_87 : decode cX4_init 87 = .ok (.invokespecial 9, 3) := by decide +kernel
theorem dX4_init_90 : decode cX4_init 90 = .ok (.aastore, 1) := by decide +kernel
theorem dX4_init_91 : decode cX4_init 91 = .ok (.iinc 1 1, 3) := by decide +kernel
theorem dX4_init_94 : decode cX4_init 94 = .ok (.goto (-21), 3) := by decide +kernel
theorem dX4_init_97 : decode cX4_init 97 = .ok (.iconst 0, 1) := by decide +kernel
theorem dX4_init_98 : decode cX4_init 98 = .ok (.istore_n 1, 1) := by decide +kernel
theorem dX4_init_99 : decode cX4_init 99 = .ok (.iload_n 1, 1) := by decide +kernel
theorem dX4_init_100 : decode cX4_init 100 = .ok (.iconst 4, 1) := by decide +kernel
theorem dX4_init_101 : decode cX4_init 101 = .ok (.if_icmp .ge 22, 3) := by decide +kernel
theorem dX4_init_104 : decode cX4_init 104 = .ok (.aload_n 0, 1) := by decide +kernel
theorem dX4_init_105 : decode cX4_init 105 = .ok (.getfield 29, 3) := by decide +kernel
theorem dX4_init_108 : decode cX4_init 108 = .ok (.iload_n 1, 1) := by decide +kernel
theorem dX4_init_109 : decode cX4_init 109 = .ok (.new 27, 3) := by decide +kernel
theorem dX4_init_112 : decode cX4_init 112 = .ok (.dup, 1) := by decide +kernel
theorem dX4_init_113 : decode cX4_init 113 = .ok (.invokespecial 47, 3) := by decide +kernel
theorem dX4_init_116 : decode cX4_init 116 = .ok (.aastore, 1) := by decide +kernel
theorem dX4_init_117 : decode cX4_init 117 = .ok (.iinc 1 1, 3) := by decide +kernel
theorem dX4_init_120 : decode cX4_init 120 = .ok (.goto (-21), 3) := by decide +kernel
theorem dX4_init_123 : decode cX4_init 123 = .ok (.return_, 1) := by decide +kernel
theorem dX4_feed_0 : decode cX4_feed 0 = .ok (.iload_n 1, 1) := by decide +kernel
theorem dX4_feed_1 : decode cX4_feed 1 = .ok (.ifCond .lt 9, 3) := by decide +kernel
theorem dX4_feed_4 : decode cX4_feed 4 = .ok (.iload_n 1, 1) := by decide +kernel
theorem dX4_feed_5 : decode cX4_feed 5 = .ok (.bipush 127, 2) := by decide +kernel
theorem dX4_feed_7 : decode cX4_feed 7 = .ok (.if_icmp .le 5, 3) := by decide +kernel
theorem dX4_feed_10 : decode cX4_feed 10 = .ok (.iconst (-1), 1) := by decide +kernel
theorem dX4_feed_11 : decode cX4_feed 11 = .ok (.ireturn, 1) := by decide +kernel
theorem dX4_feed_12 : decode cX4_feed 12 = .ok (.aload_n 0, 1) := by decide +kernel
theorem dX4_feed_13 : decode cX4_feed 13 = .ok (.getfield 43, 3) := by decide +kernel
theorem dX4_feed_16 : decode cX4_feed 16 = .ok (.getfield 48, 3) := by decide +kernel
theorem dX4_feed_19 : decode cX4_feed 19 = .ok (.sipush 160, 3) := by decide +kernel
theorem dX4_feed_22 : decode cX4_feed 22 = .ok (.if_icmp .lt 6, 3) := by decide +kernel
theorem dX4_feed_25 : decode cX4_feed 25 = .ok (.bipush (-3), 2) := by decide +kernel
theorem dX4_feed_27 : decode cX4_feed 27 = .ok (.ireturn, 1) := by decide +kernel
theorem dX4_feed_28 : decode cX4_feed 28 = .ok (.aload_n 0, 1) := by decide +kernel
theorem dX4_feed_29 : decode cX4_feed 29 = .ok (.getfield 43, 3) := by decide +kernel
theorem dX4_feed_32 : decode cX4_feed 32 = .ok (.getfield 52, 3) := by decide +kernel
theorem dX4_feed_35 : decode cX4_feed 35 = .ok (.aload_n 0, 1) := by decide +kernel
theorem dX4_feed_36 : decode cX4_feed 36 = .ok (.getfield 43, 3) := by decide +kernel
theorem dX4_feed_39 : decode cX4_feed 39 = .ok (.getfield 48, 3) := by decide +kernel
theorem dX4_feed_42 : decode cX4_feed 42 = .ok (.iload_n 1, 1) := by decide +kernel
theorem dX4_feed_43 : decode cX4_feed 43 = .ok (.i2b, 1) := by decide +kernel
theorem dX4_feed_44 : decode cX4_feed 44 = .ok (.bastore, 1) := by decide +kernel
theorem dX4_feed_45 : decode cX4_feed 45 = .ok (.aload_n 0, 1) := by decide +kernel
theorem dX4_feed_46 : decode cX4_feed 46 = .ok (.getfield 43, 3) := by decide +kernel
theorem dX4_feed_49 : decode cX4_feed 49 = .ok (.dup, 1) := by decide +kernel
theorem dX4_feed_50 : decode cX4_feed 50 = .ok (.getfield 48, 3) := by decide +kernel
theorem dX4_feed_53 : decode cX4_feed 53 = .ok (.iconst 1, 1) := by decide +kernel
theorem dX4_feed_54 : decode cX4_feed 54 = .ok (.iadd, 1) := by decide +kernel
theorem dX4_feed_55 : decode cX4_feed 55 = .ok (.putfield 48, 3) := by decide +kernel
theorem dX4_feed_58 : decode cX4_feed 58 = .ok (.aload_n 0, 1) := by decide +kernel
theorem dX4_feed_59 : decode cX4_feed 59 = .ok (.getfield 43, 3) := by decide +kernel
theorem dX4_feed_62 : decode cX4_feed 62 = .ok (.getfield 48, 3) := by decide +kernel
theorem dX4_feed_65 : decode cX4_feed 65 = .ok (.ireturn, 1) := by decide +kernel
theorem dX4_end_0 : decode cX4_end 0 = .ok (.iload_n 1, 1) := by decide +kernel
theorem dX4_end_1 : decode cX4_end 1 = .ok (.ifCond .lt 14, 3) := by decide +kernel
theorem dX4_end_4 : decode cX4_end 4 = .ok (.iload_n 1, 1) := by decide +kernel
theorem dX4_end_5 : decode cX4_end 5 = .ok (.aload_n 0, 1) := by decide +kernel
theorem dX4_end_6 : decode cX4_end 6 = .ok (.getfield 43, 3) := by decide +kernel
theorem dX4_end_9 : decode cX4_end 9 = .ok (.getfield 48, 3) := by decide +kernel
theorem dX4_end_12 : decode cX4_end 12 = .ok (.if_icmp .le 5, 3) := by decide +kernel
theorem dX4_end_15 : decode cX4_end 15 = .ok (.iconst (-1), 1) := by decide +kernel
theorem dX4_end_16 : decode cX4_end 16 = .ok (.ireturn, 1) := by decide +kernel
theorem dX4_end_17 : decode cX4_end 17 = .ok (.aload_n 0, 1) := by decide +kernel
theorem dX4_end_18 : decode cX4_end 18 = .ok (.getfield 43, 3) := by decide +kernel
theorem dX4_end_21 : decode cX4_end 21 = .ok (.getfield 48, 3) := by decide +kernel
theorem dX4_end_24 : decode cX4_end 24 = .ok (.istore_n 2, 1) := by decide +kernel
theorem dX4_end_25 : decode cX4_end 25 = .ok (.aload_n 0, 1) := by decide +kernel
theorem dX4_end_26 : decode cX4_end 26 = .ok (.getfield 43, 3) := by decide +kernel
theorem dX4_end_29 : decode cX4_end 29 = .ok (.iload_n 1, 1) := by decide +kernel
theorem dX4_end_30 : decode cX4_end 30 = .ok (.putfield 48, 3) := by decide +kernel
theorem dX4_end_33 : decode cX4_end 33 = .ok (.iload_n 2, 1) := by decide +kernel
theorem dX4_end_34 : decode cX4_end 34 = .ok (.ireturn, 1) := by decide +kernel
theorem dX4_text_0 : decode cX4_text 0 = .ok (.aload_n 0, 1) := by decide +kernel
theorem dX4_text_1 : decode cX4_text 1 = .ok (.getfield 43, 3) := by decide +kernel
theorem dX4_text_4 : decode cX4_text 4 = .ok (.aload_n 0, 1) := by decide +kernel
theorem dX4_text_5 : decode cX4_text 5 = .ok (.getfield 16, 3) := by decide +kernel
theorem dX4_text_8 : decode cX4_text 8 = .ok (.invokevirtual 56, 3) := by decide +kernel
theorem dX4_text_11 : decode cX4_text 11 = .ok (.istore_n 1, 1) := by decide +kernel
theorem dX4_text_12 : decode cX4_text 12 = .ok (.aload_n 0, 1) := by decide +kernel
theorem dX4_text_13 : decode cX4_text 13 = .ok (.getfield 43, 3) := by decide +kernel
theorem dX4_text_16 : decode cX4_text 16 = .ok (.getfield 60, 3) := by decide +kernel
theorem dX4_text_19 : decode cX4_text 19 = .ok (.ifCond .ne 18, 3) := by decide +kernel
theorem dX4_text_22 : decode cX4_text 22 = .ok (.aload_n 0, 1) := by decide +kernel
theorem dX4_text_23 : decode cX4_text 23 = .ok (.getfield 43, 3) := by decide +kernel
theorem dX4_text_26 : decode cX4_text 26 = .ok (.aload_n 0, 1) := by decide +kernel
theorem dX4_text_27 : decode cX4_text 27 = .ok (.aload_n 0, 1) := by decide +kernel
theorem dX4_text_28 : decode cX4_text 28 = .ok (.getfield 16, 3) := by decide +kernel
theorem dX4_text_31 : decode cX4_text 31 = .ok (.invokevirtual 63, 3) := by decide +kernel
theorem dX4_text_34 : decode cX4_text 34 = .ok (.invokevirtual 66, 3) := by decide +kernel
theorem dX4_text_37 : decode cX4_text 37 = .ok (.aload_n 0, 1) := by decide +kernel
theorem dX4_text_38 : decode cX4_text 38 = .ok (.getfield 36, 3) := by decide +kernel
theorem dX4_text_41 : decode cX4_text 41 = .ok (.invokevirtual 70, 3) := by decide +kernel
theorem dX4_text_44 : decode cX4_text 44 = .ok (.aload_n 0, 1) := by decide +kernel
theorem dX4_text_45 : decode cX4_text 45 = .ok (.getfield 43, 3) := by decide +kernel
theorem dX4_text_48 : decode cX4_text 48 = .ok (.iconst 0, 1) := by decide +kernel
theorem dX4_text_49 : decode cX4_text 49 = .ok (.putfield 48, 3) := by decide +kernel
theorem dX4_text_52 : decode cX4_text 52 = .ok (.aload_n 0, 1) := by decide +kernel
theorem dX4_text_53 : decode cX4_text 53 = .ok (.getfield 43, 3) := by decide +kernel
theorem dX4_text_56 : decode cX4_text 56 = .ok (.getfield 60, 3) := by decide +kernel
theorem dX4_text_59 : decode cX4_text 59 = .ok (.ifCond .eq 14, 3) := by decide +kernel
theorem dX4_text_62 : decode cX4_text 62 = .ok (.bipush (-10), 2) := by decide +kernel
theorem dX4_text_64 : decode cX4_text 64 = .ok (.aload_n 0, 1) := by decide +kernel
theorem dX4_text_65 : decode cX4_text 65 = .ok (.getfield 43, 3) := by decide +kernel
theorem dX4_text_68 : decode cX4_text 68 = .ok (.getfield 73, 3) := by decide +kernel
theorem dX4_text_71 : decode cX4_text 71 = .ok (.isub, 1) := by decide +kernel
theorem dX4_text_72 : decode cX4_text 72 = .ok (.ireturn, 1) := by decide +kernel
theorem dX4_text_73 : decode cX4_text 73 = .ok (.aload_n 0, 1) := by decide +kernel
theorem dX4_text_74 : decode cX4_text 74 = .ok (.getfield 10, 3) := by decide +kernel
theorem dX4_text_77 : decode cX4_text 77 = .ok (.aload_n 0, 1) := by decide +kernel
theorem dX4_text_78 : decode cX4_text 78 = .ok (.getfield 16, 3) := by decide +kernel
theorem dX4_text_81 : decode cX4_text 81 = .ok (.invokevirtual 76, 3) := by decide +kernel
theorem dX4_text_84 : decode cX4_text 84 = .ok (.iconst 0, 1) := by decide +kernel
theorem dX4_text_85 : decode cX4_text 85 = .ok (.istore_n 2, 1) := by decide +kernel
theorem dX4_text_86 : decode cX4_text 86 = .ok (.iload_n 2, 1) := by decide +kernel
theorem dX4_text_87 : decode cX4_text 87 = .ok (.iconst 2, 1) := by decide +kernel
theorem dX4_text_88 : decode cX4_text 88 = .ok (.if_icmp .ge 16, 3) := by decide +kernel
theorem dX4_text_91 : decode cX4_text 91 = .ok (.aload_n 0, 1) := by decide +kernel
theorem dX4_text_92 : decode cX4_text 92 = .ok (.getfield 23, 3) := by decide +kernel
theorem dX4_text_95 : decode cX4_text 95 = .ok (.iload_n 2, 1) := by decide +kernel
theorem dX4_text_96 : decode cX4_text 96 = .ok (.iconst 0, 1) := by decide +kernel
theorem dX4_text_97 : decode cX4_text 97 = .ok (.bastore, 1) := by decide +kernel
theorem dX4_text_98 : decode cX4_text 98 = .ok (.iinc 2 1, 3) := by decide +kernel
theorem dX4_text_101 : decode cX4_text 101 = .ok (.goto (-15), 3) := by decide +kernel
theorem dX4_text_104 : decode cX4_text 104 = .ok (.iload_n 1, 1) := by decide +kernel
theorem dX4_text_105 : decode cX4_text 105 = .ok (.ireturn, 1) := by decide +kernel
theorem dX4_fault_0 : decode cX4_fault 0 = .ok (.aload_n 0, 1) := by decide +kernel
theorem dX4_fault_1 : decode cX4_fault 1 = .ok (.getfield 43, 3) := by decide +kernel
theorem dX4_fault_4 : decode cX4_fault 4 = .ok (.getfield 60, 3) := by decide +kernel
theorem dX4_fault_7 : decode cX4_fault 7 = .ok (.ireturn, 1) := by decide +kernel
theorem dX4_rule_0 : decode cX4_rule 0 = .ok (.iload_n 1, 1) := by decide +kernel
theorem dX4_rule_1 : decode cX4_rule 1 = .ok (.tableswitch 127 0 8 #[51, 59, 67, 75, 84, 93, 101, 114, 122], 51) := by decide +kernel
theorem dX4_rule_52 : decode cX4_rule 52 = .ok (.aload_n 0, 1) := by decide +kernel
theorem dX4_rule_53 : decode cX4_rule 53 = .ok (.getfield 10, 3) := by decide +kernel
theorem dX4_rule_56 : decode cX4_rule 56 = .ok (.getfield 80, 3) := by decide +kernel
theorem dX4_rule_59 : decode cX4_rule 59 = .ok (.ireturn, 1) := by decide +kernel
theorem dX4_rule_60 : decode cX4_rule 60 = .ok (.aload_n 0, 1) := by decide +kernel
theorem dX4_rule_61 : decode cX4_rule 61 = .ok (.getfield 10, 3) := by decide +kernel
theorem dX4_rule_64 : decode cX4_rule 64 = .ok (.getfield 83, 3) := by decide +kernel
theorem dX4_rule_67 : decode cX4_rule 67 = .ok (.ireturn, 1) := by decide +kernel
theorem dX4_rule_68 : decode cX4_rule 68 = .ok (.aload_n 0, 1) := by decide +kernel
theorem dX4_rule_69 : decode cX4_rule 69 = .ok (.getfield 10, 3) := by decide +kernel
theorem dX4_rule_72 : decode cX4_rule 72 = .ok (.getfield 86, 3) := by decide +kernel
theorem dX4_rule_75 : decode cX4_rule 75 = .ok (.ireturn, 1) := by decide +kernel
theorem dX4_rule_76 : decode cX4_rule 76 = .ok (.aload_n 0, 1) := by decide +kernel
theorem dX4_rule_77 : decode cX4_rule 77 = .ok (.getfield 10, 3) := by decide +kernel
theorem dX4_rule_80 : decode cX4_rule 80 = .ok (.iconst 1, 1) := by decide +kernel
theorem dX4_rule_81 : decode cX4_rule 81 = .ok (.invokevirtual 89, 3) := by decide +kernel
theorem dX4_rule_84 : decode cX4_rule 84 = .ok (.ireturn, 1) := by decide +kernel
theorem dX4_rule_85 : decode cX4_rule 85 = .ok (.aload_n 0, 1) := by decide +kernel
theorem dX4_rule_86 : decode cX4_rule 86 = .ok (.getfield 10, 3) := by decide +kernel
theorem dX4_rule_89 : decode cX4_rule 89 = .ok (.iconst 2, 1) := by decide +kernel
theorem dX4_rule_90 : decode cX4_rule 90 = .ok (.invokevirtual 89, 3) := by decide +kernel
theorem dX4_rule_93 : decode cX4_rule 93 = .ok (.ireturn, 1) := by decide +kernel
theorem dX4_rule_94 : decode cX4_rule 94 = .ok (.aload_n 0, 1) := by decide +kernel
theorem dX4_rule_95 : decode cX4_rule 95 = .ok (.getfield 10, 3) := by decide +kernel
theorem dX4_rule_98 : decode cX4_rule 98 = .ok (.getfield 93, 3) := by decide +kernel
theorem dX4_rule_101 : decode cX4_rule 101 = .ok (.ireturn, 1) := by decide +kernel
theorem dX4_rule_102 : decode cX4_rule 102 = .ok (.aload_n 0, 1) := by decide +kernel
theorem dX4_rule_103 : decode cX4_rule 103 = .ok (.invokevirtual 96, 3) := by decide +kernel
theorem dX4_rule_106 : decode cX4_rule 106 = .ok (.ifCond .eq 7, 3) := by decide +kernel
theorem dX4_rule_109 : decode cX4_rule 109 = .ok (.iconst 1, 1) := by decide +kernel
theorem dX4_rule_110 : decode cX4_rule 110 = .ok (.goto 4, 3) := by decide +kernel
theorem dX4_rule_113 : decode cX4_rule 113 = .ok (.iconst 0, 1) := by decide +kernel
theorem dX4_rule_114 : decode cX4_rule 114 = .ok (.ireturn, 1) := by decide +kernel
theorem dX4_rule_115 : decode cX4_rule 115 = .ok (.aload_n 0, 1) := by decide +kernel
theorem dX4_rule_116 : decode cX4_rule 116 = .ok (.getfield 10, 3) := by decide +kernel
theorem dX4_rule_119 : decode cX4_rule 119 = .ok (.invokevirtual 100, 3) := by decide +kernel
theorem dX4_rule_122 : decode cX4_rule 122 = .ok (.ireturn, 1) := by decide +kernel
theorem dX4_rule_123 : decode cX4_rule 123 = .ok (.aload_n 0, 1) := by decide +kernel
theorem dX4_rule_124 : decode cX4_rule 124 = .ok (.invokevirtual 104, 3) := by decide +kernel
theorem dX4_rule_127 : decode cX4_rule 127 = .ok (.ireturn, 1) := by decide +kernel
theorem dX4_rule_128 : decode cX4_rule 128 = .ok (.iconst (-1), 1) := by decide +kernel
theorem dX4_rule_129 : decode cX4_rule 129 = .ok (.ireturn, 1) := by decide +kernel
theorem dX4_place_0 : decode cX4_place 0 = .ok (.aload_n 0, 1) := by decide +kernel
theorem dX4_place_1 : decode cX4_place 1 = .ok (.getfield 10, 3) := by decide +kernel
theorem dX4_place_4 : decode cX4_place 4 = .ok (.iload_n 1, 1) := by decide +kernel
theorem dX4_place_5 : decode cX4_place 5 = .ok (.invokevirtual 107, 3) := by decide +kernel
theorem dX4_place_8 : decode cX4_place 8 = .ok (.ifCond .ne 5, 3) := by decide +kernel
theorem dX4_place_11 : decode cX4_place 11 = .ok (.iconst (-1), 1) := by decide +kernel
theorem dX4_place_12 : decode cX4_place 12 = .ok (.ireturn, 1) := by decide +kernel
theorem dX4_place_13 : decode cX4_place 13 = .ok (.iload_n 2, 1) := by decide +kernel
theorem dX4_place_14 : decode cX4_place 14 = .ok (.tableswitch 119 0 5 #[38, 48, 48, 48, 82, 91], 38) := by decide +kernel
theorem dX4_place_52 : decode cX4_place 52 = .ok (.aload_n 0, 1) := by decide +kernel
theorem dX4_place_53 : decode cX4_place 53 = .ok (.getfield 10, 3) := by decide +kernel
theorem dX4_place_56 : decode cX4_place 56 = .ok (.getfield 111, 3) := by decide +kernel
theorem dX4_place_59 : decode cX4_place 59 = .ok (.iload_n 1, 1) := by decide +kernel
theorem dX4_place_60 : decode cX4_place 60 = .ok (.iaload, 1) := by decide +kernel
theorem dX4_place_61 : decode cX4_place 61 = .ok (.ireturn, 1) := by decide +kernel
theorem dX4_place_62 : decode cX4_place 62 = .ok (.iload_n 2, 1) := by decide +kernel
theorem dX4_place_63 : decode cX4_place 63 = .ok (.aload_n 0, 1) := by decide +kernel
theorem dX4_place_64 : decode cX4_place 64 = .ok (.getfield 10, 3) := by decide +kernel
theorem dX4_place_67 : decode cX4_place 67 = .ok (.getfield 111, 3) := by decide +kernel
theorem dX4_place_70 : decode cX4_place 70 = .ok (.iload_n 1, 1) := by decide +kernel
theorem dX4_place_71 : decode cX4_place 71 = .ok (.iaload, 1) := by decide +kernel
theorem dX4_place_72 : decode cX4_place 72 = .ok (.if_icmp .le 8, 3) := by decide +kernel
theorem dX4_place_75 : decode cX4_place 75 = .ok (.bipush (-4), 2) := by decide +kernel
theorem dX4_place_77 : decode cX4_place 77 = .ok (.goto 18, 3) := by decide +kernel
theorem dX4_place_80 : decode cX4_place 80 = .ok (.aload_n 0, 1) := by decide +kernel
theorem dX4_place_81 : decode cX4_place 81 = .ok (.getfield 10, 3) := by decide +kernel
theorem dX4_place_84 : decode cX4_place 84 = .ok (.getfield 115, 3) := by decide +kernel
theorem dX4_place_87 : decode cX4_place 87 = .ok (.iload_n 1, 1) := by decide +kernel
theorem dX4_place_88 : decode cX4_place 88 = .ok (.iconst 3, 1) := by decide +kernel
theorem dX4_place_89 : decode cX4_place 89 = .ok (.imul, 1) := by decide +kernel
theorem dX4_place_90 : decode cX4_place 90 = .ok (.iload_n 2, 1) := by decide +kernel
theorem dX4_place_91 : decode cX4_place 91 = .ok (.iadd, 1) := by decide +kernel
theorem dX4_place_92 : decode cX4_place 92 = .ok (.iconst 1, 1) := by decide +kernel
theorem dX4_place_93 : decode cX4_place 93 = .ok (.isub, 1) := by decide +kernel
theorem dX4_place_94 : decode cX4_place 94 = .ok (.iaload, 1) := by decide +kernel
theorem dX4_place_95 : decode cX4_place 95 = .ok (.ireturn, 1) := by decide +kernel
theorem dX4_place_96 : decode cX4_place 96 = .ok (.aload_n 0, 1) := by decide +kernel
theorem dX4_place_97 : decode cX4_place 97 = .ok (.getfield 10, 3) := by decide +kernel
theorem dX4_place_100 : decode cX4_place 100 = .ok (.iload_n 1, 1) := by decide +kernel
theorem dX4_place_101 : decode cX4_place 101 = .ok (.invokevirtual 118, 3) := by decide +kernel
theorem dX4_place_104 : decode cX4_place 104 = .ok (.ireturn, 1) := by decide +kernel
theorem dX4_place_105 : decode cX4_place 105 = .ok (.iload_n 1, 1) := by decide +kernel
theorem dX4_place_106 : decode cX4_place 106 = .ok (.aload_n 0, 1) := by decide +kernel
theorem dX4_place_107 : decode cX4_place 107 = .ok (.getfield 10, 3) := by decide +kernel
theorem dX4_place_110 : decode cX4_place 110 = .ok (.getfield 80, 3) := by decide +kernel
theorem dX4_place_113 : decode cX4_place 113 = .ok (.iconst 1, 1) := by decide +kernel
theorem dX4_place_114 : decode cX4_place 114 = .ok (.isub, 1) := by decide +kernel
theorem dX4_place_115 : decode cX4_place 115 = .ok (.if_icmp .ne 8, 3) := by decide +kernel
theorem dX4_place_118 : decode cX4_place 118 = .ok (.bipush (-4), 2) := by decide +kernel
theorem dX4_place_120 : decode cX4_place 120 = .ok (.goto 12, 3) := by decide +kernel
theorem dX4_place_123 : decode cX4_place 123 = .ok (.aload_n 0, 1) := by decide +kernel
theorem dX4_place_124 : decode cX4_place 124 = .ok (.getfield 10, 3) := by decide +kernel
theorem dX4_place_127 : decode cX4_place 127 = .ok (.getfield 121, 3) := by decide +kernel
theorem dX4_place_130 : decode cX4_place 130 = .ok (.iload_n 1, 1) := by decide +kernel
theorem dX4_place_131 : decode cX4_place 131 = .ok (.iaload, 1) := by decide +kernel
theorem dX4_place_132 : decode cX4_place 132 = .ok (.ireturn, 1) := by decide +kernel
theorem dX4_place_133 : decode cX4_place 133 = .ok (.iconst (-1), 1) := by decide +kernel
theorem dX4_place_134 : decode cX4_place 134 = .ok (.ireturn, 1) := by decide +kernel
theorem dX4_train_0 : decode cX4_train 0 = .ok (.aload_n 0, 1) := by decide +kernel
theorem dX4_train_1 : decode cX4_train 1 = .ok (.getfield 10, 3) := by decide +kernel
theorem dX4_train_4 : decode cX4_train 4 = .ok (.iload_n 1, 1) := by decide +kernel
theorem dX4_train_5 : decode cX4_train 5 = .ok (.invokevirtual 124, 3) := by decide +kernel
theorem dX4_train_8 : decode cX4_train 8 = .ok (.ifCond .ne 5, 3) := by decide +kernel
theorem dX4_train_11 : decode cX4_train 11 = .ok (.iconst (-1), 1) := by decide +kernel
theorem dX4_train_12 : decode cX4_train 12 = .ok (.ireturn, 1) := by decide +kernel
theorem dX4_train_13 : decode cX4_train 13 = .ok (.iload_n 2, 1) := by decide +kernel
theorem dX4_train_14 : decode cX4_train 14 = .ok (.tableswitch 153 0 6 #[42, 52, 62, 72, 107, 117, 144], 42) := by decide +kernel
theorem dX4_train_56 : decode cX4_train 56 = .ok (.aload_n 0, 1) := by decide +kernel
theorem dX4_train_57 : decode cX4_train 57 = .ok (.getfield 10, 3) := by decide +kernel
theorem dX4_train_60 : decode cX4_train 60 = .ok (.getfield 127, 3) := by decide +kernel
theorem dX4_train_63 : decode cX4_train 63 = .ok (.iload_n 1, 1) := by decide +kernel
theorem dX4_train_64 : decode cX4_train 64 = .ok (.iaload, 1) := by decide +kernel
theorem dX4_train_65 : decode cX4_train 65 = .ok (.ireturn, 1) := by decide +kernel
theorem dX4_train_66 : decode cX4_train 66 = .ok (.aload_n 0, 1) := by decide +kernel
theorem dX4_train_67 : decode cX4_train 67 = .ok (.getfield 10, 3) := by decide +kernel
theorem dX4_train_70 : decode cX4_train 70 = .ok (.getfield 130, 3) := by decide +kernel
theorem dX4_train_73 : decode cX4_train 73 = .ok (.iload_n 1, 1) := by decide +kernel
theorem dX4_train_74 : decode cX4_train 74 = .ok (.iaload, 1) := by decide +kernel
theorem dX4_train_75 : decode cX4_train 75 = .ok (.ireturn, 1) := by decide +kernel
theorem dX4_train_76 : decode cX4_train 76 = .ok (.aload_n 0, 1) := by decide +kernel
theorem dX4_train_77 : decode cX4_train 77 = .ok (.getfield 10, 3) := by decide +kernel
theorem dX4_train_80 : decode cX4_train 80 = .ok (.getfield 133, 3) := by decide +kernel
theorem dX4_train_83 : decode cX4_train 83 = .ok (.iload_n 1, 1) := by decide +kernel
theorem dX4_train_84 : decode cX4_train 84 = .ok (.iaload, 1) := by decide +kernel
theorem dX4_train_85 : decode cX4_train 85 = .ok (.ireturn, 1) := by decide +kernel
theorem dX4_train_86 : decode cX4_train 86 = .ok (.aload_n 0, 1) := by decide +kernel
theorem dX4_train_87 : decode cX4_train 87 = .ok (.getfield 10, 3) := by decide +kernel
theorem dX4_train_90 : decode cX4_train 90 = .ok (.getfield 135, 3) := by decide +kernel
theorem dX4_train_93 : decode cX4_train 93 = .ok (.iload_n 1, 1) := by decide +kernel
theorem dX4_train_94 : decode cX4_train 94 = .ok (.iaload, 1) := by decide +kernel
theorem dX4_train_95 : decode cX4_train 95 = .ok (.ifCond .ne 8, 3) := by decide +kernel
theorem dX4_train_98 : decode cX4_train 98 = .ok (.bipush (-4), 2) := by decide +kernel
theorem dX4_train_100 : decode cX4_train 100 = .ok (.goto 20, 3) := by decide +kernel
theorem dX4_train_103 : decode cX4_train 103 = .ok (.aload_n 0, 1) := by decide +kernel
theorem dX4_train_104 : decode cX4_train 104 = .ok (.getfield 10, 3) := by decide +kernel
theorem dX4_train_107 : decode cX4_train 107 = .ok (.iload_n 1, 1) := by decide +kernel
theorem dX4_train_108 : decode cX4_train 108 = .ok (.aload_n 0, 1) := by decide +kernel
theorem dX4_train_109 : decode cX4_train 109 = .ok (.getfield 10, 3) := by decide +kernel
theorem dX4_train_112 : decode cX4_train 112 = .ok (.getfield 135, 3) := by decide +kernel
theorem dX4_train_115 : decode cX4_train 115 = .ok (.iload_n 1, 1) := by decide +kernel
theorem dX4_train_116 : decode cX4_train 116 = .ok (.iaload, 1) := by decide +kernel
theorem dX4_train_117 : decode cX4_train 117 = .ok (.invokevirtual 138, 3) := by decide +kernel
theorem dX4_train_120 : decode cX4_train 120 = .ok (.ireturn, 1) := by decide +kernel
theorem dX4_train_121 : decode cX4_train 121 = .ok (.aload_n 0, 1) := by decide +kernel
theorem dX4_train_122 : decode cX4_train 122 = .ok (.getfield 10, 3) := by decide +kernel
theorem dX4_train_125 : decode cX4_train 125 = .ok (.getfield 142, 3) := by decide +kernel
theorem dX4_train_128 : decode cX4_train 128 = .ok (.iload_n 1, 1) := by decide +kernel
theorem dX4_train_129 : decode cX4_train 129 = .ok (.iaload, 1) := by decide +kernel
theorem dX4_train_130 : decode cX4_train 130 = .ok (.ireturn, 1) := by decide +kernel
theorem dX4_train_131 : decode cX4_train 131 = .ok (.aload_n 0, 1) := by decide +kernel
theorem dX4_train_132 : decode cX4_train 132 = .ok (.getfield 10, 3) := by decide +kernel
theorem dX4_train_135 : decode cX4_train 135 = .ok (.getfield 142, 3) := by decide +kernel
theorem dX4_train_138 : decode cX4_train 138 = .ok (.iload_n 1, 1) := by decide +kernel
theorem dX4_train_139 : decode cX4_train 139 = .ok (.iaload, 1) := by decide +kernel
theorem dX4_train_140 : decode cX4_train 140 = .ok (.ifCond .ne 8, 3) := by decide +kernel
theorem dX4_train_143 : decode cX4_train 143 = .ok (.bipush (-4), 2) := by decide +kernel
theorem dX4_train_145 : decode cX4_train 145 = .ok (.goto 12, 3) := by decide +kernel
theorem dX4_train_148 : decode cX4_train 148 = .ok (.aload_n 0, 1) := by decide +kernel
theorem dX4_train_149 : decode cX4_train 149 = .ok (.getfield 10, 3) := by decide +kernel
theorem dX4_train_152 : decode cX4_train 152 = .ok (.getfield 145, 3) := by decide +kernel
theorem dX4_train_155 : decode cX4_train 155 = .ok (.iload_n 1, 1) := by decide +kernel
theorem dX4_train_156 : decode cX4_train 156 = .ok (.iaload, 1) := by decide +kernel
theorem dX4_train_157 : decode cX4_train 157 = .ok (.ireturn, 1) := by decide +kernel
theorem dX4_train_158 : decode cX4_train 158 = .ok (.aload_n 0, 1) := by decide +kernel
theorem dX4_train_159 : decode cX4_train 159 = .ok (.getfield 10, 3) := by decide +kernel
theorem dX4_train_162 : decode cX4_train 162 = .ok (.iload_n 1, 1) := by decide +kernel
theorem dX4_train_163 : decode cX4_train 163 = .ok (.invokevirtual 148, 3) := by decide +kernel
theorem dX4_train_166 : decode cX4_train 166 = .ok (.ireturn, 1) := by decide +kernel
theorem dX4_train_167 : decode cX4_train 167 = .ok (.iconst (-1), 1) := by decide +kernel
theorem dX4_train_168 : decode cX4_train 168 = .ok (.ireturn, 1) := by decide +kernel
theorem dX4_why_0 : decode cX4_why 0 = .ok (.aload_n 0, 1) := by decide +kernel
theorem dX4_why_1 : decode cX4_why 1 = .ok (.getfield 10, 3) := by decide +kernel
theorem dX4_why_4 : decode cX4_why 4 = .ok (.iload_n 1, 1) := by decide +kernel
theorem dX4_why_5 : decode cX4_why 5 = .ok (.invokevirtual 124, 3) := by decide +kernel
theorem dX4_why_8 : decode cX4_why 8 = .ok (.ifCond .ne 5, 3) := by decide +kernel
theorem dX4_why_11 : decode cX4_why 11 = .ok (.iconst (-1), 1) := by decide +kernel
theorem dX4_why_12 : decode cX4_why 12 = .ok (.ireturn, 1) := by decide +kernel
theorem dX4_why_13 : decode cX4_why 13 = .ok (.aload_n 0, 1) := by decide +kernel
theorem dX4_why_14 : decode cX4_why 14 = .ok (.getfield 36, 3) := by decide +kernel
theorem dX4_why_17 : decode cX4_why 17 = .ok (.aload_n 0, 1) := by decide +kernel
theorem dX4_why_18 : decode cX4_why 18 = .ok (.getfield 10, 3) := by decide +kernel
theorem dX4_why_21 : decode cX4_why 21 = .ok (.invokevirtual 151, 3) := by decide +kernel
theorem dX4_why_24 : decode cX4_why 24 = .ok (.aload_n 0, 1) := by decide +kernel
theorem dX4_why_25 : decode cX4_why 25 = .ok (.aload_n 0, 1) := by decide +kernel
theorem dX4_why_26 : decode cX4_why 26 = .ok (.getfield 10, 3) := by decide +kernel
theorem dX4_why_29 : decode cX4_why 29 = .ok (.iload_n 1, 1) := by decide +kernel
theorem dX4_why_30 : decode cX4_why 30 = .ok (.invokevirtual 154, 3) := by decide +kernel
theorem dX4_why_33 : decode cX4_why 33 = .ok (.ireturn, 1) := by decide +kernel
theorem dX4_who_0 : decode cX4_who 0 = .ok (.aload_n 0, 1) := by decide +kernel
theorem dX4_who_1 : decode cX4_who 1 = .ok (.getfield 10, 3) := by decide +kernel
theorem dX4_who_4 : decode cX4_who 4 = .ok (.iload_n 1, 1) := by decide +kernel
theorem dX4_who_5 : decode cX4_who 5 = .ok (.invokevirtual 124, 3) := by decide +kernel
theorem dX4_who_8 : decode cX4_who 8 = .ok (.ifCond .ne 5, 3) := by decide +kernel
theorem dX4_who_11 : decode cX4_who 11 = .ok (.iconst (-1), 1) := by decide +kernel
theorem dX4_who_12 : decode cX4_who 12 = .ok (.ireturn, 1) := by decide +kernel
theorem dX4_who_13 : decode cX4_who 13 = .ok (.aload_n 0, 1) := by decide +kernel
theorem dX4_who_14 : decode cX4_who 14 = .ok (.getfield 36, 3) := by decide +kernel
theorem dX4_who_17 : decode cX4_who 17 = .ok (.aload_n 0, 1) := by decide +kernel
theorem dX4_who_18 : decode cX4_who 18 = .ok (.getfield 10, 3) := by decide +kernel
theorem dX4_who_21 : decode cX4_who 21 = .ok (.invokevirtual 151, 3) := by decide +kernel
theorem dX4_who_24 : decode cX4_who 24 = .ok (.aload_n 0, 1) := by decide +kernel
theorem dX4_who_25 : decode cX4_who 25 = .ok (.aload_n 0, 1) := by decide +kernel
theorem dX4_who_26 : decode cX4_who 26 = .ok (.getfield 10, 3) := by decide +kernel
theorem dX4_who_29 : decode cX4_who 29 = .ok (.iload_n 1, 1) := by decide +kernel
theorem dX4_who_30 : decode cX4_who 30 = .ok (.invokevirtual 154, 3) := by decide +kernel
theorem dX4_who_33 : decode cX4_who 33 = .ok (.tableswitch 78 3 5 #[27, 52, 65], 27) := by decide +kernel
theorem dX4_who_60 : decode cX4_who 60 = .ok (.aload_n 0, 1) := by decide +kernel
theorem dX4_who_61 : decode cX4_who 61 = .ok (.getfield 10, 3) := by decide +kernel
theorem dX4_who_64 : decode cX4_who 64 = .ok (.aload_n 0, 1) := by decide +kernel
theorem dX4_who_65 : decode cX4_who 65 = .ok (.getfield 10, 3) := by decide +kernel
theorem dX4_who_68 : decode cX4_who 68 = .ok (.iload_n 1, 1) := by decide +kernel
theorem dX4_who_69 : decode cX4_who 69 = .ok (.aload_n 0, 1) := by decide +kernel
theorem dX4_who_70 : decode cX4_who 70 = .ok (.getfield 10, 3) := by decide +kernel
theorem dX4_who_73 : decode cX4_who 73 = .ok (.getfield 135, 3) := by decide +kernel
theorem dX4_who_76 : decode cX4_who 76 = .ok (.iload_n 1, 1) := by decide +kernel
theorem dX4_who_77 : decode cX4_who 77 = .ok (.iaload, 1) := by decide +kernel
theorem dX4_who_78 : decode cX4_who 78 = .ok (.invokevirtual 158, 3) := by decide +kernel
theorem dX4_who_81 : decode cX4_who 81 = .ok (.invokevirtual 161, 3) := by decide +kernel
theorem dX4_who_84 : decode cX4_who 84 = .ok (.ireturn, 1) := by decide +kernel
theorem dX4_who_85 : decode cX4_who 85 = .ok (.aload_n 0, 1) := by decide +kernel
theorem dX4_who_86 : decode cX4_who 86 = .ok (.getfield 36, 3) := by decide +kernel
theorem dX4_who_89 : decode cX4_who 89 = .ok (.aload_n 0, 1) := by decide +kernel
theorem dX4_who_90 : decode cX4_who 90 = .ok (.getfield 10, 3) := by decide +kernel
theorem dX4_who_93 : decode cX4_who 93 = .ok (.iload_n 1, 1) := by decide +kernel
theorem dX4_who_94 : decode cX4_who 94 = .ok (.invokevirtual 164, 3) := by decide +kernel
theorem dX4_who_97 : decode cX4_who 97 = .ok (.ireturn, 1) := by decide +kernel
theorem dX4_who_98 : decode cX4_who 98 = .ok (.aload_n 0, 1) := by decide +kernel
theorem dX4_who_99 : decode cX4_who 99 = .ok (.getfield 36, 3) := by decide +kernel
theorem dX4_who_102 : decode cX4_who 102 = .ok (.aload_n 0, 1) := by decide +kernel
theorem dX4_who_103 : decode cX4_who 103 = .ok (.getfield 10, 3) := by decide +kernel
theorem dX4_who_106 : decode cX4_who 106 = .ok (.iload_n 1, 1) := by decide +kernel
theorem dX4_who_107 : decode cX4_who 107 = .ok (.invokevirtual 167, 3) := by decide +kernel
theorem dX4_who_110 : decode cX4_who 110 = .ok (.ireturn, 1) := by decide +kernel
theorem dX4_who_111 : decode cX4_who 111 = .ok (.bipush (-4), 2) := by decide +kernel
theorem dX4_who_113 : decode cX4_who 113 = .ok (.ireturn, 1) := by decide +kernel
theorem dX4_order_0 : decode cX4_order 0 = .ok (.iload_n 1, 1) := by decide +kernel
theorem dX4_order_1 : decode cX4_order 1 = .ok (.ifCond .ge 5, 3) := by decide +kernel
theorem dX4_order_4 : decode cX4_order 4 = .ok (.iconst (-1), 1) := by decide +kernel
theorem dX4_order_5 : decode cX4_order 5 = .ok (.ireturn, 1) := by decide +kernel
theorem dX4_order_6 : decode cX4_order 6 = .ok (.aload_n 0, 1) := by decide +kernel
theorem dX4_order_7 : decode cX4_order 7 = .ok (.getfield 36, 3) := by decide +kernel
theorem dX4_order_10 : decode cX4_order 10 = .ok (.aload_n 0, 1) := by decide +kernel
theorem dX4_order_11 : decode cX4_order 11 = .ok (.getfield 10, 3) := by decide +kernel
theorem dX4_order_14 : decode cX4_order 14 = .ok (.invokevirtual 170, 3) := by decide +kernel
theorem dX4_order_17 : decode cX4_order 17 = .ok (.iload_n 1, 1) := by decide +kernel
theorem dX4_order_18 : decode cX4_order 18 = .ok (.aload_n 0, 1) := by decide +kernel
theorem dX4_order_19 : decode cX4_order 19 = .ok (.getfield 36, 3) := by decide +kernel
theorem dX4_order_22 : decode cX4_order 22 = .ok (.aload_n 0, 1) := by decide +kernel
theorem dX4_order_23 : decode cX4_order 23 = .ok (.getfield 10, 3) := by decide +kernel
theorem dX4_order_26 : decode cX4_order 26 = .ok (.invokevirtual 173, 3) := by decide +kernel
theorem dX4_order_29 : decode cX4_order 29 = .ok (.if_icmp .ge 15, 3) := by decide +kernel
theorem dX4_order_32 : decode cX4_order 32 = .ok (.aload_n 0, 1) := by decide +kernel
theorem dX4_order_33 : decode cX4_order 33 = .ok (.getfield 36, 3) := by decide +kernel
theorem dX4_order_36 : decode cX4_order 36 = .ok (.getfield 176, 3) := by decide +kernel
theorem dX4_order_39 : decode cX4_order 39 = .ok (.iload_n 1, 1) := by decide +kernel
theorem dX4_order_40 : decode cX4_order 40 = .ok (.iaload, 1) := by decide +kernel
theorem dX4_order_41 : decode cX4_order 41 = .ok (.goto 5, 3) := by decide +kernel
theorem dX4_order_44 : decode cX4_order 44 = .ok (.bipush (-4), 2) := by decide +kernel
theorem dX4_order_46 : decode cX4_order 46 = .ok (.ireturn, 1) := by decide +kernel
theorem dX4_reach_0 : decode cX4_reach 0 = .ok (.iload_n 1, 1) := by decide +kernel
theorem dX4_reach_1 : decode cX4_reach 1 = .ok (.ifCond .lt 8, 3) := by decide +kernel
theorem dX4_reach_4 : decode cX4_reach 4 = .ok (.iload_n 1, 1) := by decide +kernel
theorem dX4_reach_5 : decode cX4_reach 5 = .ok (.iconst 1, 1) := by decide +kernel
theorem dX4_reach_6 : decode cX4_reach 6 = .ok (.if_icmp .le 5, 3) := by decide +kernel
theorem dX4_reach_9 : decode cX4_reach 9 = .ok (.iconst (-1), 1) := by decide +kernel
theorem dX4_reach_10 : decode cX4_reach 10 = .ok (.ireturn, 1) := by decide +kernel
theorem dX4_reach_11 : decode cX4_reach 11 = .ok (.aload_n 0, 1) := by decide +kernel
theorem dX4_reach_12 : decode cX4_reach 12 = .ok (.getfield 36, 3) := by decide +kernel
theorem dX4_reach_15 : decode cX4_reach 15 = .ok (.aload_n 0, 1) := by decide +kernel
theorem dX4_reach_16 : decode cX4_reach 16 = .ok (.getfield 10, 3) := by decide +kernel
theorem dX4_reach_19 : decode cX4_reach 19 = .ok (.invokevirtual 151, 3) := by decide +kernel
theorem dX4_reach_22 : decode cX4_reach 22 = .ok (.aload_n 0, 1) := by decide +kernel
theorem dX4_reach_23 : decode cX4_reach 23 = .ok (.getfield 36, 3) := by decide +kernel
theorem dX4_reach_26 : decode cX4_reach 26 = .ok (.aload_n 0, 1) := by decide +kernel
theorem dX4_reach_27 : decode cX4_reach 27 = .ok (.getfield 10, 3) := by decide +kernel
theorem dX4_reach_30 : decode cX4_reach 30 = .ok (.iload_n 1, 1) := by decide +kernel
theorem dX4_reach_31 : decode cX4_reach 31 = .ok (.iconst 1, 1) := by decide +kernel
theorem dX4_reach_32 : decode cX4_reach 32 = .ok (.if_icmp .ne 7, 3) := by decide +kernel
theorem dX4_reach_35 : decode cX4_reach 35 = .ok (.iconst 1, 1) := by decide +kernel
theorem dX4_reach_36 : decode cX4_reach 36 = .ok (.goto 4, 3) := by decide +kernel
theorem dX4_reach_39 : decode cX4_reach 39 = .ok (.iconst 0, 1) := by decide +kernel
theorem dX4_reach_40 : decode cX4_reach 40 = .ok (.invokevirtual 179, 3) := by decide +kernel
theorem dX4_reach_43 : decode cX4_reach 43 = .ok (.ireturn, 1) := by decide +kernel
theorem dX4_plan_0 : decode cX4_plan 0 = .ok (.iload_n 1, 1) := by decide +kernel
theorem dX4_plan_1 : decode cX4_plan 1 = .ok (.invokestatic 183, 3) := by decide +kernel
theorem dX4_plan_4 : decode cX4_plan 4 = .ok (.ifCond .eq 12, 3) := by decide +kernel
theorem dX4_plan_7 : decode cX4_plan 7 = .ok (.iload_n 2, 1) := by decide +kernel
theorem dX4_plan_8 : decode cX4_plan 8 = .ok (.ifCond .lt 8, 3) := by decide +kernel
theorem dX4_plan_11 : decode cX4_plan 11 = .ok (.iload_n 2, 1) := by decide +kernel
theorem dX4_plan_12 : decode cX4_plan 12 = .ok (.iconst 1, 1) := by decide +kernel
theorem dX4_plan_13 : decode cX4_plan 13 = .ok (.if_icmp .le 5, 3) := by decide +kernel
theorem dX4_plan_16 : decode cX4_plan 16 = .ok (.iconst (-1), 1) := by decide +kernel
theorem dX4_plan_17 : decode cX4_plan 17 = .ok (.ireturn, 1) := by decide +kernel
theorem dX4_plan_18 : decode cX4_plan 18 = .ok (.aload_n 0, 1) := by decide +kernel
theorem dX4_plan_19 : decode cX4_plan 19 = .ok (.iload_n 1, 1) := by decide +kernel
theorem dX4_plan_20 : decode cX4_plan 20 = .ok (.iload_n 2, 1) := by decide +kernel
theorem dX4_plan_21 : decode cX4_plan 21 = .ok (.iconst 1, 1) := by decide +kernel
theorem dX4_plan_22 : decode cX4_plan 22 = .ok (.if_icmp .ne 7, 3) := by decide +kernel
theorem dX4_plan_25 : decode cX4_plan 25 = .ok (.iconst 1, 1) := by decide +kernel
theorem dX4_plan_26 : decode cX4_plan 26 = .ok (.goto 4, 3) := by decide +kernel
theorem dX4_plan_29 : decode cX4_plan 29 = .ok (.iconst 0, 1) := by decide +kernel
theorem dX4_plan_30 : decode cX4_plan 30 = .ok (.invokevirtual 186, 3) := by decide +kernel
theorem dX4_plan_33 : decode cX4_plan 33 = .ok (.ireturn, 1) := by decide +kernel
theorem dX4_best_0 : decode cX4_best 0 = .ok (.aload_n 0, 1) := by decide +kernel
theorem dX4_best_1 : decode cX4_best 1 = .ok (.getfield 10, 3) := by decide +kernel
theorem dX4_best_4 : decode cX4_best 4 = .ok (.getfield 83, 3) := by decide +kernel
theorem dX4_best_7 : decode cX4_best 7 = .ok (.ifCond .ne 6, 3) := by decide +kernel
theorem dX4_best_10 : decode cX4_best 10 = .ok (.bipush (-4), 2) := by decide +kernel
theorem dX4_best_12 : decode cX4_best 12 = .ok (.ireturn, 1) := by decide +kernel
theorem dX4_best_13 : decode cX4_best 13 = .ok (.iconst 0, 1) := by decide +kernel
theorem dX4_best_14 : decode cX4_best 14 = .ok (.istore_n 1, 1) := by decide +kernel
theorem dX4_best_15 : decode cX4_best 15 = .ok (.aload_n 0, 1) := by decide +kernel
theorem dX4_best_16 : decode cX4_best 16 = .ok (.iconst 0, 1) := by decide +kernel
theorem dX4_best_17 : decode cX4_best 17 = .ok (.iconst 1, 1) := by decide +kernel
theorem dX4_best_18 : decode cX4_best 18 = .ok (.invokevirtual 186, 3) := by decide +kernel
theorem dX4_best_21 : decode cX4_best 21 = .ok (.istore_n 2, 1) := by decide +kernel
theorem dX4_best_22 : decode cX4_best 22 = .ok (.iconst 1, 1) := by decide +kernel
theorem dX4_best_23 : decode cX4_best 23 = .ok (.istore_n 3, 1) := by decide +kernel
theorem dX4_best_24 : decode cX4_best 24 = .ok (.iload_n 3, 1) := by decide +kernel
theorem dX4_best_25 : decode cX4_best 25 = .ok (.iconst 3, 1) := by decide +kernel
theorem dX4_best_26 : decode cX4_best 26 = .ok (.if_icmp .ge 28, 3) := by decide +kernel
theorem dX4_best_29 : decode cX4_best 29 = .ok (.aload_n 0, 1) := by decide +kernel
theorem dX4_best_30 : decode cX4_best 30 = .ok (.iload_n 3, 1) := by decide +kernel
theorem dX4_best_31 : decode cX4_best 31 = .ok (.iconst 1, 1) := by decide +kernel
theorem dX4_best_32 : decode cX4_best 32 = .ok (.invokevirtual 186, 3) := by decide +kernel
theorem dX4_best_35 : decode cX4_best 35 = .ok (.istore 4, 2) := by decide +kernel
theorem dX4_best_37 : decode cX4_best 37 = .ok (.iload 4, 2) := by decide +kernel
theorem dX4_best_39 : decode cX4_best 39 = .ok (.iload_n 2, 1) := by decide +kernel
theorem dX4_best_40 : decode cX4_best 40 = .ok (.if_icmp .ge 8, 3) := by decide +kernel
theorem dX4_best_43 : decode cX4_best 43 = .ok (.iload 4, 2) := by decide +kernel
theorem dX4_best_45 : decode cX4_best 45 = .ok (.istore_n 2, 1) := by decide +kernel
theorem dX4_best_46 : decode cX4_best 46 = .ok (.iload_n 3, 1) := by decide +kernel
theorem dX4_best_47 : decode cX4_best 47 = .ok (.istore_n 1, 1) := by decide +kernel
theorem dX4_best_48 : decode cX4_best 48 = .ok (.iinc 3 1, 3) := by decide +kernel
theorem dX4_best_51 : decode cX4_best 51 = .ok (.goto (-27), 3) := by decide +kernel
theorem dX4_best_54 : decode cX4_best 54 = .ok (.iload_n 1, 1) := by decide +kernel
theorem dX4_best_55 : decode cX4_best 55 = .ok (.ireturn, 1) := by decide +kernel
theorem dX4_let_0 : decode cX4_let 0 = .ok (.aload_n 0, 1) := by decide +kernel
theorem dX4_let_1 : decode cX4_let 1 = .ok (.getfield 10, 3) := by decide +kernel
theorem dX4_let_4 : decode cX4_let 4 = .ok (.iload_n 1, 1) := by decide +kernel
theorem dX4_let_5 : decode cX4_let 5 = .ok (.invokevirtual 124, 3) := by decide +kernel
theorem dX4_let_8 : decode cX4_let 8 = .ok (.ifCond .ne 5, 3) := by decide +kernel
theorem dX4_let_11 : decode cX4_let 11 = .ok (.iconst (-1), 1) := by decide +kernel
theorem dX4_let_12 : decode cX4_let 12 = .ok (.ireturn, 1) := by decide +kernel
theorem dX4_let_13 : decode cX4_let 13 = .ok (.aload_n 0, 1) := by decide +kernel
theorem dX4_let_14 : decode cX4_let 14 = .ok (.getfield 36, 3) := by decide +kernel
theorem dX4_let_17 : decode cX4_let 17 = .ok (.aload_n 0, 1) := by decide +kernel
theorem dX4_let_18 : decode cX4_let 18 = .ok (.getfield 10, 3) := by decide +kernel
theorem dX4_let_21 : decode cX4_let 21 = .ok (.invokevirtual 151, 3) := by decide +kernel
theorem dX4_let_24 : decode cX4_let 24 = .ok (.aload_n 0, 1) := by decide +kernel
theorem dX4_let_25 : decode cX4_let 25 = .ok (.aload_n 0, 1) := by decide +kernel
theorem dX4_let_26 : decode cX4_let 26 = .ok (.getfield 10, 3) := by decide +kernel
theorem dX4_let_29 : decode cX4_let 29 = .ok (.iload_n 1, 1) := by decide +kernel
theorem dX4_let_30 : decode cX4_let 30 = .ok (.invokevirtual 154, 3) := by decide +kernel
theorem dX4_let_33 : decode cX4_let 33 = .ok (.ifCond .eq 6, 3) := by decide +kernel
theorem dX4_let_36 : decode cX4_let 36 = .ok (.bipush (-2), 2) := by decide +kernel
theorem dX4_let_38 : decode cX4_let 38 = .ok (.ireturn, 1) := by decide +kernel
theorem dX4_let_39 : decode cX4_let 39 = .ok (.aload_n 0, 1) := by decide +kernel
theorem dX4_let_40 : decode cX4_let 40 = .ok (.getfield 10, 3) := by decide +kernel
theorem dX4_let_43 : decode cX4_let 43 = .ok (.iload_n 1, 1) := by decide +kernel
theorem dX4_let_44 : decode cX4_let 44 = .ok (.invokevirtual 190, 3) := by decide +kernel
theorem dX4_let_47 : decode cX4_let 47 = .ok (.aload_n 0, 1) := by decide +kernel
theorem dX4_let_48 : decode cX4_let 48 = .ok (.getfield 10, 3) := by decide +kernel
theorem dX4_let_51 : decode cX4_let 51 = .ok (.getfield 145, 3) := by decide +kernel
theorem dX4_let_54 : decode cX4_let 54 = .ok (.iload_n 1, 1) := by decide +kernel
theorem dX4_let_55 : decode cX4_let 55 = .ok (.iaload, 1) := by decide +kernel
theorem dX4_let_56 : decode cX4_let 56 = .ok (.ireturn, 1) := by decide +kernel
theorem dX4_tick_0 : decode cX4_tick 0 = .ok (.iload_n 1, 1) := by decide +kernel
theorem dX4_tick_1 : decode cX4_tick 1 = .ok (.iconst 1, 1) := by decide +kernel
theorem dX4_tick_2 : decode cX4_tick 2 = .ok (.if_icmp .lt 9, 3) := by decide +kernel
theorem dX4_tick_5 : decode cX4_tick 5 = .ok (.iload_n 1, 1) := by decide +kernel
theorem dX4_tick_6 : decode cX4_tick 6 = .ok (.bipush 60, 2) := by decide +kernel
theorem dX4_tick_8 : decode cX4_tick 8 = .ok (.if_icmp .le 5, 3) := by decide +kernel
theorem dX4_tick_11 : decode cX4_tick 11 = .ok (.iconst (-1), 1) := by decide +kernel
theorem dX4_tick_12 : decode cX4_tick 12 = .ok (.ireturn, 1) := by decide +kernel
theorem dX4_tick_13 : decode cX4_tick 13 = .ok (.aload_n 0, 1) := by decide +kernel
theorem dX4_tick_14 : decode cX4_tick 14 = .ok (.getfield 10, 3) := by decide +kernel
theorem dX4_tick_17 : decode cX4_tick 17 = .ok (.iload_n 1, 1) := by decide +kernel
theorem dX4_tick_18 : decode cX4_tick 18 = .ok (.invokevirtual 193, 3) := by decide +kernel
theorem dX4_tick_21 : decode cX4_tick 21 = .ok (.ireturn, 1) := by decide +kernel
theorem dX4_send_0 : decode cX4_send 0 = .ok (.iload_n 1, 1) := by decide +kernel
theorem dX4_send_1 : decode cX4_send 1 = .ok (.invokestatic 183, 3) := by decide +kernel
theorem dX4_send_4 : decode cX4_send 4 = .ok (.ifCond .ne 5, 3) := by decide +kernel
theorem dX4_send_7 : decode cX4_send 7 = .ok (.iconst (-1), 1) := by decide +kernel
theorem dX4_send_8 : decode cX4_send 8 = .ok (.ireturn, 1) := by decide +kernel
theorem dX4_send_9 : decode cX4_send 9 = .ok (.aload_n 0, 1) := by decide +kernel
theorem dX4_send_10 : decode cX4_send 10 = .ok (.getfield 36, 3) := by decide +kernel
theorem dX4_send_13 : decode cX4_send 13 = .ok (.aload_n 0, 1) := by decide +kernel
theorem dX4_send_14 : decode cX4_send 14 = .ok (.getfield 10, 3) := by decide +kernel
theorem dX4_send_17 : decode cX4_send 17 = .ok (.invokevirtual 151, 3) := by decide +kernel
theorem dX4_send_20 : decode cX4_send 20 = .ok (.aload_n 0, 1) := by decide +kernel
theorem dX4_send_21 : decode cX4_send 21 = .ok (.aload_n 0, 1) := by decide +kernel
theorem dX4_send_22 : decode cX4_send 22 = .ok (.getfield 10, 3) := by decide +kernel
theorem dX4_send_25 : decode cX4_send 25 = .ok (.iload_n 1, 1) := by decide +kernel
theorem dX4_send_26 : decode cX4_send 26 = .ok (.invokevirtual 196, 3) := by decide +kernel
theorem dX4_send_29 : decode cX4_send 29 = .ok (.ireturn, 1) := by decide +kernel
theorem dX4_journal_0 : decode cX4_journal 0 = .ok (.iload_n 1, 1) := by decide +kernel
theorem dX4_journal_1 : decode cX4_journal 1 = .ok (.ifCond .lt 12, 3) := by decide +kernel
theorem dX4_journal_4 : decode cX4_journal 4 = .ok (.iload_n 2, 1) := by decide +kernel
theorem dX4_journal_5 : decode cX4_journal 5 = .ok (.ifCond .lt 8, 3) := by decide +kernel
theorem dX4_journal_8 : decode cX4_journal 8 = .ok (.iload_n 2, 1) := by decide +kernel
theorem dX4_journal_9 : decode cX4_journal 9 = .ok (.iconst 2, 1) := by decide +kernel
theorem dX4_journal_10 : decode cX4_journal 10 = .ok (.if_icmp .le 5, 3) := by decide +kernel
theorem dX4_journal_13 : decode cX4_journal 13 = .ok (.iconst (-1), 1) := by decide +kernel
theorem dX4_journal_14 : decode cX4_journal 14 = .ok (.ireturn, 1) := by decide +kernel
theorem dX4_journal_15 : decode cX4_journal 15 = .ok (.iload_n 1, 1) := by decide +kernel
theorem dX4_journal_16 : decode cX4_journal 16 = .ok (.aload_n 0, 1) := by decide +kernel
theorem dX4_journal_17 : decode cX4_journal 17 = .ok (.getfield 10, 3) := by decide +kernel
theorem dX4_journal_20 : decode cX4_journal 20 = .ok (.getfield 93, 3) := by decide +kernel
theorem dX4_journal_23 : decode cX4_journal 23 = .ok (.if_icmp .lt 6, 3) := by decide +kernel
theorem dX4_journal_26 : decode cX4_journal 26 = .ok (.bipush (-4), 2) := by decide +kernel
theorem dX4_journal_28 : decode cX4_journal 28 = .ok (.ireturn, 1) := by decide +kernel
theorem dX4_journal_29 : decode cX4_journal 29 = .ok (.iload_n 2, 1) := by decide +kernel
theorem dX4_journal_30 : decode cX4_journal 30 = .ok (.lookupswitch 46 #[(0, 26), (1, 36)], 26) := by decide +kernel
theorem dX4_journal_56 : decode cX4_journal 56 = .ok (.aload_n 0, 1) := by decide +kernel
theorem dX4_journal_57 : decode cX4_journal 57 = .ok (.getfield 10, 3) := by decide +kernel
theorem dX4_journal_60 : decode cX4_journal 60 = .ok (.getfield 199, 3) := by decide +kernel
theorem dX4_journal_63 : decode cX4_journal 63 = .ok (.iload_n 1, 1) := by decide +kernel
theorem dX4_journal_64 : decode cX4_journal 64 = .ok (.iaload, 1) := by decide +kernel
theorem dX4_journal_65 : decode cX4_journal 65 = .ok (.ireturn, 1) := by decide +kernel
theorem dX4_journal_66 : decode cX4_journal 66 = .ok (.aload_n 0, 1) := by decide +kernel
theorem dX4_journal_67 : decode cX4_journal 67 = .ok (.getfield 10, 3) := by decide +kernel
theorem dX4_journal_70 : decode cX4_journal 70 = .ok (.getfield 202, 3) := by decide +kernel
theorem dX4_journal_73 : decode cX4_journal 73 = .ok (.iload_n 1, 1) := by decide +kernel
theorem dX4_journal_74 : decode cX4_journal 74 = .ok (.iaload, 1) := by decide +kernel
theorem dX4_journal_75 : decode cX4_journal 75 = .ok (.ireturn, 1) := by decide +kernel
theorem dX4_journal_76 : decode cX4_journal 76 = .ok (.aload_n 0, 1) := by decide +kernel
theorem dX4_journal_77 : decode cX4_journal 77 = .ok (.getfield 10, 3) := by decide +kernel
theorem dX4_journal_80 : decode cX4_journal 80 = .ok (.getfield 205, 3) := by decide +kernel
theorem dX4_journal_83 : decode cX4_journal 83 = .ok (.iload_n 1, 1) := by decide +kernel
theorem dX4_journal_84 : decode cX4_journal 84 = .ok (.iaload, 1) := by decide +kernel
theorem dX4_journal_85 : decode cX4_journal 85 = .ok (.ireturn, 1) := by decide +kernel
theorem dX4_add_0 : decode cX4_add 0 = .ok (.aload_n 0, 1) := by decide +kernel
theorem dX4_add_1 : decode cX4_add 1 = .ok (.getfield 10, 3) := by decide +kernel
theorem dX4_add_4 : decode cX4_add 4 = .ok (.iload_n 1, 1) := by decide +kernel
theorem dX4_add_5 : decode cX4_add 5 = .ok (.invokevirtual 107, 3) := by decide +kernel
theorem dX4_add_8 : decode cX4_add 8 = .ok (.ifCond .eq 30, 3) := by decide +kernel
theorem dX4_add_11 : decode cX4_add 11 = .ok (.aload_n 0, 1) := by decide +kernel
theorem dX4_add_12 : decode cX4_add 12 = .ok (.getfield 10, 3) := by decide +kernel
theorem dX4_add_15 : decode cX4_add 15 = .ok (.iload_n 2, 1) := by decide +kernel
theorem dX4_add_16 : decode cX4_add 16 = .ok (.invokevirtual 107, 3) := by decide +kernel
theorem dX4_add_19 : decode cX4_add 19 = .ok (.ifCond .eq 19, 3) := by decide +kernel
theorem dX4_add_22 : decode cX4_add 22 = .ok (.iload_n 1, 1) := by decide +kernel
theorem dX4_add_23 : decode cX4_add 23 = .ok (.iload_n 2, 1) := by decide +kernel
theorem dX4_add_24 : decode cX4_add 24 = .ok (.if_icmp .eq 14, 3) := by decide +kernel
theorem dX4_add_27 : decode cX4_add 27 = .ok (.iload_n 3, 1) := by decide +kernel
theorem dX4_add_28 : decode cX4_add 28 = .ok (.iconst 1, 1) := by decide +kernel
theorem dX4_add_29 : decode cX4_add 29 = .ok (.if_icmp .lt 9, 3) := by decide +kernel
theorem dX4_add_32 : decode cX4_add 32 = .ok (.iload_n 3, 1) := by decide +kernel
theorem dX4_add_33 : decode cX4_add 33 = .ok (.bipush 20, 2) := by decide +kernel
theorem dX4_add_35 : decode cX4_add 35 = .ok (.if_icmp .le 5, 3) := by decide +kernel
theorem dX4_add_38 : decode cX4_add 38 = .ok (.iconst (-1), 1) := by decide +kernel
theorem dX4_add_39 : decode cX4_add 39 = .ok (.ireturn, 1) := by decide +kernel
theorem dX4_add_40 : decode cX4_add 40 = .ok (.aload_n 0, 1) := by decide +kernel
theorem dX4_add_41 : decode cX4_add 41 = .ok (.getfield 10, 3) := by decide +kernel
theorem dX4_add_44 : decode cX4_add 44 = .ok (.getfield 83, 3) := by decide +kernel
theorem dX4_add_47 : decode cX4_add 47 = .ok (.iconst 4, 1) := by decide +kernel
theorem dX4_add_48 : decode cX4_add 48 = .ok (.if_icmp .lt 6, 3) := by decide +kernel
theorem dX4_add_51 : decode cX4_add 51 = .ok (.bipush (-3), 2) := by decide +kernel
theorem dX4_add_53 : decode cX4_add 53 = .ok (.ireturn, 1) := by decide +kernel
theorem dX4_add_54 : decode cX4_add 54 = .ok (.aload_n 0, 1) := by decide +kernel
theorem dX4_add_55 : decode cX4_add 55 = .ok (.getfield 10, 3) := by decide +kernel
theorem dX4_add_58 : decode cX4_add 58 = .ok (.iload_n 1, 1) := by decide +kernel
theorem dX4_add_59 : decode cX4_add 59 = .ok (.iload_n 2, 1) := by decide +kernel
theorem dX4_add_60 : decode cX4_add 60 = .ok (.iload_n 3, 1) := by decide +kernel
theorem dX4_add_61 : decode cX4_add 61 = .ok (.invokevirtual 208, 3) := by decide +kernel
theorem dX4_add_64 : decode cX4_add 64 = .ok (.aload_n 0, 1) := by decide +kernel
theorem dX4_add_65 : decode cX4_add 65 = .ok (.getfield 36, 3) := by decide +kernel
theorem dX4_add_68 : decode cX4_add 68 = .ok (.invokevirtual 70, 3) := by decide +kernel
theorem dX4_add_71 : decode cX4_add 71 = .ok (.aload_n 0, 1) := by decide +kernel
theorem dX4_add_72 : decode cX4_add 72 = .ok (.getfield 36, 3) := by decide +kernel
theorem dX4_add_75 : decode cX4_add 75 = .ok (.aload_n 0, 1) := by decide +kernel
theorem dX4_add_76 : decode cX4_add 76 = .ok (.getfield 10, 3) := by decide +kernel
theorem dX4_add_79 : decode cX4_add 79 = .ok (.invokevirtual 170, 3) := by decide +kernel
theorem dX4_add_82 : decode cX4_add 82 = .ok (.aload_n 0, 1) := by decide +kernel
theorem dX4_add_83 : decode cX4_add 83 = .ok (.getfield 36, 3) := by decide +kernel
theorem dX4_add_86 : decode cX4_add 86 = .ok (.aload_n 0, 1) := by decide +kernel
theorem dX4_add_87 : decode cX4_add 87 = .ok (.getfield 10, 3) := by decide +kernel
theorem dX4_add_90 : decode cX4_add 90 = .ok (.invokevirtual 212, 3) := by decide +kernel
theorem dX4_add_93 : decode cX4_add 93 = .ok (.ifCond .eq 32, 3) := by decide +kernel
theorem dX4_add_96 : decode cX4_add 96 = .ok (.aload_n 0, 1) := by decide +kernel
theorem dX4_add_97 : decode cX4_add 97 = .ok (.getfield 36, 3) := by decide +kernel
theorem dX4_add_100 : decode cX4_add 100 = .ok (.aload_n 0, 1) := by decide +kernel
theorem dX4_add_101 : decode cX4_add 101 = .ok (.getfield 10, 3) := by decide +kernel
theorem dX4_add_104 : decode cX4_add 104 = .ok (.invokevirtual 151, 3) := by decide +kernel
theorem dX4_add_107 : decode cX4_add 107 = .ok (.aload_n 0, 1) := by decide +kernel
theorem dX4_add_108 : decode cX4_add 108 = .ok (.getfield 36, 3) := by decide +kernel
theorem dX4_add_111 : decode cX4_add 111 = .ok (.invokevirtual 216, 3) := by decide +kernel
theorem dX4_add_114 : decode cX4_add 114 = .ok (.ifCond .eq 11, 3) := by decide +kernel
theorem dX4_add_117 : decode cX4_add 117 = .ok (.aload_n 0, 1) := by decide +kernel
theorem dX4_add_118 : decode cX4_add 118 = .ok (.getfield 10, 3) := by decide +kernel
theorem dX4_add_121 : decode cX4_add 121 = .ok (.getfield 83, 3) := by decide +kernel
theorem dX4_add_124 : decode cX4_add 124 = .ok (.ireturn, 1) := by decide +kernel
theorem dX4_add_125 : decode cX4_add 125 = .ok (.aload_n 0, 1) := by decide +kernel
theorem dX4_add_126 : decode cX4_add 126 = .ok (.getfield 10, 3) := by decide +kernel
theorem dX4_add_129 : decode cX4_add 129 = .ok (.dup, 1) := by decide +kernel
theorem dX4_add_130 : decode cX4_add 130 = .ok (.getfield 83, 3) := by decide +kernel
theorem dX4_add_133 : decode cX4_add 133 = .ok (.iconst 1, 1) := by decide +kernel
theorem dX4_add_134 : decode cX4_add 134 = .ok (.isub, 1) := by decide +kernel
theorem dX4_add_135 : decode cX4_add 135 = .ok (.putfield 83, 3) := by decide +kernel
theorem dX4_add_138 : decode cX4_add 138 = .ok (.aload_n 0, 1) := by decide +kernel
theorem dX4_add_139 : decode cX4_add 139 = .ok (.getfield 36, 3) := by decide +kernel
theorem dX4_add_142 : decode cX4_add 142 = .ok (.invokevirtual 70, 3) := by decide +kernel
theorem dX4_add_145 : decode cX4_add 145 = .ok (.bipush (-2), 2) := by decide +kernel
theorem dX4_add_147 : decode cX4_add 147 = .ok (.ireturn, 1) := by decide +kernel
theorem dX4_drop_0 : decode cX4_drop 0 = .ok (.aload_n 0, 1) := by decide +kernel
theorem dX4_drop_1 : decode cX4_drop 1 = .ok (.getfield 10, 3) := by decide +kernel
theorem dX4_drop_4 : decode cX4_drop 4 = .ok (.iload_n 1, 1) := by decide +kernel
theorem dX4_drop_5 : decode cX4_drop 5 = .ok (.invokevirtual 124, 3) := by decide +kernel
theorem dX4_drop_8 : decode cX4_drop 8 = .ok (.ifCond .ne 5, 3) := by decide +kernel
theorem dX4_drop_11 : decode cX4_drop 11 = .ok (.iconst (-1), 1) := by decide +kernel
theorem dX4_drop_12 : decode cX4_drop 12 = .ok (.ireturn, 1) := by decide +kernel
theorem dX4_drop_13 : decode cX4_drop 13 = .ok (.aload_n 0, 1) := by decide +kernel
theorem dX4_drop_14 : decode cX4_drop 14 = .ok (.getfield 10, 3) := by decide +kernel
theorem dX4_drop_17 : decode cX4_drop 17 = .ok (.getfield 142, 3) := by decide +kernel
theorem dX4_drop_20 : decode cX4_drop 20 = .ok (.iload_n 1, 1) := by decide +kernel
theorem dX4_drop_21 : decode cX4_drop 21 = .ok (.iaload, 1) := by decide +kernel
theorem dX4_drop_22 : decode cX4_drop 22 = .ok (.iconst 1, 1) := by decide +kernel
theorem dX4_drop_23 : decode cX4_drop 23 = .ok (.if_icmp .ne 6, 3) := by decide +kernel
theorem dX4_drop_26 : decode cX4_drop 26 = .ok (.bipush (-2), 2) := by decide +kernel
theorem dX4_drop_28 : decode cX4_drop 28 = .ok (.ireturn, 1) := by decide +kernel
theorem dX4_drop_29 : decode cX4_drop 29 = .ok (.aload_n 0, 1) := by decide +kernel
theorem dX4_drop_30 : decode cX4_drop 30 = .ok (.getfield 10, 3) := by decide +kernel
theorem dX4_drop_33 : decode cX4_drop 33 = .ok (.iload_n 1, 1) := by decide +kernel
theorem dX4_drop_34 : decode cX4_drop 34 = .ok (.invokevirtual 219, 3) := by decide +kernel
theorem dX4_drop_37 : decode cX4_drop 37 = .ok (.aload_n 0, 1) := by decide +kernel
theorem dX4_drop_38 : decode cX4_drop 38 = .ok (.getfield 36, 3) := by decide +kernel
theorem dX4_drop_41 : decode cX4_drop 41 = .ok (.invokevirtual 70, 3) := by decide +kernel
theorem dX4_drop_44 : decode cX4_drop 44 = .ok (.aload_n 0, 1) := by decide +kernel
theorem dX4_drop_45 : decode cX4_drop 45 = .ok (.getfield 10, 3) := by decide +kernel
theorem dX4_drop_48 : decode cX4_drop 48 = .ok (.getfield 83, 3) := by decide +kernel
theorem dX4_drop_51 : decode cX4_drop 51 = .ok (.ireturn, 1) := by decide +kernel
theorem dX4_draw_0 : decode cX4_draw 0 = .ok (.iload_n 2, 1) := by decide +kernel
theorem dX4_draw_1 : decode cX4_draw 1 = .ok (.iconst 1, 1) := by decide +kernel
theorem dX4_draw_2 : decode cX4_draw 2 = .ok (.if_icmp .lt 9, 3) := by decide +kernel
theorem dX4_draw_5 : decode cX4_draw 5 = .ok (.iload_n 2, 1) := by decide +kernel
theorem dX4_draw_6 : decode cX4_draw 6 = .ok (.bipush 8, 2) := by decide +kernel
theorem dX4_draw_8 : decode cX4_draw 8 = .ok (.if_icmp .le 5, 3) := by decide +kernel
theorem dX4_draw_11 : decode cX4_draw 11 = .ok (.iconst (-1), 1) := by decide +kernel
theorem dX4_draw_12 : decode cX4_draw 12 = .ok (.ireturn, 1) := by decide +kernel
theorem dX4_draw_13 : decode cX4_draw 13 = .ok (.aload_n 0, 1) := by decide +kernel
theorem dX4_draw_14 : decode cX4_draw 14 = .ok (.getfield 10, 3) := by decide +kernel
theorem dX4_draw_17 : decode cX4_draw 17 = .ok (.getfield 80, 3) := by decide +kernel
theorem dX4_draw_20 : decode cX4_draw 20 = .ok (.iconst 1, 1) := by decide +kernel
theorem dX4_draw_21 : decode cX4_draw 21 = .ok (.if_icmp .ge 6, 3) := by decide +kernel
theorem dX4_draw_24 : decode cX4_draw 24 = .ok (.bipush (-2), 2) := by decide +kernel
theorem dX4_draw_26 : decode cX4_draw 26 = .ok (.ireturn, 1) := by decide +kernel
theorem dX4_draw_27 : decode cX4_draw 27 = .ok (.iconst 0, 1) := by decide +kernel
theorem dX4_draw_28 : decode cX4_draw 28 = .ok (.istore_n 3, 1) := by decide +kernel
theorem dX4_draw_29 : decode cX4_draw 29 = .ok (.iload_n 1, 1) := by decide +kernel
theorem dX4_draw_30 : decode cX4_draw 30 = .ok (.istore 4, 2) := by decide +kernel
theorem dX4_draw_32 : decode cX4_draw 32 = .ok (.iconst 0, 1) := by decide +kernel
theorem dX4_draw_33 : decode cX4_draw 33 = .ok (.istore 5, 2) := by decide +kernel
theorem dX4_draw_35 : decode cX4_draw 35 = .ok (.iload 5, 2) := by decide +kernel
theorem dX4_draw_37 : decode cX4_draw 37 = .ok (.iload_n 2, 1) := by decide +kernel
theorem dX4_draw_38 : decode cX4_draw 38 = .ok (.if_icmp .ge 74, 3) := by decide +kernel
theorem dX4_draw_41 : decode cX4_draw 41 = .ok (.iload 4, 2) := by decide +kernel
theorem dX4_draw_43 : decode cX4_draw 43 = .ok (.ldc 222, 2) := by decide +kernel
theorem dX4_draw_45 : decode cX4_draw 45 = .ok (.imul, 1) := by decide +kernel
theorem dX4_draw_46 : decode cX4_draw 46 = .ok (.sipush 12345, 3) := by decide +kernel
theorem dX4_draw_49 : decode cX4_draw 49 = .ok (.iadd, 1) := by decide +kernel
theorem dX4_draw_50 : decode cX4_draw 50 = .ok (.istore 4, 2) := by decide +kernel
theorem dX4_draw_52 : decode cX4_draw 52 = .ok (.iload 4, 2) := by decide +kernel
theorem dX4_draw_54 : decode cX4_draw 54 = .ok (.bipush 16, 2) := by decide +kernel
theorem dX4_draw_56 : decode cX4_draw 56 = .ok (.iushr, 1) := by decide +kernel
theorem dX4_draw_57 : decode cX4_draw 57 = .ok (.sipush 32767, 3) := by decide +kernel
theorem dX4_draw_60 : decode cX4_draw 60 = .ok (.iand, 1) := by decide +kernel
theorem dX4_draw_61 : decode cX4_draw 61 = .ok (.istore 6, 2) := by decide +kernel
theorem dX4_draw_63 : decode cX4_draw 63 = .ok (.aload_n 0, 1) := by decide +kernel
theorem dX4_draw_64 : decode cX4_draw 64 = .ok (.iload 6, 2) := by decide +kernel
theorem dX4_draw_66 : decode cX4_draw 66 = .ok (.aload_n 0, 1) := by decide +kernel
theorem dX4_draw_67 : decode cX4_draw 67 = .ok (.getfield 10, 3) := by decide +kernel
theorem dX4_draw_70 : decode cX4_draw 70 = .ok (.getfield 80, 3) := by decide +kernel
theorem dX4_draw_73 : decode cX4_draw 73 = .ok (.irem, 1) := by decide +kernel
theorem dX4_draw_74 : decode cX4_draw 74 = .ok (.iload 6, 2) := by decide +kernel
theorem dX4_draw_76 : decode cX4_draw 76 = .ok (.bipush 8, 2) := by decide +kernel
theorem dX4_draw_78 : decode cX4_draw 78 = .ok (.idiv, 1) := by decide +kernel
theorem dX4_draw_79 : decode cX4_draw 79 = .ok (.aload_n 0, 1) := by decide +kernel
theorem dX4_draw_80 : decode cX4_draw 80 = .ok (.getfield 10, 3) := by decide +kernel
theorem dX4_draw_83 : decode cX4_draw 83 = .ok (.getfield 80, 3) := by decide +kernel
theorem dX4_draw_86 : decode cX4_draw 86 = .ok (.irem, 1) := by decide +kernel
theorem dX4_draw_87 : decode cX4_draw 87 = .ok (.iload 6, 2) := by decide +kernel
theorem dX4_draw_89 : decode cX4_draw 89 = .ok (.bipush 64, 2) := by decide +kernel
theorem dX4_draw_91 : decode cX4_draw 91 = .ok (.idiv, 1) := by decide +kernel
theorem dX4_draw_92 : decode cX4_draw 92 = .ok (.bipush 6, 2) := by decide +kernel
theorem dX4_draw_94 : decode cX4_draw 94 = .ok (.irem, 1) := by decide +kernel
theorem dX4_draw_95 : decode cX4_draw 95 = .ok (.iconst 1, 1) := by decide +kernel
theorem dX4_draw_96 : decode cX4_draw 96 = .ok (.iadd, 1) := by decide +kernel
theorem dX4_draw_97 : decode cX4_draw 97 = .ok (.invokevirtual 223, 3) := by decide +kernel
theorem dX4_draw_100 : decode cX4_draw 100 = .ok (.ifCond .le 6, 3) := by decide +kernel
theorem dX4_draw_103 : decode cX4_draw 103 = .ok (.iinc 3 1, 3) := by decide +kernel
theorem dX4_draw_106 : decode cX4_draw 106 = .ok (.iinc 5 1, 3) := by decide +kernel
theorem dX4_draw_109 : decode cX4_draw 109 = .ok (.goto (-74), 3) := by decide +kernel
theorem dX4_draw_112 : decode cX4_draw 112 = .ok (.iload_n 3, 1) := by decide +kernel
theorem dX4_draw_113 : decode cX4_draw 113 = .ok (.ireturn, 1) := by decide +kernel
theorem dX4_keep_0 : decode cX4_keep 0 = .ok (.iload_n 1, 1) := by decide +kernel
theorem dX4_keep_1 : decode cX4_keep 1 = .ok (.invokestatic 227, 3) := by decide +kernel
theorem dX4_keep_4 : decode cX4_keep 4 = .ok (.ifCond .ne 5, 3) := by decide +kernel
theorem dX4_keep_7 : decode cX4_keep 7 = .ok (.iconst (-1), 1) := by decide +kernel
theorem dX4_keep_8 : decode cX4_keep 8 = .ok (.ireturn, 1) := by decide +kernel
theorem dX4_keep_9 : decode cX4_keep 9 = .ok (.aload_n 0, 1) := by decide +kernel
theorem dX4_keep_10 : decode cX4_keep 10 = .ok (.getfield 23, 3) := by decide +kernel
theorem dX4_keep_13 : decode cX4_keep 13 = .ok (.iload_n 1, 1) := by decide +kernel
theorem dX4_keep_14 : decode cX4_keep 14 = .ok (.baload, 1) := by decide +kernel
theorem dX4_keep_15 : decode cX4_keep 15 = .ok (.ifCond .eq 7, 3) := by decide +kernel
theorem dX4_keep_18 : decode cX4_keep 18 = .ok (.iconst 1, 1) := by decide +kernel
theorem dX4_keep_19 : decode cX4_keep 19 = .ok (.goto 4, 3) := by decide +kernel
theorem dX4_keep_22 : decode cX4_keep 22 = .ok (.iconst 0, 1) := by decide +kernel
theorem dX4_keep_23 : decode cX4_keep 23 = .ok (.istore_n 2, 1) := by decide +kernel
theorem dX4_keep_24 : decode cX4_keep 24 = .ok (.aload_n 0, 1) := by decide +kernel
theorem dX4_keep_25 : decode cX4_keep 25 = .ok (.getfield 19, 3) := by decide +kernel
theorem dX4_keep_28 : decode cX4_keep 28 = .ok (.iload_n 1, 1) := by decide +kernel
theorem dX4_keep_29 : decode cX4_keep 29 = .ok (.aaload, 1) := by decide +kernel
theorem dX4_keep_30 : decode cX4_keep 30 = .ok (.aload_n 0, 1) := by decide +kernel
theorem dX4_keep_31 : decode cX4_keep 31 = .ok (.getfield 10, 3) := by decide +kernel
theorem dX4_keep_34 : decode cX4_keep 34 = .ok (.invokevirtual 76, 3) := by decide +kernel
theorem dX4_keep_37 : decode cX4_keep 37 = .ok (.aload_n 0, 1) := by decide +kernel
theorem dX4_keep_38 : decode cX4_keep 38 = .ok (.getfield 23, 3) := by decide +kernel
theorem dX4_keep_41 : decode cX4_keep 41 = .ok (.iload_n 1, 1) := by decide +kernel
theorem dX4_keep_42 : decode cX4_keep 42 = .ok (.iconst 1, 1) := by decide +kernel
theorem dX4_keep_43 : decode cX4_keep 43 = .ok (.bastore, 1) := by decide +kernel
theorem dX4_keep_44 : decode cX4_keep 44 = .ok (.iload_n 2, 1) := by decide +kernel
theorem dX4_keep_45 : decode cX4_keep 45 = .ok (.ireturn, 1) := by decide +kernel
theorem dX4_back_0 : decode cX4_back 0 = .ok (.iload_n 1, 1) := by decide +kernel
theorem dX4_back_1 : decode cX4_back 1 = .ok (.invokestatic 227, 3) := by decide +kernel
theorem dX4_back_4 : decode cX4_back 4 = .ok (.ifCond .ne 5, 3) := by decide +kernel
theorem dX4_back_7 : decode cX4_back 7 = .ok (.iconst (-1), 1) := by decide +kernel
theorem dX4_back_8 : decode cX4_back 8 = .ok (.ireturn, 1) := by decide +kernel
theorem dX4_back_9 : decode cX4_back 9 = .ok (.aload_n 0, 1) := by decide +kernel
theorem dX4_back_10 : decode cX4_back 10 = .ok (.getfield 23, 3) := by decide +kernel
theorem dX4_back_13 : decode cX4_back 13 = .ok (.iload_n 1, 1) := by decide +kernel
theorem dX4_back_14 : decode cX4_back 14 = .ok (.baload, 1) := by decide +kernel
theorem dX4_back_15 : decode cX4_back 15 = .ok (.ifCond .ne 6, 3) := by decide +kernel
theorem dX4_back_18 : decode cX4_back 18 = .ok (.bipush (-2), 2) := by decide +kernel
theorem dX4_back_20 : decode cX4_back 20 = .ok (.ireturn, 1) := by decide +kernel
theorem dX4_back_21 : decode cX4_back 21 = .ok (.aload_n 0, 1) := by decide +kernel
theorem dX4_back_22 : decode cX4_back 22 = .ok (.getfield 10, 3) := by decide +kernel
theorem dX4_back_25 : decode cX4_back 25 = .ok (.aload_n 0, 1) := by decide +kernel
theorem dX4_back_26 : decode cX4_back 26 = .ok (.getfield 19, 3) := by decide +kernel
theorem dX4_back_29 : decode cX4_back 29 = .ok (.iload_n 1, 1) := by decide +kernel
theorem dX4_back_30 : decode cX4_back 30 = .ok (.aaload, 1) := by decide +kernel
theorem dX4_back_31 : decode cX4_back 31 = .ok (.invokevirtual 76, 3) := by decide +kernel
theorem dX4_back_34 : decode cX4_back 34 = .ok (.aload_n 0, 1) := by decide +kernel
theorem dX4_back_35 : decode cX4_back 35 = .ok (.getfield 36, 3) := by decide +kernel
theorem dX4_back_38 : decode cX4_back 38 = .ok (.invokevirtual 70, 3) := by decide +kernel
theorem dX4_back_41 : decode cX4_back 41 = .ok (.aload_n 0, 1) := by decide +kernel
theorem dX4_back_42 : decode cX4_back 42 = .ok (.getfield 10, 3) := by decide +kernel
theorem dX4_back_45 : decode cX4_back 45 = .ok (.getfield 83, 3) := by decide +kernel
theorem dX4_back_48 : decode cX4_back 48 = .ok (.ireturn, 1) := by decide +kernel
theorem dX4_sheet_0 : decode cX4_sheet 0 = .ok (.iload_n 1, 1) := by decide +kernel
theorem dX4_sheet_1 : decode cX4_sheet 1 = .ok (.invokestatic 230, 3) := by decide +kernel
theorem dX4_sheet_4 : decode cX4_sheet 4 = .ok (.ifCond .eq 16, 3) := by decide +kernel
theorem dX4_sheet_7 : decode cX4_sheet 7 = .ok (.iload_n 2, 1) := by decide +kernel
theorem dX4_sheet_8 : decode cX4_sheet 8 = .ok (.invokestatic 233, 3) := by decide +kernel
theorem dX4_sheet_11 : decode cX4_sheet 11 = .ok (.ifCond .eq 9, 3) := by decide +kernel
theorem dX4_sheet_14 : decode cX4_sheet 14 = .ok (.iload_n 3, 1) := by decide +kernel
theorem dX4_sheet_15 : decode cX4_sheet 15 = .ok (.bipush 40, 2) := by decide +kernel
theorem dX4_sheet_17 : decode cX4_sheet 17 = .ok (.if_icmp .le 5, 3) := by decide +kernel
theorem dX4_sheet_20 : decode cX4_sheet 20 = .ok (.iconst (-1), 1) := by decide +kernel
theorem dX4_sheet_21 : decode cX4_sheet 21 = .ok (.ireturn, 1) := by decide +kernel
theorem dX4_sheet_22 : decode cX4_sheet 22 = .ok (.iload_n 3, 1) := by decide +kernel
theorem dX4_sheet_23 : decode cX4_sheet 23 = .ok (.ifCond .ge 6, 3) := by decide +kernel
theorem dX4_sheet_26 : decode cX4_sheet 26 = .ok (.bipush (-14), 2) := by decide +kernel
theorem dX4_sheet_28 : decode cX4_sheet 28 = .ok (.ireturn, 1) := by decide +kernel
theorem dX4_sheet_29 : decode cX4_sheet 29 = .ok (.aload_n 0, 1) := by decide +kernel
theorem dX4_sheet_30 : decode cX4_sheet 30 = .ok (.getfield 29, 3) := by decide +kernel
theorem dX4_sheet_33 : decode cX4_sheet 33 = .ok (.iload_n 1, 1) := by decide +kernel
theorem dX4_sheet_34 : decode cX4_sheet 34 = .ok (.aaload, 1) := by decide +kernel
theorem dX4_sheet_35 : decode cX4_sheet 35 = .ok (.iload_n 2, 1) := by decide +kernel
theorem dX4_sheet_36 : decode cX4_sheet 36 = .ok (.iload_n 3, 1) := by decide +kernel
theorem dX4_sheet_37 : decode cX4_sheet 37 = .ok (.invokevirtual 236, 3) := by decide +kernel
theorem dX4_sheet_40 : decode cX4_sheet 40 = .ok (.iconst 1, 1) := by decide +kernel
theorem dX4_sheet_41 : decode cX4_sheet 41 = .ok (.ireturn, 1) := by decide +kernel
theorem dX4_lay_0 : decode cX4_lay 0 = .ok (.iload_n 1, 1) := by decide +kernel
theorem dX4_lay_1 : decode cX4_lay 1 = .ok (.invokestatic 230, 3) := by decide +kernel
theorem dX4_lay_4 : decode cX4_lay 4 = .ok (.ifCond .ne 5, 3) := by decide +kernel
theorem dX4_lay_7 : decode cX4_lay 7 = .ok (.iconst (-1), 1) := by decide +kernel
theorem dX4_lay_8 : decode cX4_lay 8 = .ok (.ireturn, 1) := by decide +kernel
theorem dX4_lay_9 : decode cX4_lay 9 = .ok (.aload_n 0, 1) := by decide +kernel
theorem dX4_lay_10 : decode cX4_lay 10 = .ok (.getfield 29, 3) := by decide +kernel
theorem dX4_lay_13 : decode cX4_lay 13 = .ok (.iload_n 1, 1) := by decide +kernel
theorem dX4_lay_14 : decode cX4_lay 14 = .ok (.aaload, 1) := by decide +kernel
theorem dX4_lay_15 : decode cX4_lay 15 = .ok (.iload_n 2, 1) := by decide +kernel
theorem dX4_lay_16 : decode cX4_lay 16 = .ok (.invokevirtual 240, 3) := by decide +kernel
theorem dX4_lay_19 : decode cX4_lay 19 = .ok (.istore 4, 2) := by decide +kernel
theorem dX4_lay_21 : decode cX4_lay 21 = .ok (.iload 4, 2) := by decide +kernel
theorem dX4_lay_23 : decode cX4_lay 23 = .ok (.ifCond .eq 9, 3) := by decide +kernel
theorem dX4_lay_26 : decode cX4_lay 26 = .ok (.bipush (-10), 2) := by decide +kernel
theorem dX4_lay_28 : decode cX4_lay 28 = .ok (.iload 4, 2) := by decide +kernel
theorem dX4_lay_30 : decode cX4_lay 30 = .ok (.isub, 1) := by decide +kernel
theorem dX4_lay_31 : decode cX4_lay 31 = .ok (.ireturn, 1) := by decide +kernel
theorem dX4_lay_32 : decode cX4_lay 32 = .ok (.aload_n 0, 1) := by decide +kernel
theorem dX4_lay_33 : decode cX4_lay 33 = .ok (.getfield 29, 3) := by decide +kernel
theorem dX4_lay_36 : decode cX4_lay 36 = .ok (.iload_n 1, 1) := by decide +kernel
theorem dX4_lay_37 : decode cX4_lay 37 = .ok (.aaload, 1) := by decide +kernel
theorem dX4_lay_38 : decode cX4_lay 38 = .ok (.iload_n 2, 1) := by decide +kernel
theorem dX4_lay_39 : decode cX4_lay 39 = .ok (.iload_n 3, 1) := by decide +kernel
theorem dX4_lay_40 : decode cX4_lay 40 = .ok (.invokevirtual 243, 3) := by decide +kernel
theorem dX4_lay_43 : decode cX4_lay 43 = .ok (.iconst 1, 1) := by decide +kernel
theorem dX4_lay_44 : decode cX4_lay 44 = .ok (.ireturn, 1) := by decide +kernel
theorem dX4_read_0 : decode cX4_read 0 = .ok (.iload_n 1, 1) := by decide +kernel
theorem dX4_read_1 : decode cX4_read 1 = .ok (.invokestatic 230, 3) := by decide +kernel
theorem dX4_read_4 : decode cX4_read 4 = .ok (.ifCond .eq 22, 3) := by decide +kernel
theorem dX4_read_7 : decode cX4_read 7 = .ok (.iload_n 2, 1) := by decide +kernel
theorem dX4_read_8 : decode cX4_read 8 = .ok (.invokestatic 233, 3) := by decide +kernel
theorem dX4_read_11 : decode cX4_read 11 = .ok (.ifCond .eq 15, 3) := by decide +kernel
theorem dX4_read_14 : decode cX4_read 14 = .ok (.iload 4, 2) := by decide +kernel
theorem dX4_read_16 : decode cX4_read 16 = .ok (.ifCond .lt 10, 3) := by decide +kernel
theorem dX4_read_19 : decode cX4_read 19 = .ok (.iload 4, 2) := by decide +kernel
theorem dX4_read_21 : decode cX4_read 21 = .ok (.bipush 10, 2) := by decide +kernel
theorem dX4_read_23 : decode cX4_read 23 = .ok (.if_icmp .le 5, 3) := by decide +kernel
theorem dX4_read_26 : decode cX4_read 26 = .ok (.iconst (-1), 1) := by decide +kernel
theorem dX4_read_27 : decode cX4_read 27 = .ok (.ireturn, 1) := by decide +kernel
theorem dX4_read_28 : decode cX4_read 28 = .ok (.aload_n 0, 1) := by decide +kernel
theorem dX4_read_29 : decode cX4_read 29 = .ok (.getfield 10, 3) := by decide +kernel
theorem dX4_read_32 : decode cX4_read 32 = .ok (.getfield 83, 3) := by decide +kernel
theorem dX4_read_35 : decode cX4_read 35 = .ok (.istore 5, 2) := by decide +kernel
theorem dX4_read_37 : decode cX4_read 37 = .ok (.aload_n 0, 1) := by decide +kernel
theorem dX4_read_38 : decode cX4_read 38 = .ok (.getfield 29, 3) := by decide +kernel
theorem dX4_read_41 : decode cX4_read 41 = .ok (.iload_n 1, 1) := by decide +kernel
theorem dX4_read_42 : decode cX4_read 42 = .ok (.aaload, 1) := by decide +kernel
theorem dX4_read_43 : decode cX4_read 43 = .ok (.getfield 246, 3) := by decide +kernel
theorem dX4_read_46 : decode cX4_read 46 = .ok (.astore 6, 2) := by decide +kernel
theorem dX4_read_48 : decode cX4_read 48 = .ok (.iconst 0, 1) := by decide +kernel
theorem dX4_read_49 : decode cX4_read 49 = .ok (.istore 7, 2) := by decide +kernel
theorem dX4_read_51 : decode cX4_read 51 = .ok (.iload 7, 2) := by decide +kernel
theorem dX4_read_53 : decode cX4_read 53 = .ok (.iload 4, 2) := by decide +kernel
theorem dX4_read_55 : decode cX4_read 55 = .ok (.if_icmp .ge 93, 3) := by decide +kernel
theorem dX4_read_58 : decode cX4_read 58 = .ok (.iload_n 3, 1) := by decide +kernel
theorem dX4_read_59 : decode cX4_read 59 = .ok (.iconst 3, 1) := by decide +kernel
theorem dX4_read_60 : decode cX4_read 60 = .ok (.iload 7, 2) := by decide +kernel
theorem dX4_read_62 : decode cX4_read 62 = .ok (.imul, 1) := by decide +kernel
theorem dX4_read_63 : decode cX4_read 63 = .ok (.iadd, 1) := by decide +kernel
theorem dX4_read_64 : decode cX4_read 64 = .ok (.istore 8, 2) := by decide +kernel
theorem dX4_read_66 : decode cX4_read 66 = .ok (.aload_n 0, 1) := by decide +kernel
theorem dX4_read_67 : decode cX4_read 67 = .ok (.getfield 29, 3) := by decide +kernel
theorem dX4_read_70 : decode cX4_read 70 = .ok (.iload_n 1, 1) := by decide +kernel
theorem dX4_read_71 : decode cX4_read 71 = .ok (.aaload, 1) := by decide +kernel
theorem dX4_read_72 : decode cX4_read 72 = .ok (.iload_n 2, 1) := by decide +kernel
theorem dX4_read_73 : decode cX4_read 73 = .ok (.iload 8, 2) := by decide +kernel
theorem dX4_read_75 : decode cX4_read 75 = .ok (.invokevirtual 249, 3) := by decide +kernel
theorem dX4_read_78 : decode cX4_read 78 = .ok (.istore 9, 2) := by decide +kernel
theorem dX4_read_80 : decode cX4_read 80 = .ok (.iload 9, 2) := by decide +kernel
theorem dX4_read_82 : decode cX4_read 82 = .ok (.ifCond .eq 12, 3) := by decide +kernel
theorem dX4_read_85 : decode cX4_read 85 = .ok (.aload_n 0, 1) := by decide +kernel
theorem dX4_read_86 : decode cX4_read 86 = .ok (.iload 9, 2) := by decide +kernel
theorem dX4_read_88 : decode cX4_read 88 = .ok (.putfield 252, 3) := by decide +kernel
theorem dX4_read_91 : decode cX4_read 91 = .ok (.iload 7, 2) := by decide +kernel
theorem dX4_read_93 : decode cX4_read 93 = .ok (.ireturn, 1) := by decide +kernel
theorem dX4_read_94 : decode cX4_read 94 = .ok (.aload_n 0, 1) := by decide +kernel
theorem dX4_read_95 : decode cX4_read 95 = .ok (.aload 6, 2) := by decide +kernel
theorem dX4_read_97 : decode cX4_read 97 = .ok (.iload 8, 2) := by decide +kernel
theorem dX4_read_99 : decode cX4_read 99 = .ok (.iaload, 1) := by decide +kernel
theorem dX4_read_100 : decode cX4_read 100 = .ok (.aload 6, 2) := by decide +kernel
theorem dX4_read_102 : decode cX4_read 102 = .ok (.iload 8, 2) := by decide +kernel
theorem dX4_read_104 : decode cX4_read 104 = .ok (.iconst 1, 1) := by decide +kernel
theorem dX4_read_105 : decode cX4_read 105 = .ok (.iadd, 1) := by decide +kernel
theorem dX4_read_106 : decode cX4_read 106 = .ok (.iaload, 1) := by decide +kernel
theorem dX4_read_107 : decode cX4_read 107 = .ok (.aload 6, 2) := by decide +kernel
theorem dX4_read_109 : decode cX4_read 109 = .ok (.iload 8, 2) := by decide +kernel
theorem dX4_read_111 : decode cX4_read 111 = .ok (.iconst 2, 1) := by decide +kernel
theorem dX4_read_112 : decode cX4_read 112 = .ok (.iadd, 1) := by decide +kernel
theorem dX4_read_113 : decode cX4_read 113 = .ok (.iaload, 1) := by decide +kernel
theorem dX4_read_114 : decode cX4_read 114 = .ok (.invokevirtual 223, 3) := by decide +kernel
theorem dX4_read_117 : decode cX4_read 117 = .ok (.ifCond .ge 25, 3) := by decide +kernel
theorem dX4_read_120 : decode cX4_read 120 = .ok (.aload_n 0, 1) := by decide +kernel
theorem dX4_read_121 : decode cX4_read 121 = .ok (.getfield 10, 3) := by decide +kernel
theorem dX4_read_124 : decode cX4_read 124 = .ok (.iload 5, 2) := by decide +kernel
theorem dX4_read_126 : decode cX4_read 126 = .ok (.putfield 83, 3) := by decide +kernel
theorem dX4_read_129 : decode cX4_read 129 = .ok (.aload_n 0, 1) := by decide +kernel
theorem dX4_read_130 : decode cX4_read 130 = .ok (.getfield 36, 3) := by decide +kernel
theorem dX4_read_133 : decode cX4_read 133 = .ok (.invokevirtual 70, 3) := by decide +kernel
theorem dX4_read_136 : decode cX4_read 136 = .ok (.bipush (-20), 2) := by decide +kernel
theorem dX4_read_138 : decode cX4_read 138 = .ok (.iload 7, 2) := by decide +kernel
theorem dX4_read_140 : decode cX4_read 140 = .ok (.isub, 1) := by decide +kernel
theorem dX4_read_141 : decode cX4_read 141 = .ok (.ireturn, 1) := by decide +kernel
theorem dX4_read_142 : decode cX4_read 142 = .ok (.iinc 7 1, 3) := by decide +kernel
theorem dX4_read_145 : decode cX4_read 145 = .ok (.goto (-94), 3) := by decide +kernel
theorem dX4_read_148 : decode cX4_read 148 = .ok (.aload_n 0, 1) := by decide +kernel
theorem dX4_read_149 : decode cX4_read 149 = .ok (.iconst 0, 1) := by decide +kernel
theorem dX4_read_150 : decode cX4_read 150 = .ok (.putfield 252, 3) := by decide +kernel
theorem dX4_read_153 : decode cX4_read 153 = .ok (.iload 4, 2) := by decide +kernel
theorem dX4_read_155 : decode cX4_read 155 = .ok (.ireturn, 1) := by decide +kernel
theorem dX4_torn_0 : decode cX4_torn 0 = .ok (.aload_n 0, 1) := by decide +kernel
theorem dX4_torn_1 : decode cX4_torn 1 = .ok (.getfield 252, 3) := by decide +kernel
theorem dX4_torn_4 : decode cX4_torn 4 = .ok (.ireturn, 1) := by decide +kernel
theorem dX4_count_0 : decode cX4_count 0 = .ok (.iload_n 1, 1) := by decide +kernel
theorem dX4_count_1 : decode cX4_count 1 = .ok (.tableswitch 160 0 5 #[39, 69, 87, 95, 122, 140], 39) := by decide +kernel
theorem dX4_count_40 : decode cX4_count 40 = .ok (.aload_n 0, 1) := by decide +kernel
theorem dX4_count_41 : decode cX4_count 41 = .ok (.getfield 23, 3) := by decide +kernel
theorem dX4_count_44 : decode cX4_count 44 = .ok (.iconst 0, 1) := by decide +kernel
theorem dX4_count_45 : decode cX4_count 45 = .ok (.baload, 1) := by decide +kernel
theorem dX4_count_46 : decode cX4_count 46 = .ok (.ifCond .eq 7, 3) := by decide +kernel
theorem dX4_count_49 : decode cX4_count 49 = .ok (.iconst 1, 1) := by decide +kernel
theorem dX4_count_50 : decode cX4_count 50 = .ok (.goto 4, 3) := by decide +kernel
theorem dX4_count_53 : decode cX4_count 53 = .ok (.iconst 0, 1) := by decide +kernel
theorem dX4_count_54 : decode cX4_count 54 = .ok (.aload_n 0, 1) := by decide +kernel
theorem dX4_count_55 : decode cX4_count 55 = .ok (.getfield 23, 3) := by decide +kernel
theorem dX4_count_58 : decode cX4_count 58 = .ok (.iconst 1, 1) := by decide +kernel
theorem dX4_count_59 : decode cX4_count 59 = .ok (.baload, 1) := by decide +kernel
theorem dX4_count_60 : decode cX4_count 60 = .ok (.ifCond .eq 7, 3) := by decide +kernel
theorem dX4_count_63 : decode cX4_count 63 = .ok (.iconst 1, 1) := by decide +kernel
theorem dX4_count_64 : decode cX4_count 64 = .ok (.goto 4, 3) := by decide +kernel
theorem dX4_count_67 : decode cX4_count 67 = .ok (.iconst 0, 1) := by decide +kernel
theorem dX4_count_68 : decode cX4_count 68 = .ok (.iadd, 1) := by decide +kernel
theorem dX4_count_69 : decode cX4_count 69 = .ok (.ireturn, 1) := by decide +kernel
theorem dX4_count_70 : decode cX4_count 70 = .ok (.aload_n 0, 1) := by decide +kernel
theorem dX4_count_71 : decode cX4_count 71 = .ok (.getfield 10, 3) := by decide +kernel
theorem dX4_count_74 : decode cX4_count 74 = .ok (.getfield 111, 3) := by decide +kernel
theorem dX4_count_77 : decode cX4_count 77 = .ok (.aload_n 0, 1) := by decide +kernel
theorem dX4_count_78 : decode cX4_count 78 = .ok (.getfield 10, 3) := by decide +kernel
theorem dX4_count_81 : decode cX4_count 81 = .ok (.getfield 80, 3) := by decide +kernel
theorem dX4_count_84 : decode cX4_count 84 = .ok (.invokestatic 255, 3) := by decide +kernel
theorem dX4_count_87 : decode cX4_count 87 = .ok (.ireturn, 1) := by decide +kernel
theorem dX4_count_88 : decode cX4_count 88 = .ok (.aload_n 0, 1) := by decide +kernel
theorem dX4_count_89 : decode cX4_count 89 = .ok (.getfield 43, 3) := by decide +kernel
theorem dX4_count_92 : decode cX4_count 92 = .ok (.getfield 48, 3) := by decide +kernel
theorem dX4_count_95 : decode cX4_count 95 = .ok (.ireturn, 1) := by decide +kernel
theorem dX4_count_96 : decode cX4_count 96 = .ok (.aload_n 0, 1) := by decide +kernel
theorem dX4_count_97 : decode cX4_count 97 = .ok (.getfield 29, 3) := by decide +kernel
theorem dX4_count_100 : decode cX4_count 100 = .ok (.iconst 0, 1) := by decide +kernel
theorem dX4_count_101 : decode cX4_count 101 = .ok (.aaload, 1) := by decide +kernel
theorem dX4_count_102 : decode cX4_count 102 = .ok (.getfield 259, 3) := by decide +kernel
theorem dX4_count_105 : decode cX4_count 105 = .ok (.ifCond .ge 8, 3) := by decide +kernel
theorem dX4_count_108 : decode cX4_count 108 = .ok (.bipush (-4), 2) := by decide +kernel
theorem dX4_count_110 : decode cX4_count 110 = .ok (.goto 12, 3) := by decide +kernel
theorem dX4_count_113 : decode cX4_count 113 = .ok (.aload_n 0, 1) := by decide +kernel
theorem dX4_count_114 : decode cX4_count 114 = .ok (.getfield 29, 3) := by decide +kernel
theorem dX4_count_117 : decode cX4_count 117 = .ok (.iconst 0, 1) := by decide +kernel
theorem dX4_count_118 : decode cX4_count 118 = .ok (.aaload, 1) := by decide +kernel
theorem dX4_count_119 : decode cX4_count 119 = .ok (.getfield 259, 3) := by decide +kernel
theorem dX4_count_122 : decode cX4_count 122 = .ok (.ireturn, 1) := by decide +kernel
theorem dX4_count_123 : decode cX4_count 123 = .ok (.aload_n 0, 1) := by decide +kernel
theorem dX4_count_124 : decode cX4_count 124 = .ok (.getfield 10, 3) := by decide +kernel
theorem dX4_count_127 : decode cX4_count 127 = .ok (.getfield 133, 3) := by decide +kernel
theorem dX4_count_130 : decode cX4_count 130 = .ok (.aload_n 0, 1) := by decide +kernel
theorem dX4_count_131 : decode cX4_count 131 = .ok (.getfield 10, 3) := by decide +kernel
theorem dX4_count_134 : decode cX4_count 134 = .ok (.getfield 83, 3) := by decide +kernel
theorem dX4_count_137 : decode cX4_count 137 = .ok (.invokestatic 255, 3) := by decide +kernel
theorem dX4_count_140 : decode cX4_count 140 = .ok (.ireturn, 1) := by decide +kernel
theorem dX4_count_141 : decode cX4_count 141 = .ok (.aload_n 0, 1) := by decide +kernel
theorem dX4_count_142 : decode cX4_count 142 = .ok (.getfield 10, 3) := by decide +kernel
theorem dX4_count_145 : decode cX4_count 145 = .ok (.getfield 121, 3) := by decide +kernel
theorem dX4_count_148 : decode cX4_count 148 = .ok (.aload_n 0, 1) := by decide +kernel
theorem dX4_count_149 : decode cX4_count 149 = .ok (.getfield 10, 3) := by decide +kernel
theorem dX4_count_152 : decode cX4_count 152 = .ok (.getfield 80, 3) := by decide +kernel
theorem dX4_count_155 : decode cX4_count 155 = .ok (.iconst 1, 1) := by decide +kernel
theorem dX4_count_156 : decode cX4_count 156 = .ok (.isub, 1) := by decide +kernel
theorem dX4_count_157 : decode cX4_count 157 = .ok (.invokestatic 255, 3) := by decide +kernel
theorem dX4_count_160 : decode cX4_count 160 = .ok (.ireturn, 1) := by decide +kernel
theorem dX4_count_161 : decode cX4_count 161 = .ok (.iconst (-1), 1) := by decide +kernel
theorem dX4_count_162 : decode cX4_count 162 = .ok (.ireturn, 1) := by decide +kernel
theorem dX4_isRule_0 : decode cX4_isRule 0 = .ok (.iload_n 0, 1) := by decide +kernel
theorem dX4_isRule_1 : decode cX4_isRule 1 = .ok (.ifCond .lt 12, 3) := by decide +kernel
theorem dX4_isRule_4 : decode cX4_isRule 4 = .ok (.iload_n 0, 1) := by decide +kernel
theorem dX4_isRule_5 : decode cX4_isRule 5 = .ok (.iconst 3, 1) := by decide +kernel
theorem dX4_isRule_6 : decode cX4_isRule 6 = .ok (.if_icmp .ge 7, 3) := by decide +kernel
theorem dX4_isRule_9 : decode cX4_isRule 9 = .ok (.iconst 1, 1) := by decide +kernel
theorem dX4_isRule_10 : decode cX4_isRule 10 = .ok (.goto 4, 3) := by decide +kernel
theorem dX4_isRule_13 : decode cX4_isRule 13 = .ok (.iconst 0, 1) := by decide +kernel
theorem dX4_isRule_14 : decode cX4_isRule 14 = .ok (.ireturn, 1) := by decide +kernel
theorem dX4_isImage_0 : decode cX4_isImage 0 = .ok (.iload_n 0, 1) := by decide +kernel
theorem dX4_isImage_1 : decode cX4_isImage 1 = .ok (.ifCond .lt 12, 3) := by decide +kernel
theorem dX4_isImage_4 : decode cX4_isImage 4 = .ok (.iload_n 0, 1) := by decide +kernel
theorem dX4_isImage_5 : decode cX4_isImage 5 = .ok (.iconst 2, 1) := by decide +kernel
theorem dX4_isImage_6 : decode cX4_isImage 6 = .ok (.if_icmp .ge 7, 3) := by decide +kernel
theorem dX4_isImage_9 : decode cX4_isImage 9 = .ok (.iconst 1, 1) := by decide +kernel
theorem dX4_isImage_10 : decode cX4_isImage 10 = .ok (.goto 4, 3) := by decide +kernel
theorem dX4_isImage_13 : decode cX4_isImage 13 = .ok (.iconst 0, 1) := by decide +kernel
theorem dX4_isImage_14 : decode cX4_isImage 14 = .ok (.ireturn, 1) := by decide +kernel
theorem dX4_isSheet_0 : decode cX4_isSheet 0 = .ok (.iload_n 0, 1) := by decide +kernel
theorem dX4_isSheet_1 : decode cX4_isSheet 1 = .ok (.ifCond .lt 12, 3) := by decide +kernel
theorem dX4_isSheet_4 : decode cX4_isSheet 4 = .ok (.iload_n 0, 1) := by decide +kernel
theorem dX4_isSheet_5 : decode cX4_isSheet 5 = .ok (.iconst 4, 1) := by decide +kernel
theorem dX4_isSheet_6 : decode cX4_isSheet 6 = .ok (.if_icmp .ge 7, 3) := by decide +kernel
theorem dX4_isSheet_9 : decode cX4_isSheet 9 = .ok (.iconst 1, 1) := by decide +kernel
theorem dX4_isSheet_10 : decode cX4_isSheet 10 = .ok (.goto 4, 3) := by decide +kernel
theorem dX4_isSheet_13 : decode cX4_isSheet 13 = .ok (.iconst 0, 1) := by decide +kernel
theorem dX4_isSheet_14 : decode cX4_isSheet 14 = .ok (.ireturn, 1) := by decide +kernel
theorem dX4_isLane_0 : decode cX4_isLane 0 = .ok (.iload_n 0, 1) := by decide +kernel
theorem dX4_isLane_1 : decode cX4_isLane 1 = .ok (.ifCond .lt 12, 3) := by decide +kernel
theorem dX4_isLane_4 : decode cX4_isLane 4 = .ok (.iload_n 0, 1) := by decide +kernel
theorem dX4_isLane_5 : decode cX4_isLane 5 = .ok (.iconst 3, 1) := by decide +kernel
theorem dX4_isLane_6 : decode cX4_isLane 6 = .ok (.if_icmp .ge 7, 3) := by decide +kernel
theorem dX4_isLane_9 : decode cX4_isLane 9 = .ok (.iconst 1, 1) := by decide +kernel
theorem dX4_isLane_10 : decode cX4_isLane 10 = .ok (.goto 4, 3) := by decide +kernel
theorem dX4_isLane_13 : decode cX4_isLane 13 = .ok (.iconst 0, 1) := by decide +kernel
theorem dX4_isLane_14 : decode cX4_isLane 14 = .ok (.ireturn, 1) := by decide +kernel
theorem dX4_sum_0 : decode cX4_sum 0 = .ok (.iconst 0, 1) := by decide +kernel
theorem dX4_sum_1 : decode cX4_sum 1 = .ok (.istore_n 2, 1) := by decide +kernel
theorem dX4_sum_2 : decode cX4_sum 2 = .ok (.iconst 0, 1) := by decide +kernel
theorem dX4_sum_3 : decode cX4_sum 3 = .ok (.istore_n 3, 1) := by decide +kernel
theorem dX4_sum_4 : decode cX4_sum 4 = .ok (.iload_n 3, 1) := by decide +kernel
theorem dX4_sum_5 : decode cX4_sum 5 = .ok (.iload_n 1, 1) := by decide +kernel
theorem dX4_sum_6 : decode cX4_sum 6 = .ok (.if_icmp .ge 21, 3) := by decide +kernel
theorem dX4_sum_9 : decode cX4_sum 9 = .ok (.iload_n 3, 1) := by decide +kernel
theorem dX4_sum_10 : decode cX4_sum 10 = .ok (.aload_n 0, 1) := by decide +kernel
theorem dX4_sum_11 : decode cX4_sum 11 = .ok (.arraylength, 1) := by decide +kernel
theorem dX4_sum_12 : decode cX4_sum 12 = .ok (.if_icmp .ge 15, 3) := by decide +kernel
theorem dX4_sum_15 : decode cX4_sum 15 = .ok (.iload_n 2, 1) := by decide +kernel
theorem dX4_sum_16 : decode cX4_sum 16 = .ok (.aload_n 0, 1) := by decide +kernel
theorem dX4_sum_17 : decode cX4_sum 17 = .ok (.iload_n 3, 1) := by decide +kernel
theorem dX4_sum_18 : decode cX4_sum 18 = .ok (.iaload, 1) := by decide +kernel
theorem dX4_sum_19 : decode cX4_sum 19 = .ok (.iadd, 1) := by decide +kernel
theorem dX4_sum_20 : decode cX4_sum 20 = .ok (.istore_n 2, 1) := by decide +kernel
theorem dX4_sum_21 : decode cX4_sum 21 = .ok (.iinc 3 1, 3) := by decide +kernel
theorem dX4_sum_24 : decode cX4_sum 24 = .ok (.goto (-20), 3) := by decide +kernel
theorem dX4_sum_27 : decode cX4_sum 27 = .ok (.iload_n 2, 1) := by decide +kernel
theorem dX4_sum_28 : decode cX4_sum 28 = .ok (.ireturn, 1) := by decide +kernel
theorem dX4_faultBehindAll_0 : decode cX4_faultBehindAll 0 = .ok (.aload_n 1, 1) := by decide +kernel
theorem dX4_faultBehindAll_1 : decode cX4_faultBehindAll 1 = .ok (.invokevirtual 260, 3) := by decide +kernel
theorem dX4_faultBehindAll_4 : decode cX4_faultBehindAll 4 = .ok (.ifCond .ne 6, 3) := by decide +kernel
theorem dX4_faultBehindAll_7 : decode cX4_faultBehindAll 7 = .ok (.bipush 6, 2) := by decide +kernel
theorem dX4_faultBehindAll_9 : decode cX4_faultBehindAll 9 = .ok (.ireturn, 1) := by decide +kernel
theorem dX4_faultBehindAll_10 : decode cX4_faultBehindAll 10 = .ok (.aload_n 0, 1) := by decide +kernel
theorem dX4_faultBehindAll_11 : decode cX4_faultBehindAll 11 = .ok (.getfield 36, 3) := by decide +kernel
theorem dX4_faultBehindAll_14 : decode cX4_faultBehindAll 14 = .ok (.invokevirtual 70, 3) := by decide +kernel
theorem dX4_faultBehindAll_17 : decode cX4_faultBehindAll 17 = .ok (.aload_n 0, 1) := by decide +kernel
theorem dX4_faultBehindAll_18 : decode cX4_faultBehindAll 18 = .ok (.getfield 36, 3) := by decide +kernel
theorem dX4_faultBehindAll_21 : decode cX4_faultBehindAll 21 = .ok (.aload_n 1, 1) := by decide +kernel
theorem dX4_faultBehindAll_22 : decode cX4_faultBehindAll 22 = .ok (.invokevirtual 151, 3) := by decide +kernel
theorem dX4_faultBehindAll_25 : decode cX4_faultBehindAll 25 = .ok (.aload_n 0, 1) := by decide +kernel
theorem dX4_faultBehindAll_26 : decode cX4_faultBehindAll 26 = .ok (.getfield 36, 3) := by decide +kernel
theorem dX4_faultBehindAll_29 : decode cX4_faultBehindAll 29 = .ok (.aload_n 1, 1) := by decide +kernel
theorem dX4_faultBehindAll_30 : decode cX4_faultBehindAll 30 = .ok (.invokevirtual 212, 3) := by decide +kernel
theorem dX4_faultBehindAll_33 : decode cX4_faultBehindAll 33 = .ok (.ifCond .ne 6, 3) := by decide +kernel
theorem dX4_faultBehindAll_36 : decode cX4_faultBehindAll 36 = .ok (.bipush 7, 2) := by decide +kernel
theorem dX4_faultBehindAll_38 : decode cX4_faultBehindAll 38 = .ok (.ireturn, 1) := by decide +kernel
theorem dX4_faultBehindAll_39 : decode cX4_faultBehindAll 39 = .ok (.aload_n 0, 1) := by decide +kernel
theorem dX4_faultBehindAll_40 : decode cX4_faultBehindAll 40 = .ok (.getfield 36, 3) := by decide +kernel
theorem dX4_faultBehindAll_43 : decode cX4_faultBehindAll 43 = .ok (.invokevirtual 216, 3) := by decide +kernel
theorem dX4_faultBehindAll_46 : decode cX4_faultBehindAll 46 = .ok (.ifCond .eq 7, 3) := by decide +kernel
theorem dX4_faultBehindAll_49 : decode cX4_faultBehindAll 49 = .ok (.iconst 0, 1) := by decide +kernel
theorem dX4_faultBehindAll_50 : decode cX4_faultBehindAll 50 = .ok (.goto 5, 3) := by decide +kernel
theorem dX4_faultBehindAll_53 : decode cX4_faultBehindAll 53 = .ok (.bipush 8, 2) := by decide +kernel
theorem dX4_faultBehindAll_55 : decode cX4_faultBehindAll 55 = .ok (.ireturn, 1) := by decide +kernel
theorem dX4_isPlain_0 : decode cX4_isPlain 0 = .ok (.aload_n 0, 1) := by decide +kernel
theorem dX4_isPlain_1 : decode cX4_isPlain 1 = .ok (.getfield 36, 3) := by decide +kernel
theorem dX4_isPlain_4 : decode cX4_isPlain 4 = .ok (.aload_n 0, 1) := by decide +kernel
theorem dX4_isPlain_5 : decode cX4_isPlain 5 = .ok (.getfield 10, 3) := by decide +kernel
theorem dX4_isPlain_8 : decode cX4_isPlain 8 = .ok (.invokevirtual 170, 3) := by decide +kernel
theorem dX4_isPlain_11 : decode cX4_isPlain 11 = .ok (.iconst 0, 1) := by decide +kernel
theorem dX4_isPlain_12 : decode cX4_isPlain 12 = .ok (.istore_n 1, 1) := by decide +kernel
theorem dX4_isPlain_13 : decode cX4_isPlain 13 = .ok (.iconst 0, 1) := by decide +kernel
theorem dX4_isPlain_14 : decode cX4_isPlain 14 = .ok (.istore_n 2, 1) := by decide +kernel
theorem dX4_isPlain_15 : decode cX4_isPlain 15 = .ok (.iload_n 2, 1) := by decide +kernel
theorem dX4_isPlain_16 : decode cX4_isPlain 16 = .ok (.aload_n 0, 1) := by decide +kernel
theorem dX4_isPlain_17 : decode cX4_isPlain 17 = .ok (.getfield 10, 3) := by decide +kernel
theorem dX4_isPlain_20 : decode cX4_isPlain 20 = .ok (.getfield 83, 3) := by decide +kernel
theorem dX4_isPlain_23 : decode cX4_isPlain 23 = .ok (.if_icmp .ge 29, 3) := by decide +kernel
theorem dX4_isPlain_26 : decode cX4_isPlain 26 = .ok (.iload_n 1, 1) := by decide +kernel
theorem dX4_isPlain_27 : decode cX4_isPlain 27 = .ok (.aload_n 0, 1) := by decide +kernel
theorem dX4_isPlain_28 : decode cX4_isPlain 28 = .ok (.getfield 10, 3) := by decide +kernel
theorem dX4_isPlain_31 : decode cX4_isPlain 31 = .ok (.getfield 135, 3) := by decide +kernel
theorem dX4_isPlain_34 : decode cX4_isPlain 34 = .ok (.iload_n 2, 1) := by decide +kernel
theorem dX4_isPlain_35 : decode cX4_isPlain 35 = .ok (.iaload, 1) := by decide +kernel
theorem dX4_isPlain_36 : decode cX4_isPlain 36 = .ok (.ifCond .le 7, 3) := by decide +kernel
theorem dX4_isPlain_39 : decode cX4_isPlain 39 = .ok (.iconst 1, 1) := by decide +kernel
theorem dX4_isPlain_40 : decode cX4_isPlain 40 = .ok (.goto 4, 3) := by decide +kernel
theorem dX4_isPlain_43 : decode cX4_isPlain 43 = .ok (.iconst 0, 1) := by decide +kernel
theorem dX4_isPlain_44 : decode cX4_isPlain 44 = .ok (.iadd, 1) := by decide +kernel
theorem dX4_isPlain_45 : decode cX4_isPlain 45 = .ok (.istore_n 1, 1) := by decide +kernel
theorem dX4_isPlain_46 : decode cX4_isPlain 46 = .ok (.iinc 2 1, 3) := by decide +kernel
theorem dX4_isPlain_49 : decode cX4_isPlain 49 = .ok (.goto (-34), 3) := by decide +kernel
theorem dX4_isPlain_52 : decode cX4_isPlain 52 = .ok (.aload_n 0, 1) := by decide +kernel
theorem dX4_isPlain_53 : decode cX4_isPlain 53 = .ok (.getfield 36, 3) := by decide +kernel
theorem dX4_isPlain_56 : decode cX4_isPlain 56 = .ok (.aload_n 0, 1) := by decide +kernel
theorem dX4_isPlain_57 : decode cX4_isPlain 57 = .ok (.getfield 10, 3) := by decide +kernel
theorem dX4_isPlain_60 : decode cX4_isPlain 60 = .ok (.invokevirtual 173, 3) := by decide +kernel
theorem dX4_isPlain_63 : decode cX4_isPlain 63 = .ok (.iload_n 1, 1) := by decide +kernel
theorem dX4_isPlain_64 : decode cX4_isPlain 64 = .ok (.if_icmp .ne 7, 3) := by decide +kernel
theorem dX4_isPlain_67 : decode cX4_isPlain 67 = .ok (.iconst 1, 1) := by decide +kernel
theorem dX4_isPlain_68 : decode cX4_isPlain 68 = .ok (.goto 4, 3) := by decide +kernel
theorem dX4_isPlain_71 : decode cX4_isPlain 71 = .ok (.iconst 0, 1) := by decide +kernel
theorem dX4_isPlain_72 : decode cX4_isPlain 72 = .ok (.ireturn, 1) := by decide +kernel
theorem dX4_against_0 : decode cX4_against 0 = .ok (.aload_n 1, 1) := by decide +kernel
theorem dX4_against_1 : decode cX4_against 1 = .ok (.getfield 142, 3) := by decide +kernel
theorem dX4_against_4 : decode cX4_against 4 = .ok (.iload_n 2, 1) := by decide +kernel
theorem dX4_against_5 : decode cX4_against 5 = .ok (.iaload, 1) := by decide +kernel
theorem dX4_against_6 : decode cX4_against 6 = .ok (.ifCond .eq 19, 3) := by decide +kernel
theorem dX4_against_9 : decode cX4_against 9 = .ok (.aload_n 1, 1) := by decide +kernel
theorem dX4_against_10 : decode cX4_against 10 = .ok (.getfield 142, 3) := by decide +kernel
theorem dX4_against_13 : decode cX4_against 13 = .ok (.iload_n 2, 1) := by decide +kernel
theorem dX4_against_14 : decode cX4_against 14 = .ok (.iaload, 1) := by decide +kernel
theorem dX4_against_15 : decode cX4_against 15 = .ok (.iconst 2, 1) := by decide +kernel
theorem dX4_against_16 : decode cX4_against 16 = .ok (.if_icmp .ne 7, 3) := by decide +kernel
theorem dX4_against_19 : decode cX4_against 19 = .ok (.iconst 1, 1) := by decide +kernel
theorem dX4_against_20 : decode cX4_against 20 = .ok (.goto 4, 3) := by decide +kernel
theorem dX4_against_23 : decode cX4_against 23 = .ok (.iconst 2, 1) := by decide +kernel
theorem dX4_against_24 : decode cX4_against 24 = .ok (.ireturn, 1) := by decide +kernel
theorem dX4_against_25 : decode cX4_against 25 = .ok (.aload_n 1, 1) := by decide +kernel
theorem dX4_against_26 : decode cX4_against 26 = .ok (.aload_n 1, 1) := by decide +kernel
theorem dX4_against_27 : decode cX4_against 27 = .ok (.iload_n 2, 1) := by decide +kernel
theorem dX4_against_28 : decode cX4_against 28 = .ok (.aload_n 1, 1) := by decide +kernel
theorem dX4_against_29 : decode cX4_against 29 = .ok (.getfield 135, 3) := by decide +kernel
theorem dX4_against_32 : decode cX4_against 32 = .ok (.iload_n 2, 1) := by decide +kernel
theorem dX4_against_33 : decode cX4_against 33 = .ok (.iaload, 1) := by decide +kernel
theorem dX4_against_34 : decode cX4_against 34 = .ok (.invokevirtual 158, 3) := by decide +kernel
theorem dX4_against_37 : decode cX4_against 37 = .ok (.invokevirtual 161, 3) := by decide +kernel
theorem dX4_against_40 : decode cX4_against 40 = .ok (.ifCond .lt 5, 3) := by decide +kernel
theorem dX4_against_43 : decode cX4_against 43 = .ok (.iconst 3, 1) := by decide +kernel
theorem dX4_against_44 : decode cX4_against 44 = .ok (.ireturn, 1) := by decide +kernel
theorem dX4_against_45 : decode cX4_against 45 = .ok (.aload_n 0, 1) := by decide +kernel
theorem dX4_against_46 : decode cX4_against 46 = .ok (.getfield 36, 3) := by decide +kernel
theorem dX4_against_49 : decode cX4_against 49 = .ok (.aload_n 1, 1) := by decide +kernel
theorem dX4_against_50 : decode cX4_against 50 = .ok (.iload_n 2, 1) := by decide +kernel
theorem dX4_against_51 : decode cX4_against 51 = .ok (.invokevirtual 263, 3) := by decide +kernel
theorem dX4_against_54 : decode cX4_against 54 = .ok (.ifCond .ne 5, 3) := by decide +kernel
theorem dX4_against_57 : decode cX4_against 57 = .ok (.iconst 4, 1) := by decide +kernel
theorem dX4_against_58 : decode cX4_against 58 = .ok (.ireturn, 1) := by decide +kernel
theorem dX4_against_59 : decode cX4_against 59 = .ok (.aload_n 0, 1) := by decide +kernel
theorem dX4_against_60 : decode cX4_against 60 = .ok (.getfield 36, 3) := by decide +kernel
theorem dX4_against_63 : decode cX4_against 63 = .ok (.iload_n 2, 1) := by decide +kernel
theorem dX4_against_64 : decode cX4_against 64 = .ok (.invokevirtual 267, 3) := by decide +kernel
theorem dX4_against_67 : decode cX4_against 67 = .ok (.ifCond .eq 7, 3) := by decide +kernel
theorem dX4_against_70 : decode cX4_against 70 = .ok (.iconst 0, 1) := by decide +kernel
theorem dX4_against_71 : decode cX4_against 71 = .ok (.goto 4, 3) := by decide +kernel
theorem dX4_against_74 : decode cX4_against 74 = .ok (.iconst 5, 1) := by decide +kernel
theorem dX4_against_75 : decode cX4_against 75 = .ok (.ireturn, 1) := by decide +kernel
theorem dX4_letAllGo_0 : decode cX4_letAllGo 0 = .ok (.iconst 0, 1) := by decide +kernel
theorem dX4_letAllGo_1 : decode cX4_letAllGo 1 = .ok (.istore_n 3, 1) := by decide +kernel
theorem dX4_letAllGo_2 : decode cX4_letAllGo 2 = .ok (.iconst 0, 1) := by decide +kernel
theorem dX4_letAllGo_3 : decode cX4_letAllGo 3 = .ok (.istore 4, 2) := by decide +kernel
theorem dX4_letAllGo_5 : decode cX4_letAllGo 5 = .ok (.iload 4, 2) := by decide +kernel
theorem dX4_letAllGo_7 : decode cX4_letAllGo 7 = .ok (.aload_n 1, 1) := by decide +kernel
theorem dX4_letAllGo_8 : decode cX4_letAllGo 8 = .ok (.getfield 83, 3) := by decide +kernel
theorem dX4_letAllGo_11 : decode cX4_letAllGo 11 = .ok (.if_icmp .ge 41, 3) := by decide +kernel
theorem dX4_letAllGo_14 : decode cX4_letAllGo 14 = .ok (.aload_n 0, 1) := by decide +kernel
theorem dX4_letAllGo_15 : decode cX4_letAllGo 15 = .ok (.aload_n 1, 1) := by decide +kernel
theorem dX4_letAllGo_16 : decode cX4_letAllGo 16 = .ok (.iload_n 2, 1) := by decide +kernel
theorem dX4_letAllGo_17 : decode cX4_letAllGo 17 = .ok (.invokevirtual 270, 3) := by decide +kernel
theorem dX4_letAllGo_20 : decode cX4_letAllGo 20 = .ok (.istore 5, 2) := by decide +kernel
theorem dX4_letAllGo_22 : decode cX4_letAllGo 22 = .ok (.iload 5, 2) := by decide +kernel
theorem dX4_letAllGo_24 : decode cX4_letAllGo 24 = .ok (.ifCond .ge 5, 3) := by decide +kernel
theorem dX4_letAllGo_27 : decode cX4_letAllGo 27 = .ok (.iload_n 3, 1) := by decide +kernel
theorem dX4_letAllGo_28 : decode cX4_letAllGo 28 = .ok (.ireturn, 1) := by decide +kernel
theorem dX4_letAllGo_29 : decode cX4_letAllGo 29 = .ok (.aload_n 1, 1) := by decide +kernel
theorem dX4_letAllGo_30 : decode cX4_letAllGo 30 = .ok (.iload 5, 2) := by decide +kernel
theorem dX4_letAllGo_32 : decode cX4_letAllGo 32 = .ok (.invokevirtual 190, 3) := by decide +kernel
theorem dX4_letAllGo_35 : decode cX4_letAllGo 35 = .ok (.aload_n 0, 1) := by decide +kernel
theorem dX4_letAllGo_36 : decode cX4_letAllGo 36 = .ok (.getfield 36, 3) := by decide +kernel
theorem dX4_letAllGo_39 : decode cX4_letAllGo 39 = .ok (.aload_n 1, 1) := by decide +kernel
theorem dX4_letAllGo_40 : decode cX4_letAllGo 40 = .ok (.invokevirtual 273, 3) := by decide +kernel
theorem dX4_letAllGo_43 : decode cX4_letAllGo 43 = .ok (.iinc 3 1, 3) := by decide +kernel
theorem dX4_letAllGo_46 : decode cX4_letAllGo 46 = .ok (.iinc 4 1, 3) := by decide +kernel
theorem dX4_letAllGo_49 : decode cX4_letAllGo 49 = .ok (.goto (-44), 3) := by decide +kernel
theorem dX4_letAllGo_52 : decode cX4_letAllGo 52 = .ok (.iload_n 3, 1) := by decide +kernel
theorem dX4_letAllGo_53 : decode cX4_letAllGo 53 = .ok (.ireturn, 1) := by decide +kernel
theorem dX4_firstBy_0 : decode cX4_firstBy 0 = .ok (.bipush (-4), 2) := by decide +kernel
theorem dX4_firstBy_2 : decode cX4_firstBy 2 = .ok (.istore_n 3, 1) := by decide +kernel
theorem dX4_firstBy_3 : decode cX4_firstBy 3 = .ok (.iconst 0, 1) := by decide +kernel
theorem dX4_firstBy_4 : decode cX4_firstBy 4 = .ok (.istore 4, 2) := by decide +kernel
theorem dX4_firstBy_6 : decode cX4_firstBy 6 = .ok (.iload 4, 2) := by decide +kernel
theorem dX4_firstBy_8 : decode cX4_firstBy 8 = .ok (.aload_n 1, 1) := by decide +kernel
theorem dX4_firstBy_9 : decode cX4_firstBy 9 = .ok (.getfield 83, 3) := by decide +kernel
theorem dX4_firstBy_12 : decode cX4_firstBy 12 = .ok (.if_icmp .ge 37, 3) := by decide +kernel
theorem dX4_firstBy_15 : decode cX4_firstBy 15 = .ok (.aload_n 0, 1) := by decide +kernel
theorem dX4_firstBy_16 : decode cX4_firstBy 16 = .ok (.aload_n 1, 1) := by decide +kernel
theorem dX4_firstBy_17 : decode cX4_firstBy 17 = .ok (.iload 4, 2) := by decide +kernel
theorem dX4_firstBy_19 : decode cX4_firstBy 19 = .ok (.invokevirtual 154, 3) := by decide +kernel
theorem dX4_firstBy_22 : decode cX4_firstBy 22 = .ok (.ifCond .ne 21, 3) := by decide +kernel
theorem dX4_firstBy_25 : decode cX4_firstBy 25 = .ok (.iload_n 3, 1) := by decide +kernel
theorem dX4_firstBy_26 : decode cX4_firstBy 26 = .ok (.ifCond .lt 14, 3) := by decide +kernel
theorem dX4_firstBy_29 : decode cX4_firstBy 29 = .ok (.aload_n 1, 1) := by decide +kernel
theorem dX4_firstBy_30 : decode cX4_firstBy 30 = .ok (.iload_n 2, 1) := by decide +kernel
theorem dX4_firstBy_31 : decode cX4_firstBy 31 = .ok (.iload 4, 2) := by decide +kernel
theorem dX4_firstBy_33 : decode cX4_firstBy 33 = .ok (.iload_n 3, 1) := by decide +kernel
theorem dX4_firstBy_34 : decode cX4_firstBy 34 = .ok (.invokestatic 276, 3) := by decide +kernel
theorem dX4_firstBy_37 : decode cX4_firstBy 37 = .ok (.ifCond .eq 6, 3) := by decide +kernel
theorem dX4_firstBy_40 : decode cX4_firstBy 40 = .ok (.iload 4, 2) := by decide +kernel
theorem dX4_firstBy_42 : decode cX4_firstBy 42 = .ok (.istore_n 3, 1) := by decide +kernel
theorem dX4_firstBy_43 : decode cX4_firstBy 43 = .ok (.iinc 4 1, 3) := by decide +kernel
theorem dX4_firstBy_46 : decode cX4_firstBy 46 = .ok (.goto (-40), 3) := by decide +kernel
theorem dX4_firstBy_49 : decode cX4_firstBy 49 = .ok (.iload_n 3, 1) := by decide +kernel
theorem dX4_firstBy_50 : decode cX4_firstBy 50 = .ok (.ireturn, 1) := by decide +kernel
theorem dX4_isAhead_0 : decode cX4_isAhead 0 = .ok (.iload_n 1, 1) := by decide +kernel
theorem dX4_isAhead_1 : decode cX4_isAhead 1 = .ok (.ifCond .ne 14, 3) := by decide +kernel
theorem dX4_isAhead_4 : decode cX4_isAhead 4 = .ok (.iload_n 2, 1) := by decide +kernel
theorem dX4_isAhead_5 : decode cX4_isAhead 5 = .ok (.iload_n 3, 1) := by decide +kernel
theorem dX4_isAhead_6 : decode cX4_isAhead 6 = .ok (.if_icmp .ge 7, 3) := by decide +kernel
theorem dX4_isAhead_9 : decode cX4_isAhead 9 = .ok (.iconst 1, 1) := by decide +kernel
theorem dX4_isAhead_10 : decode cX4_isAhead 10 = .ok (.goto 4, 3) := by decide +kernel
theorem dX4_isAhead_13 : decode cX4_isAhead 13 = .ok (.iconst 0, 1) := by decide +kernel
theorem dX4_isAhead_14 : decode cX4_isAhead 14 = .ok (.ireturn, 1) := by decide +kernel
theorem dX4_isAhead_15 : decode cX4_isAhead 15 = .ok (.aload_n 0, 1) := by decide +kernel
theorem dX4_isAhead_16 : decode cX4_isAhead 16 = .ok (.iload_n 2, 1) := by decide +kernel
theorem dX4_isAhead_17 : decode cX4_isAhead 17 = .ok (.invokevirtual 148, 3) := by decide +kernel
theorem dX4_isAhead_20 : decode cX4_isAhead 20 = .ok (.istore 4, 2) := by decide +kernel
theorem dX4_isAhead_22 : decode cX4_isAhead 22 = .ok (.aload_n 0, 1) := by decide +kernel
theorem dX4_isAhead_23 : decode cX4_isAhead 23 = .ok (.iload_n 3, 1) := by decide +kernel
theorem dX4_isAhead_24 : decode cX4_isAhead 24 = .ok (.invokevirtual 148, 3) := by decide +kernel
theorem dX4_isAhead_27 : decode cX4_isAhead 27 = .ok (.istore 5, 2) := by decide +kernel
theorem dX4_isAhead_29 : decode cX4_isAhead 29 = .ok (.iload_n 1, 1) := by decide +kernel
theorem dX4_isAhead_30 : decode cX4_isAhead 30 = .ok (.iconst 1, 1) := by decide +kernel
theorem dX4_isAhead_31 : decode cX4_isAhead 31 = .ok (.if_icmp .ne 18, 3) := by decide +kernel
theorem dX4_isAhead_34 : decode cX4_isAhead 34 = .ok (.iload 4, 2) := by decide +kernel
theorem dX4_isAhead_36 : decode cX4_isAhead 36 = .ok (.iload 5, 2) := by decide +kernel
theorem dX4_isAhead_38 : decode cX4_isAhead 38 = .ok (.if_icmp .ge 7, 3) := by decide +kernel
theorem dX4_isAhead_41 : decode cX4_isAhead 41 = .ok (.iconst 1, 1) := by decide +kernel
theorem dX4_isAhead_42 : decode cX4_isAhead 42 = .ok (.goto 19, 3) := by decide +kernel
theorem dX4_isAhead_45 : decode cX4_isAhead 45 = .ok (.iconst 0, 1) := by decide +kernel
theorem dX4_isAhead_46 : decode cX4_isAhead 46 = .ok (.goto 15, 3) := by decide +kernel
theorem dX4_isAhead_49 : decode cX4_isAhead 49 = .ok (.iload 4, 2) := by decide +kernel
theorem dX4_isAhead_51 : decode cX4_isAhead 51 = .ok (.iload 5, 2) := by decide +kernel
theorem dX4_isAhead_53 : decode cX4_isAhead 53 = .ok (.if_icmp .le 7, 3) := by decide +kernel
theorem dX4_isAhead_56 : decode cX4_isAhead 56 = .ok (.iconst 1, 1) := by decide +kernel
theorem dX4_isAhead_57 : decode cX4_isAhead 57 = .ok (.goto 4, 3) := by decide +kernel
theorem dX4_isAhead_60 : decode cX4_isAhead 60 = .ok (.iconst 0, 1) := by decide +kernel
theorem dX4_isAhead_61 : decode cX4_isAhead 61 = .ok (.ireturn, 1) := by decide +kernel
theorem dX4_howManyFree_0 : decode cX4_howManyFree 0 = .ok (.aload_n 0, 1) := by decide +kernel
theorem dX4_howManyFree_1 : decode cX4_howManyFree 1 = .ok (.getfield 36, 3) := by decide +kernel
theorem dX4_howManyFree_4 : decode cX4_howManyFree 4 = .ok (.aload_n 0, 1) := by decide +kernel
theorem dX4_howManyFree_5 : decode cX4_howManyFree 5 = .ok (.getfield 10, 3) := by decide +kernel
theorem dX4_howManyFree_8 : decode cX4_howManyFree 8 = .ok (.invokevirtual 151, 3) := by decide +kernel
theorem dX4_howManyFree_11 : decode cX4_howManyFree 11 = .ok (.iconst 0, 1) := by decide +kernel
theorem dX4_howManyFree_12 : decode cX4_howManyFree 12 = .ok (.istore_n 1, 1) := by decide +kernel
theorem dX4_howManyFree_13 : decode cX4_howManyFree 13 = .ok (.iconst 0, 1) := by decide +kernel
theorem dX4_howManyFree_14 : decode cX4_howManyFree 14 = .ok (.istore_n 2, 1) := by decide +kernel
theorem dX4_howManyFree_15 : decode cX4_howManyFree 15 = .ok (.iload_n 2, 1) := by decide +kernel
theorem dX4_howManyFree_16 : decode cX4_howManyFree 16 = .ok (.aload_n 0, 1) := by decide +kernel
theorem dX4_howManyFree_17 : decode cX4_howManyFree 17 = .ok (.getfield 10, 3) := by decide +kernel
theorem dX4_howManyFree_20 : decode cX4_howManyFree 20 = .ok (.getfield 83, 3) := by decide +kernel
theorem dX4_howManyFree_23 : decode cX4_howManyFree 23 = .ok (.if_icmp .ge 29, 3) := by decide +kernel
theorem dX4_howManyFree_26 : decode cX4_howManyFree 26 = .ok (.iload_n 1, 1) := by decide +kernel
theorem dX4_howManyFree_27 : decode cX4_howManyFree 27 = .ok (.aload_n 0, 1) := by decide +kernel
theorem dX4_howManyFree_28 : decode cX4_howManyFree 28 = .ok (.aload_n 0, 1) := by decide +kernel
theorem dX4_howManyFree_29 : decode cX4_howManyFree 29 = .ok (.getfield 10, 3) := by decide +kernel
theorem dX4_howManyFree_32 : decode cX4_howManyFree 32 = .ok (.iload_n 2, 1) := by decide +kernel
theorem dX4_howManyFree_33 : decode cX4_howManyFree 33 = .ok (.invokevirtual 154, 3) := by decide +kernel
theorem dX4_howManyFree_36 : decode cX4_howManyFree 36 = .ok (.ifCond .ne 7, 3) := by decide +kernel
theorem dX4_howManyFree_39 : decode cX4_howManyFree 39 = .ok (.iconst 1, 1) := by decide +kernel
theorem dX4_howManyFree_40 : decode cX4_howManyFree 40 = .ok (.goto 4, 3) := by decide +kernel
theorem dX4_howManyFree_43 : decode cX4_howManyFree 43 = .ok (.iconst 0, 1) := by decide +kernel
theorem dX4_howManyFree_44 : decode cX4_howManyFree 44 = .ok (.iadd, 1) := by decide +kernel
theorem dX4_howManyFree_45 : decode cX4_howManyFree 45 = .ok (.istore_n 1, 1) := by decide +kernel
theorem dX4_howManyFree_46 : decode cX4_howManyFree 46 = .ok (.iinc 2 1, 3) := by decide +kernel
theorem dX4_howManyFree_49 : decode cX4_howManyFree 49 = .ok (.goto (-34), 3) := by decide +kernel
theorem dX4_howManyFree_52 : decode cX4_howManyFree 52 = .ok (.iload_n 1, 1) := by decide +kernel
theorem dX4_howManyFree_53 : decode cX4_howManyFree 53 = .ok (.ireturn, 1) := by decide +kernel
theorem dX4_planned_0 : decode cX4_planned 0 = .ok (.aload_n 0, 1) := by decide +kernel
theorem dX4_planned_1 : decode cX4_planned 1 = .ok (.getfield 36, 3) := by decide +kernel
theorem dX4_planned_4 : decode cX4_planned 4 = .ok (.aload_n 0, 1) := by decide +kernel
theorem dX4_planned_5 : decode cX4_planned 5 = .ok (.getfield 10, 3) := by decide +kernel
theorem dX4_planned_8 : decode cX4_planned 8 = .ok (.invokevirtual 151, 3) := by decide +kernel
theorem dX4_planned_11 : decode cX4_planned 11 = .ok (.aload_n 0, 1) := by decide +kernel
theorem dX4_planned_12 : decode cX4_planned 12 = .ok (.getfield 16, 3) := by decide +kernel
theorem dX4_planned_15 : decode cX4_planned 15 = .ok (.aload_n 0, 1) := by decide +kernel
theorem dX4_planned_16 : decode cX4_planned 16 = .ok (.getfield 10, 3) := by decide +kernel
theorem dX4_planned_19 : decode cX4_planned 19 = .ok (.invokevirtual 76, 3) := by decide +kernel
theorem dX4_planned_22 : decode cX4_planned 22 = .ok (.iconst 0, 1) := by decide +kernel
theorem dX4_planned_23 : decode cX4_planned 23 = .ok (.istore_n 3, 1) := by decide +kernel
theorem dX4_planned_24 : decode cX4_planned 24 = .ok (.iload_n 3, 1) := by decide +kernel
theorem dX4_planned_25 : decode cX4_planned 25 = .ok (.bipush 24, 2) := by decide +kernel
theorem dX4_planned_27 : decode cX4_planned 27 = .ok (.if_icmp .gt 46, 3) := by decide +kernel
theorem dX4_planned_30 : decode cX4_planned 30 = .ok (.aload_n 0, 1) := by decide +kernel
theorem dX4_planned_31 : decode cX4_planned 31 = .ok (.aload_n 0, 1) := by decide +kernel
theorem dX4_planned_32 : decode cX4_planned 32 = .ok (.getfield 16, 3) := by decide +kernel
theorem dX4_planned_35 : decode cX4_planned 35 = .ok (.iload_n 1, 1) := by decide +kernel
theorem dX4_planned_36 : decode cX4_planned 36 = .ok (.invokevirtual 196, 3) := by decide +kernel
theorem dX4_planned_39 : decode cX4_planned 39 = .ok (.pop, 1) := by decide +kernel
theorem dX4_planned_40 : decode cX4_planned 40 = .ok (.aload_n 0, 1) := by decide +kernel
theorem dX4_planned_41 : decode cX4_planned 41 = .ok (.getfield 16, 3) := by decide +kernel
theorem dX4_planned_44 : decode cX4_planned 44 = .ok (.invokevirtual 280, 3) := by decide +kernel
theorem dX4_planned_47 : decode cX4_planned 47 = .ok (.istore 4, 2) := by decide +kernel
theorem dX4_planned_49 : decode cX4_planned 49 = .ok (.iload 4, 2) := by decide +kernel
theorem dX4_planned_51 : decode cX4_planned 51 = .ok (.ifCond .gt 6, 3) := by decide +kernel
theorem dX4_planned_54 : decode cX4_planned 54 = .ok (.goto 19, 3) := by decide +kernel
theorem dX4_planned_57 : decode cX4_planned 57 = .ok (.aload_n 0, 1) := by decide +kernel
theorem dX4_planned_58 : decode cX4_planned 58 = .ok (.getfield 16, 3) := by decide +kernel
theorem dX4_planned_61 : decode cX4_planned 61 = .ok (.iload 4, 2) := by decide +kernel
theorem dX4_planned_63 : decode cX4_planned 63 = .ok (.invokevirtual 193, 3) := by decide +kernel
theorem dX4_planned_66 : decode cX4_planned 66 = .ok (.pop, 1) := by decide +kernel
theorem dX4_planned_67 : decode cX4_planned 67 = .ok (.iinc 3 1, 3) := by decide +kernel
theorem dX4_planned_70 : decode cX4_planned 70 = .ok (.goto (-46), 3) := by decide +kernel
theorem dX4_planned_73 : decode cX4_planned 73 = .ok (.iload_n 2, 1) := by decide +kernel
theorem dX4_planned_74 : decode cX4_planned 74 = .ok (.ifCond .eq 23, 3) := by decide +kernel
theorem dX4_planned_77 : decode cX4_planned 77 = .ok (.aload_n 0, 1) := by decide +kernel
theorem dX4_planned_78 : decode cX4_planned 78 = .ok (.getfield 16, 3) := by decide +kernel
theorem dX4_planned_81 : decode cX4_planned 81 = .ok (.getfield 145, 3) := by decide +kernel
theorem dX4_planned_84 : decode cX4_planned 84 = .ok (.aload_n 0, 1) := by decide +kernel
theorem dX4_planned_85 : decode cX4_planned 85 = .ok (.getfield 16, 3) := by decide +kernel
theorem dX4_planned_88 : decode cX4_planned 88 = .ok (.getfield 83, 3) := by decide +kernel
theorem dX4_planned_91 : decode cX4_planned 91 = .ok (.invokestatic 255, 3) := by decide +kernel
theorem dX4_planned_94 : decode cX4_planned 94 = .ok (.goto 10, 3) := by decide +kernel
theorem dX4_planned_97 : decode cX4_planned 97 = .ok (.aload_n 0, 1) := by decide +kernel
theorem dX4_planned_98 : decode cX4_planned 98 = .ok (.getfield 16, 3) := by decide +kernel
theorem dX4_planned_101 : decode cX4_planned 101 = .ok (.invokevirtual 283, 3) := by decide +kernel
theorem dX4_planned_104 : decode cX4_planned 104 = .ok (.ireturn, 1) := by decide +kernel
end
section
theorem dX5_init_0 : decode cX5_init 0 = .ok (.aload_n 0, 1) := by decide +kernel
theorem dX5_init_1 : decode cX5_init 1 = .ok (.invokespecial 1, 3) := by decide +kernel
theorem dX5_init_4 : decode cX5_init 4 = .ok (.aload_n 0, 1) := by decide +kernel
theorem dX5_init_5 : decode cX5_init 5 = .ok (.sipush 238, 3) := by decide +kernel
theorem dX5_init_8 : decode cX5_init 8 = .ok (.newarray .int, 2) := by decide +kernel
theorem dX5_init_10 : decode cX5_init 10 = .ok (.putfield 7, 3) := by decide +kernel
theorem dX5_init_13 : decode cX5_init 13 = .ok (.aload_n 0, 1) := by decide +kernel
theorem dX5_init_14 : decode cX5_init 14 = .ok (.sipush 238, 3) := by decide +kernel
theorem dX5_init_17 : decode cX5_init 17 = .ok (.newarray .int, 2) := by decide +kernel
theorem dX5_init_19 : decode cX5_init 19 = .ok (.putfield 13, 3) := by decide +kernel
theorem dX5_init_22 : decode cX5_init 22 = .ok (.aload_n 0, 1) := by decide +kernel
theorem dX5_init_23 : decode cX5_init 23 = .ok (.sipush 238, 3) := by decide +kernel
theorem dX5_init_26 : decode cX5_init 26 = .ok (.newarray .int, 2) := by decide +kernel
theorem dX5_init_28 : decode cX5_init 28 = .ok (.putfield 16, 3) := by decide +kernel
theorem dX5_init_31 : decode cX5_init 31 = .ok (.aload_n 0, 1) := by decide +kernel
theorem dX5_init_32 : decode cX5_init 32 = .ok (.sipush 476, 3) := by decide +kernel
theorem dX5_init_35 : decode cX5_init 35 = .ok (.newarray .int, 2) := by decide +kernel
theorem dX5_init_37 : decode cX5_init 37 = .ok (.putfield 19, 3) := by decide +kernel
theorem dX5_init_40 : decode cX5_init 40 = .ok (.aload_n 0, 1) := by decide +kernel
theorem dX5_init_41 : decode cX5_init 41 = .ok (.iconst 2, 1) := by decide +kernel
theorem dX5_init_42 : decode cX5_init 42 = .ok (.newarray .boolean, 2) := by decide +kernel
theorem dX5_init_44 : decode cX5_init 44 = .ok (.putfield 22, 3) := by decide +kernel
theorem dX5_init_47 : decode cX5_init 47 = .ok (.aload_n 0, 1) := by decide +kernel
theorem dX5_init_48 : decode cX5_init 48 = .ok (.sipush 160, 3) := by decide +kernel
theorem dX5_init_51 : decode cX5_init 51 = .ok (.newarray .int, 2) := by decide +kernel
theorem dX5_init_53 : decode cX5_init 53 = .ok (.putfield 26, 3) := by decide +kernel
theorem dX5_init_56 : decode cX5_init 56 = .ok (.aload_n 0, 1) := by decide +kernel
theorem dX5_init_57 : decode cX5_init 57 = .ok (.iconst 4, 1) := by decide +kernel
theorem dX5_init_58 : decode cX5_init 58 = .ok (.newarray .int, 2) := by decide +kernel
theorem dX5_init_60 : decode cX5_init 60 = .ok (.putfield 29, 3) := by decide +kernel
theorem dX5_init_63 : decode cX5_init 63 = .ok (.aload_n 0, 1) := by decide +kernel
theorem dX5_init_64 : decode cX5_init 64 = .ok (.sipush 2401, 3) := by decide +kernel
theorem dX5_init_67 : decode cX5_init 67 = .ok (.newarray .int, 2) := by decide +kernel
theorem dX5_init_69 : decode cX5_init 69 = .ok (.putfield 32, 3) := by decide +kernel
theorem dX5_init_72 : decode cX5_init 72 = .ok (.aload_n 0, 1) := by decide +kernel
theorem dX5_init_73 : decode cX5_init 73 = .ok (.sipush 2401, 3) := by decide +kernel
theorem dX5_init_76 : decode cX5_init 76 = .ok (.newarray .boolean, 2) := by decide +kernel
theorem dX5_init_78 : decode cX5_init 78 = .ok (.putfield 35, 3) := by decide +kernel
theorem dX5_init_81 : decode cX5_init 81 = .ok (.aload_n 0, 1) := by decide +kernel
theorem dX5_init_82 : decode cX5_init 82 = .ok (.sipush 2401, 3) := by decide +kernel
theorem dX5_init_85 : decode cX5_init 85 = .ok (.newarray .boolean, 2) := by decide +kernel
theorem dX5_init_87 : decode cX5_init 87 = .ok (.putfield 38, 3) := by decide +kernel
theorem dX5_init_90 : decode cX5_init 90 = .ok (.aload_n 0, 1) := by decide +kernel
theorem dX5_init_91 : decode cX5_init 91 = .ok (.iconst 4, 1) := by decide +kernel
theorem dX5_init_92 : decode cX5_init 92 = .ok (.newarray .int, 2) := by decide +kernel
theorem dX5_init_94 : decode cX5_init 94 = .ok (.putfield 41, 3) := by decide +kernel
theorem dX5_init_97 : decode cX5_init 97 = .ok (.aload_n 0, 1) := by decide +kernel
theorem dX5_init_98 : decode cX5_init 98 = .ok (.iconst 4, 1) := by decide +kernel
theorem dX5_init_99 : decode cX5_init 99 = .ok (.newarray .int, 2) := by decide +kernel
theorem dX5_init_101 : decode cX5_init 101 = .ok (.putfield 44, 3) := by decide +kernel
theorem dX5_init_104 : decode cX5_init 104 = .ok (.aload_n 0, 1) := by decide +kernel
theorem dX5_init_105 : decode cX5_init 105 = .ok (.iconst 4, 1) := by decide +kernel
theorem dX5_init_106 : decode cX5_init 106 = .ok (.newarray .int, 2) := by decide +kernel
theorem dX5_init_108 : decode cX5_init 108 = .ok (.putfield 47, 3) := by decide +kernel
theorem dX5_init_111 : decode cX5_init 111 = .ok (.aload_n 0, 1) := by decide +kernel
theorem dX5_init_112 : decode cX5_init 112 = .ok (.sipush 160, 3) := by decide +kernel
theorem dX5_init_115 : decode cX5_init 115 = .ok (.newarray .int, 2) := by decide +kernel
theorem dX5_init_117 : decode cX5_init 117 = .ok (.putfield 50, 3) := by decide +kernel
theorem dX5_init_120 : decode cX5_init 120 = .ok (.iconst 0, 1) := by decide +kernel
theorem dX5_init_121 : decode cX5_init 121 = .ok (.istore_n 1, 1) := by decide +kernel
theorem dX5_init_122 : decode cX5_init 122 = .ok (.iload_n 1, 1) := by decide +kernel
theorem dX5_init_123 : decode cX5_init 123 = .ok (.iconst 4, 1) := by decide +kernel
theorem dX5_init_124 : decode cX5_init 124 = .ok (.if_icmp .ge 17, 3) := by decide +kernel
theorem dX5_init_127 : decode cX5_init 127 = .ok (.aload_n 0, 1) := by decide +kernel
theorem dX5_init_128 : decode cX5_init 128 = .ok (.getfield 44, 3) := by decide +kernel
theorem dX5_init_131 : decode cX5_init 131 = .ok (.iload_n 1, 1) := by decide +kernel
theorem dX5_init_132 : decode cX5_init 132 = .ok (.bipush (-4), 2) := by decide +kernel
theorem dX5_init_134 : decode cX5_init 134 = .ok (.iastore, 1) := by decide +kernel
theorem dX5_init_135 : decode cX5_init 135 = .ok (.iinc 1 1, 3) := by decide +kernel
theorem dX5_init_138 : decode cX5_init 138 = .ok (.goto (-16), 3) := by decide +kernel
theorem dX5_init_141 : decode cX5_init 141 = .ok (.return_, 1) := by decide +kernel
theorem dX5_in_0 : decode cX5_in 0 = .ok (.lload_n 0, 1) := by decide +kernel
theorem dX5_in_1 : decode cX5_in 1 = .ok (.lload_n 2, 1) := by decide +kernel
theorem dX5_in_2 : decode cX5_in 2 = .ok (.lcmp, 1) := by decide +kernel
theorem dX5_in_3 : decode cX5_in 3 = .ok (.ifCond .lt 14, 3) := by decide +kernel
theorem dX5_in_6 : decode cX5_in 6 = .ok (.lload_n 0, 1) := by decide +kernel
theorem dX5_in_7 : decode cX5_in 7 = .ok (.lload 4, 2) := by decide +kernel
theorem dX5_in_9 : decode cX5_in 9 = .ok (.lcmp, 1) := by decide +kernel
theorem dX5_in_10 : decode cX5_in 10 = .ok (.ifCond .gt 7, 3) := by decide +kernel
theorem dX5_in_13 : decode cX5_in 13 = .ok (.iconst 1, 1) := by decide +kernel
theorem dX5_in_14 : decode cX5_in 14 = .ok (.goto 4, 3) := by decide +kernel
theorem dX5_in_17 : decode cX5_in 17 = .ok (.iconst 0, 1) := by decide +kernel
theorem dX5_in_18 : decode cX5_in 18 = .ok (.ireturn, 1) := by decide +kernel
theorem dX5_flag_0 : decode cX5_flag 0 = .ok (.iload_n 0, 1) := by decide +kernel
theorem dX5_flag_1 : decode cX5_flag 1 = .ok (.ifCond .eq 7, 3) := by decide +kernel
theorem dX5_flag_4 : decode cX5_flag 4 = .ok (.iconst 1, 1) := by decide +kernel
theorem dX5_flag_5 : decode cX5_flag 5 = .ok (.goto 4, 3) := by decide +kernel
theorem dX5_flag_8 : decode cX5_flag 8 = .ok (.iconst 0, 1) := by decide +kernel
theorem dX5_flag_9 : decode cX5_flag 9 = .ok (.ireturn, 1) := by decide +kernel
theorem dX5_keepBefore_0 : decode cX5_keepBefore 0 = .ok (.iconst 0, 1) := by decide +kernel
theorem dX5_keepBefore_1 : decode cX5_keepBefore 1 = .ok (.istore_n 1, 1) := by decide +kernel
theorem dX5_keepBefore_2 : decode cX5_keepBefore 2 = .ok (.iload_n 1, 1) := by decide +kernel
theorem dX5_keepBefore_3 : decode cX5_keepBefore 3 = .ok (.sipush 238, 3) := by decide +kernel
theorem dX5_keepBefore_6 : decode cX5_keepBefore 6 = .ok (.if_icmp .ge 21, 3) := by decide +kernel
theorem dX5_keepBefore_9 : decode cX5_keepBefore 9 = .ok (.aload_n 0, 1) := by decide +kernel
theorem dX5_keepBefore_10 : decode cX5_keepBefore 10 = .ok (.getfield 16, 3) := by decide +kernel
theorem dX5_keepBefore_13 : decode cX5_keepBefore 13 = .ok (.iload_n 1, 1) := by decide +kernel
theorem dX5_keepBefore_14 : decode cX5_keepBefore 14 = .ok (.aload_n 0, 1) := by decide +kernel
theorem dX5_keepBefore_15 : decode cX5_keepBefore 15 = .ok (.getfield 7, 3) := by decide +kernel
theorem dX5_keepBefore_18 : decode cX5_keepBefore 18 = .ok (.iload_n 1, 1) := by decide +kernel
theorem dX5_keepBefore_19 : decode cX5_keepBefore 19 = .ok (.iaload, 1) := by decide +kernel
theorem dX5_keepBefore_20 : decode cX5_keepBefore 20 = .ok (.iastore, 1) := by decide +kernel
theorem dX5_keepBefore_21 : decode cX5_keepBefore 21 = .ok (.iinc 1 1, 3) := by decide +kernel
theorem dX5_keepBefore_24 : decode cX5_keepBefore 24 = .ok (.goto (-22), 3) := by decide +kernel
theorem dX5_keepBefore_27 : decode cX5_keepBefore 27 = .ok (.return_, 1) := by decide +kernel
theorem dX5_backBefore_0 : decode cX5_backBefore 0 = .ok (.iconst 0, 1) := by decide +kernel
theorem dX5_backBefore_1 : decode cX5_backBefore 1 = .ok (.istore_n 1, 1) := by decide +kernel
theorem dX5_backBefore_2 : decode cX5_backBefore 2 = .ok (.iload_n 1, 1) := by decide +kernel
theorem dX5_backBefore_3 : decode cX5_backBefore 3 = .ok (.sipush 238, 3) := by decide +kernel
theorem dX5_backBefore_6 : decode cX5_backBefore 6 = .ok (.if_icmp .ge 21, 3) := by decide +kernel
theorem dX5_backBefore_9 : decode cX5_backBefore 9 = .ok (.aload_n 0, 1) := by decide +kernel
theorem dX5_backBefore_10 : decode cX5_backBefore 10 = .ok (.getfield 7, 3) := by decide +kernel
theorem dX5_backBefore_13 : decode cX5_backBefore 13 = .ok (.iload_n 1, 1) := by decide +kernel
theorem dX5_backBefore_14 : decode cX5_backBefore 14 = .ok (.aload_n 0, 1) := by decide +kernel
theorem dX5_backBefore_15 : decode cX5_backBefore 15 = .ok (.getfield 16, 3) := by decide +kernel
theorem dX5_backBefore_18 : decode cX5_backBefore 18 = .ok (.iload_n 1, 1) := by decide +kernel
theorem dX5_backBefore_19 : decode cX5_backBefore 19 = .ok (.iaload, 1) := by decide +kernel
theorem dX5_backBefore_20 : decode cX5_backBefore 20 = .ok (.iastore, 1) := by decide +kernel
theorem dX5_backBefore_21 : decode cX5_backBefore 21 = .ok (.iinc 1 1, 3) := by decide +kernel
theorem dX5_backBefore_24 : decode cX5_backBefore 24 = .ok (.goto (-22), 3) := by decide +kernel
theorem dX5_backBefore_27 : decode cX5_backBefore 27 = .ok (.return_, 1) := by decide +kernel
theorem dX5_feed_0 : decode cX5_feed 0 = .ok (.iload_n 1, 1) := by decide +kernel
theorem dX5_feed_1 : decode cX5_feed 1 = .ok (.i2l, 1) := by decide +kernel
theorem dX5_feed_2 : decode cX5_feed 2 = .ok (.lconst 0, 1) := by decide +kernel
theorem dX5_feed_3 : decode cX5_feed 3 = .ok (.ldc2_w 53, 3) := by decide +kernel
theorem dX5_feed_6 : decode cX5_feed 6 = .ok (.invokestatic 55, 3) := by decide +kernel
theorem dX5_feed_9 : decode cX5_feed 9 = .ok (.ifCond .ne 5, 3) := by decide +kernel
theorem dX5_feed_12 : decode cX5_feed 12 = .ok (.iconst (-1), 1) := by decide +kernel
theorem dX5_feed_13 : decode cX5_feed 13 = .ok (.ireturn, 1) := by decide +kernel
theorem dX5_feed_14 : decode cX5_feed 14 = .ok (.aload_n 0, 1) := by decide +kernel
theorem dX5_feed_15 : decode cX5_feed 15 = .ok (.getfield 59, 3) := by decide +kernel
theorem dX5_feed_18 : decode cX5_feed 18 = .ok (.sipush 160, 3) := by decide +kernel
theorem dX5_feed_21 : decode cX5_feed 21 = .ok (.if_icmp .ne 6, 3) := by decide +kernel
theorem dX5_feed_24 : decode cX5_feed 24 = .ok (.bipush (-3), 2) := by decide +kernel
theorem dX5_feed_26 : decode cX5_feed 26 = .ok (.ireturn, 1) := by decide +kernel
theorem dX5_feed_27 : decode cX5_feed 27 = .ok (.aload_n 0, 1) := by decide +kernel
theorem dX5_feed_28 : decode cX5_feed 28 = .ok (.getfield 26, 3) := by decide +kernel
theorem dX5_feed_31 : decode cX5_feed 31 = .ok (.aload_n 0, 1) := by decide +kernel
theorem dX5_feed_32 : decode cX5_feed 32 = .ok (.getfield 59, 3) := by decide +kernel
theorem dX5_feed_35 : decode cX5_feed 35 = .ok (.iload_n 1, 1) := by decide +kernel
theorem dX5_feed_36 : decode cX5_feed 36 = .ok (.iastore, 1) := by decide +kernel
theorem dX5_feed_37 : decode cX5_feed 37 = .ok (.aload_n 0, 1) := by decide +kernel
theorem dX5_feed_38 : decode cX5_feed 38 = .ok (.dup, 1) := by decide +kernel
theorem dX5_feed_39 : decode cX5_feed 39 = .ok (.getfield 59, 3) := by decide +kernel
theorem dX5_feed_42 : decode cX5_feed 42 = .ok (.iconst 1, 1) := by decide +kernel
theorem dX5_feed_43 : decode cX5_feed 43 = .ok (.iadd, 1) := by decide +kernel
theorem dX5_feed_44 : decode cX5_feed 44 = .ok (.putfield 59, 3) := by decide +kernel
theorem dX5_feed_47 : decode cX5_feed 47 = .ok (.aload_n 0, 1) := by decide +kernel
theorem dX5_feed_48 : decode cX5_feed 48 = .ok (.getfield 59, 3) := by decide +kernel
theorem dX5_feed_51 : decode cX5_feed 51 = .ok (.ireturn, 1) := by decide +kernel
theorem dX5_end_0 : decode cX5_end 0 = .ok (.iload_n 1, 1) := by decide +kernel
theorem dX5_end_1 : decode cX5_end 1 = .ok (.i2l, 1) := by decide +kernel
theorem dX5_end_2 : decode cX5_end 2 = .ok (.lconst 0, 1) := by decide +kernel
theorem dX5_end_3 : decode cX5_end 3 = .ok (.aload_n 0, 1) := by decide +kernel
theorem dX5_end_4 : decode cX5_end 4 = .ok (.getfield 59, 3) := by decide +kernel
theorem dX5_end_7 : decode cX5_end 7 = .ok (.i2l, 1) := by decide +kernel
theorem dX5_end_8 : decode cX5_end 8 = .ok (.invokestatic 55, 3) := by decide +kernel
theorem dX5_end_11 : decode cX5_end 11 = .ok (.ifCond .ne 5, 3) := by decide +kernel
theorem dX5_end_14 : decode cX5_end 14 = .ok (.iconst (-1), 1) := by decide +kernel
theorem dX5_end_15 : decode cX5_end 15 = .ok (.ireturn, 1) := by decide +kernel
theorem dX5_end_16 : decode cX5_end 16 = .ok (.aload_n 0, 1) := by decide +kernel
theorem dX5_end_17 : decode cX5_end 17 = .ok (.getfield 59, 3) := by decide +kernel
theorem dX5_end_20 : decode cX5_end 20 = .ok (.istore_n 2, 1) := by decide +kernel
theorem dX5_end_21 : decode cX5_end 21 = .ok (.aload_n 0, 1) := by decide +kernel
theorem dX5_end_22 : decode cX5_end 22 = .ok (.iload_n 1, 1) := by decide +kernel
theorem dX5_end_23 : decode cX5_end 23 = .ok (.putfield 59, 3) := by decide +kernel
theorem dX5_end_26 : decode cX5_end 26 = .ok (.iload_n 2, 1) := by decide +kernel
theorem dX5_end_27 : decode cX5_end 27 = .ok (.ireturn, 1) := by decide +kernel
theorem dX5_requires_0 : decode cX5_requires 0 = .ok (.iload_n 1, 1) := by decide +kernel
theorem dX5_requires_1 : decode cX5_requires 1 = .ok (.ifCond .ne 23, 3) := by decide +kernel
theorem dX5_requires_4 : decode cX5_requires 4 = .ok (.aload_n 0, 1) := by decide +kernel
theorem dX5_requires_5 : decode cX5_requires 5 = .ok (.getfield 63, 3) := by decide +kernel
theorem dX5_requires_8 : decode cX5_requires 8 = .ok (.ifCond .ne 16, 3) := by decide +kernel
theorem dX5_requires_11 : decode cX5_requires 11 = .ok (.aload_n 0, 1) := by decide +kernel
theorem dX5_requires_12 : decode cX5_requires 12 = .ok (.iload_n 2, 1) := by decide +kernel
theorem dX5_requires_13 : decode cX5_requires 13 = .ok (.putfield 63, 3) := by decide +kernel
theorem dX5_requires_16 : decode cX5_requires 16 = .ok (.aload_n 0, 1) := by decide +kernel
theorem dX5_requires_17 : decode cX5_requires 17 = .ok (.aload_n 0, 1) := by decide +kernel
theorem dX5_requires_18 : decode cX5_requires 18 = .ok (.getfield 66, 3) := by decide +kernel
theorem dX5_requires_21 : decode cX5_requires 21 = .ok (.putfield 69, 3) := by decide +kernel
theorem dX5_requires_24 : decode cX5_requires 24 = .ok (.return_, 1) := by decide +kernel
theorem dX5_byteAt_0 : decode cX5_byteAt 0 = .ok (.iload_n 1, 1) := by decide +kernel
theorem dX5_byteAt_1 : decode cX5_byteAt 1 = .ok (.aload_n 0, 1) := by decide +kernel
theorem dX5_byteAt_2 : decode cX5_byteAt 2 = .ok (.getfield 59, 3) := by decide +kernel
theorem dX5_byteAt_5 : decode cX5_byteAt 5 = .ok (.if_icmp .ge 12, 3) := by decide +kernel
theorem dX5_byteAt_8 : decode cX5_byteAt 8 = .ok (.aload_n 0, 1) := by decide +kernel
theorem dX5_byteAt_9 : decode cX5_byteAt 9 = .ok (.getfield 26, 3) := by decide +kernel
theorem dX5_byteAt_12 : decode cX5_byteAt 12 = .ok (.iload_n 1, 1) := by decide +kernel
theorem dX5_byteAt_13 : decode cX5_byteAt 13 = .ok (.iaload, 1) := by decide +kernel
theorem dX5_byteAt_14 : decode cX5_byteAt 14 = .ok (.goto 4, 3) := by decide +kernel
theorem dX5_byteAt_17 : decode cX5_byteAt 17 = .ok (.iconst (-1), 1) := by decide +kernel
theorem dX5_byteAt_18 : decode cX5_byteAt 18 = .ok (.ireturn, 1) := by decide +kernel
theorem dX5_is_0 : decode cX5_is 0 = .ok (.aload_n 0, 1) := by decide +kernel
theorem dX5_is_1 : decode cX5_is 1 = .ok (.getfield 72, 3) := by decide +kernel
theorem dX5_is_4 : decode cX5_is 4 = .ok (.iconst 1, 1) := by decide +kernel
theorem dX5_is_5 : decode cX5_is 5 = .ok (.if_icmp .ne 68, 3) := by decide +kernel
theorem dX5_is_8 : decode cX5_is 8 = .ok (.aload_n 0, 1) := by decide +kernel
theorem dX5_is_9 : decode cX5_is 9 = .ok (.getfield 75, 3) := by decide +kernel
theorem dX5_is_12 : decode cX5_is 12 = .ok (.aload_n 0, 1) := by decide +kernel
theorem dX5_is_13 : decode cX5_is 13 = .ok (.getfield 66, 3) := by decide +kernel
theorem dX5_is_16 : decode cX5_is 16 = .ok (.isub, 1) := by decide +kernel
theorem dX5_is_17 : decode cX5_is 17 = .ok (.iload_n 1, 1) := by decide +kernel
theorem dX5_is_18 : decode cX5_is 18 = .ok (.if_icmp .ne 55, 3) := by decide +kernel
theorem dX5_is_21 : decode cX5_is 21 = .ok (.aload_n 0, 1) := by decide +kernel
theorem dX5_is_22 : decode cX5_is 22 = .ok (.aload_n 0, 1) := by decide +kernel
theorem dX5_is_23 : decode cX5_is 23 = .ok (.getfield 66, 3) := by decide +kernel
theorem dX5_is_26 : decode cX5_is 26 = .ok (.iload_n 2, 1) := by decide +kernel
theorem dX5_is_27 : decode cX5_is 27 = .ok (.iadd, 1) := by decide +kernel
theorem dX5_is_28 : decode cX5_is 28 = .ok (.invokevirtual 78, 3) := by decide +kernel
theorem dX5_is_31 : decode cX5_is 31 = .ok (.iload_n 3, 1) := by decide +kernel
theorem dX5_is_32 : decode cX5_is 32 = .ok (.if_icmp .ne 41, 3) := by decide +kernel
theorem dX5_is_35 : decode cX5_is 35 = .ok (.aload_n 0, 1) := by decide +kernel
theorem dX5_is_36 : decode cX5_is 36 = .ok (.aload_n 0, 1) := by decide +kernel
theorem dX5_is_37 : decode cX5_is 37 = .ok (.getfield 66, 3) := by decide +kernel
theorem dX5_is_40 : decode cX5_is 40 = .ok (.iload_n 2, 1) := by decide +kernel
theorem dX5_is_41 : decode cX5_is 41 = .ok (.iadd, 1) := by decide +kernel
theorem dX5_is_42 : decode cX5_is 42 = .ok (.iconst 1, 1) := by decide +kernel
theorem dX5_is_43 : decode cX5_is 43 = .ok (.iadd, 1) := by decide +kernel
theorem dX5_is_44 : decode cX5_is 44 = .ok (.invokevirtual 78, 3) := by decide +kernel
theorem dX5_is_47 : decode cX5_is 47 = .ok (.iload 4, 2) := by decide +kernel
theorem dX5_is_49 : decode cX5_is 49 = .ok (.if_icmp .ne 24, 3) := by decide +kernel
theorem dX5_is_52 : decode cX5_is 52 = .ok (.aload_n 0, 1) := by decide +kernel
theorem dX5_is_53 : decode cX5_is 53 = .ok (.aload_n 0, 1) := by decide +kernel
theorem dX5_is_54 : decode cX5_is 54 = .ok (.getfield 66, 3) := by decide +kernel
theorem dX5_is_57 : decode cX5_is 57 = .ok (.iload_n 2, 1) := by decide +kernel
theorem dX5_is_58 : decode cX5_is 58 = .ok (.iadd, 1) := by decide +kernel
theorem dX5_is_59 : decode cX5_is 59 = .ok (.iconst 2, 1) := by decide +kernel
theorem dX5_is_60 : decode cX5_is 60 = .ok (.iadd, 1) := by decide +kernel
theorem dX5_is_61 : decode cX5_is 61 = .ok (.invokevirtual 78, 3) := by decide +kernel
theorem dX5_is_64 : decode cX5_is 64 = .ok (.iload 5, 2) := by decide +kernel
theorem dX5_is_66 : decode cX5_is 66 = .ok (.if_icmp .ne 7, 3) := by decide +kernel
theorem dX5_is_69 : decode cX5_is 69 = .ok (.iconst 1, 1) := by decide +kernel
theorem dX5_is_70 : decode cX5_is 70 = .ok (.goto 4, 3) := by decide +kernel
theorem dX5_is_73 : decode cX5_is 73 = .ok (.iconst 0, 1) := by decide +kernel
theorem dX5_is_74 : decode cX5_is 74 = .ok (.ireturn, 1) := by decide +kernel
theorem dX5_lineNow_0 : decode cX5_lineNow 0 = .ok (.aload_n 0, 1) := by decide +kernel
theorem dX5_lineNow_1 : decode cX5_lineNow 1 = .ok (.iconst 5, 1) := by decide +kernel
theorem dX5_lineNow_2 : decode cX5_lineNow 2 = .ok (.iconst 0, 1) := by decide +kernel
theorem dX5_lineNow_3 : decode cX5_lineNow 3 = .ok (.bipush 112, 2) := by decide +kernel
theorem dX5_lineNow_5 : decode cX5_lineNow 5 = .ok (.bipush 108, 2) := by decide +kernel
theorem dX5_lineNow_7 : decode cX5_lineNow 7 = .ok (.bipush 97, 2) := by decide +kernel
theorem dX5_lineNow_9 : decode cX5_lineNow 9 = .ok (.invokevirtual 82, 3) := by decide +kernel
theorem dX5_lineNow_12 : decode cX5_lineNow 12 = .ok (.ifCond .eq 20, 3) := by decide +kernel
theorem dX5_lineNow_15 : decode cX5_lineNow 15 = .ok (.aload_n 0, 1) := by decide +kernel
theorem dX5_lineNow_16 : decode cX5_lineNow 16 = .ok (.iconst 5, 1) := by decide +kernel
theorem dX5_lineNow_17 : decode cX5_lineNow 17 = .ok (.iconst 2, 1) := by decide +kernel
theorem dX5_lineNow_18 : decode cX5_lineNow 18 = .ok (.bipush 97, 2) := by decide +kernel
theorem dX5_lineNow_20 : decode cX5_lineNow 20 = .ok (.bipush 99, 2) := by decide +kernel
theorem dX5_lineNow_22 : decode cX5_lineNow 22 = .ok (.bipush 101, 2) := by decide +kernel
theorem dX5_lineNow_24 : decode cX5_lineNow 24 = .ok (.invokevirtual 82, 3) := by decide +kernel
theorem dX5_lineNow_27 : decode cX5_lineNow 27 = .ok (.ifCond .eq 5, 3) := by decide +kernel
theorem dX5_lineNow_30 : decode cX5_lineNow 30 = .ok (.iconst 0, 1) := by decide +kernel
theorem dX5_lineNow_31 : decode cX5_lineNow 31 = .ok (.ireturn, 1) := by decide +kernel
theorem dX5_lineNow_32 : decode cX5_lineNow 32 = .ok (.aload_n 0, 1) := by decide +kernel
theorem dX5_lineNow_33 : decode cX5_lineNow 33 = .ok (.iconst 5, 1) := by decide +kernel
theorem dX5_lineNow_34 : decode cX5_lineNow 34 = .ok (.iconst 0, 1) := by decide +kernel
theorem dX5_lineNow_35 : decode cX5_lineNow 35 = .ok (.bipush 116, 2) := by decide +kernel
theorem dX5_lineNow_37 : decode cX5_lineNow 37 = .ok (.bipush 114, 2) := by decide +kernel
theorem dX5_lineNow_39 : decode cX5_lineNow 39 = .ok (.bipush 97, 2) := by decide +kernel
theorem dX5_lineNow_41 : decode cX5_lineNow 41 = .ok (.invokevirtual 82, 3) := by decide +kernel
theorem dX5_lineNow_44 : decode cX5_lineNow 44 = .ok (.ifCond .eq 20, 3) := by decide +kernel
theorem dX5_lineNow_47 : decode cX5_lineNow 47 = .ok (.aload_n 0, 1) := by decide +kernel
theorem dX5_lineNow_48 : decode cX5_lineNow 48 = .ok (.iconst 5, 1) := by decide +kernel
theorem dX5_lineNow_49 : decode cX5_lineNow 49 = .ok (.iconst 2, 1) := by decide +kernel
theorem dX5_lineNow_50 : decode cX5_lineNow 50 = .ok (.bipush 97, 2) := by decide +kernel
theorem dX5_lineNow_52 : decode cX5_lineNow 52 = .ok (.bipush 105, 2) := by decide +kernel
theorem dX5_lineNow_54 : decode cX5_lineNow 54 = .ok (.bipush 110, 2) := by decide +kernel
theorem dX5_lineNow_56 : decode cX5_lineNow 56 = .ok (.invokevirtual 82, 3) := by decide +kernel
theorem dX5_lineNow_59 : decode cX5_lineNow 59 = .ok (.ifCond .eq 5, 3) := by decide +kernel
theorem dX5_lineNow_62 : decode cX5_lineNow 62 = .ok (.iconst 2, 1) := by decide +kernel
theorem dX5_lineNow_63 : decode cX5_lineNow 63 = .ok (.ireturn, 1) := by decide +kernel
theorem dX5_lineNow_64 : decode cX5_lineNow 64 = .ok (.aload_n 0, 1) := by decide +kernel
theorem dX5_lineNow_65 : decode cX5_lineNow 65 = .ok (.bipush 7, 2) := by decide +kernel
theorem dX5_lineNow_67 : decode cX5_lineNow 67 = .ok (.iconst 0, 1) := by decide +kernel
theorem dX5_lineNow_68 : decode cX5_lineNow 68 = .ok (.bipush 115, 2) := by decide +kernel
theorem dX5_lineNow_70 : decode cX5_lineNow 70 = .ok (.bipush 101, 2) := by decide +kernel
theorem dX5_lineNow_72 : decode cX5_lineNow 72 = .ok (.bipush 99, 2) := by decide +kernel
theorem dX5_lineNow_74 : decode cX5_lineNow 74 = .ok (.invokevirtual 82, 3) := by decide +kernel
theorem dX5_lineNow_77 : decode cX5_lineNow 77 = .ok (.ifCond .eq 39, 3) := by decide +kernel
theorem dX5_lineNow_80 : decode cX5_lineNow 80 = .ok (.aload_n 0, 1) := by decide +kernel
theorem dX5_lineNow_81 : decode cX5_lineNow 81 = .ok (.bipush 7, 2) := by decide +kernel
theorem dX5_lineNow_83 : decode cX5_lineNow 83 = .ok (.iconst 2, 1) := by decide +kernel
theorem dX5_lineNow_84 : decode cX5_lineNow 84 = .ok (.bipush 99, 2) := by decide +kernel
theorem dX5_lineNow_86 : decode cX5_lineNow 86 = .ok (.bipush 116, 2) := by decide +kernel
theorem dX5_lineNow_88 : decode cX5_lineNow 88 = .ok (.bipush 105, 2) := by decide +kernel
theorem dX5_lineNow_90 : decode cX5_lineNow 90 = .ok (.invokevirtual 82, 3) := by decide +kernel
theorem dX5_lineNow_93 : decode cX5_lineNow 93 = .ok (.ifCond .eq 23, 3) := by decide +kernel
theorem dX5_lineNow_96 : decode cX5_lineNow 96 = .ok (.aload_n 0, 1) := by decide +kernel
theorem dX5_lineNow_97 : decode cX5_lineNow 97 = .ok (.bipush 7, 2) := by decide +kernel
theorem dX5_lineNow_99 : decode cX5_lineNow 99 = .ok (.iconst 4, 1) := by decide +kernel
theorem dX5_lineNow_100 : decode cX5_lineNow 100 = .ok (.bipush 105, 2) := by decide +kernel
theorem dX5_lineNow_102 : decode cX5_lineNow 102 = .ok (.bipush 111, 2) := by decide +kernel
theorem dX5_lineNow_104 : decode cX5_lineNow 104 = .ok (.bipush 110, 2) := by decide +kernel
theorem dX5_lineNow_106 : decode cX5_lineNow 106 = .ok (.invokevirtual 82, 3) := by decide +kernel
theorem dX5_lineNow_109 : decode cX5_lineNow 109 = .ok (.ifCond .eq 7, 3) := by decide +kernel
theorem dX5_lineNow_112 : decode cX5_lineNow 112 = .ok (.iconst 1, 1) := by decide +kernel
theorem dX5_lineNow_113 : decode cX5_lineNow 113 = .ok (.goto 5, 3) := by decide +kernel
theorem dX5_lineNow_116 : decode cX5_lineNow 116 = .ok (.bipush (-4), 2) := by decide +kernel
theorem dX5_lineNow_118 : decode cX5_lineNow 118 = .ok (.ireturn, 1) := by decide +kernel
theorem dX5_hasRoom_0 : decode cX5_hasRoom 0 = .ok (.iload_n 1, 1) := by decide +kernel
theorem dX5_hasRoom_1 : decode cX5_hasRoom 1 = .ok (.ifCond .ne 22, 3) := by decide +kernel
theorem dX5_hasRoom_4 : decode cX5_hasRoom 4 = .ok (.aload_n 0, 1) := by decide +kernel
theorem dX5_hasRoom_5 : decode cX5_hasRoom 5 = .ok (.getfield 13, 3) := by decide +kernel
theorem dX5_hasRoom_8 : decode cX5_hasRoom 8 = .ok (.iconst 0, 1) := by decide +kernel
theorem dX5_hasRoom_9 : decode cX5_hasRoom 9 = .ok (.iaload, 1) := by decide +kernel
theorem dX5_hasRoom_10 : decode cX5_hasRoom 10 = .ok (.bipush 6, 2) := by decide +kernel
theorem dX5_hasRoom_12 : decode cX5_hasRoom 12 = .ok (.if_icmp .ge 7, 3) := by decide +kernel
theorem dX5_hasRoom_15 : decode cX5_hasRoom 15 = .ok (.iconst 1, 1) := by decide +kernel
theorem dX5_hasRoom_16 : decode cX5_hasRoom 16 = .ok (.goto 44, 3) := by decide +kernel
theorem dX5_hasRoom_19 : decode cX5_hasRoom 19 = .ok (.iconst 0, 1) := by decide +kernel
theorem dX5_hasRoom_20 : decode cX5_hasRoom 20 = .ok (.goto 40, 3) := by decide +kernel
theorem dX5_hasRoom_23 : decode cX5_hasRoom 23 = .ok (.iload_n 1, 1) := by decide +kernel
theorem dX5_hasRoom_24 : decode cX5_hasRoom 24 = .ok (.iconst 2, 1) := by decide +kernel
theorem dX5_hasRoom_25 : decode cX5_hasRoom 25 = .ok (.if_icmp .ne 21, 3) := by decide +kernel
theorem dX5_hasRoom_28 : decode cX5_hasRoom 28 = .ok (.aload_n 0, 1) := by decide +kernel
theorem dX5_hasRoom_29 : decode cX5_hasRoom 29 = .ok (.getfield 13, 3) := by decide +kernel
theorem dX5_hasRoom_32 : decode cX5_hasRoom 32 = .ok (.iconst 1, 1) := by decide +kernel
theorem dX5_hasRoom_33 : decode cX5_hasRoom 33 = .ok (.iaload, 1) := by decide +kernel
theorem dX5_hasRoom_34 : decode cX5_hasRoom 34 = .ok (.iconst 4, 1) := by decide +kernel
theorem dX5_hasRoom_35 : decode cX5_hasRoom 35 = .ok (.if_icmp .ge 7, 3) := by decide +kernel
theorem dX5_hasRoom_38 : decode cX5_hasRoom 38 = .ok (.iconst 1, 1) := by decide +kernel
theorem dX5_hasRoom_39 : decode cX5_hasRoom 39 = .ok (.goto 21, 3) := by decide +kernel
theorem dX5_hasRoom_42 : decode cX5_hasRoom 42 = .ok (.iconst 0, 1) := by decide +kernel
theorem dX5_hasRoom_43 : decode cX5_hasRoom 43 = .ok (.goto 17, 3) := by decide +kernel
theorem dX5_hasRoom_46 : decode cX5_hasRoom 46 = .ok (.aload_n 0, 1) := by decide +kernel
theorem dX5_hasRoom_47 : decode cX5_hasRoom 47 = .ok (.getfield 13, 3) := by decide +kernel
theorem dX5_hasRoom_50 : decode cX5_hasRoom 50 = .ok (.iconst 0, 1) := by decide +kernel
theorem dX5_hasRoom_51 : decode cX5_hasRoom 51 = .ok (.iaload, 1) := by decide +kernel
theorem dX5_hasRoom_52 : decode cX5_hasRoom 52 = .ok (.ifCond .le 7, 3) := by decide +kernel
theorem dX5_hasRoom_55 : decode cX5_hasRoom 55 = .ok (.iconst 1, 1) := by decide +kernel
theorem dX5_hasRoom_56 : decode cX5_hasRoom 56 = .ok (.goto 4, 3) := by decide +kernel
theorem dX5_hasRoom_59 : decode cX5_hasRoom 59 = .ok (.iconst 0, 1) := by decide +kernel
theorem dX5_hasRoom_60 : decode cX5_hasRoom 60 = .ok (.ireturn, 1) := by decide +kernel
theorem dX5_reads_0 : decode cX5_reads 0 = .ok (.aload_n 0, 1) := by decide +kernel
theorem dX5_reads_1 : decode cX5_reads 1 = .ok (.getfield 63, 3) := by decide +kernel
theorem dX5_reads_4 : decode cX5_reads 4 = .ok (.ifCond .le 4, 3) := by decide +kernel
theorem dX5_reads_7 : decode cX5_reads 7 = .ok (.return_, 1) := by decide +kernel
theorem dX5_reads_8 : decode cX5_reads 8 = .ok (.aload_n 0, 1) := by decide +kernel
theorem dX5_reads_9 : decode cX5_reads 9 = .ok (.aload_n 0, 1) := by decide +kernel
theorem dX5_reads_10 : decode cX5_reads 10 = .ok (.getfield 75, 3) := by decide +kernel
theorem dX5_reads_13 : decode cX5_reads 13 = .ok (.invokevirtual 78, 3) := by decide +kernel
theorem dX5_reads_16 : decode cX5_reads 16 = .ok (.bipush 32, 2) := by decide +kernel
theorem dX5_reads_18 : decode cX5_reads 18 = .ok (.if_icmp .ne 16, 3) := by decide +kernel
theorem dX5_reads_21 : decode cX5_reads 21 = .ok (.aload_n 0, 1) := by decide +kernel
theorem dX5_reads_22 : decode cX5_reads 22 = .ok (.dup, 1) := by decide +kernel
theorem dX5_reads_23 : decode cX5_reads 23 = .ok (.getfield 75, 3) := by decide +kernel
theorem dX5_reads_26 : decode cX5_reads 26 = .ok (.iconst 1, 1) := by decide +kernel
theorem dX5_reads_27 : decode cX5_reads 27 = .ok (.iadd, 1) := by decide +kernel
theorem dX5_reads_28 : decode cX5_reads 28 = .ok (.putfield 75, 3) := by decide +kernel
theorem dX5_reads_31 : decode cX5_reads 31 = .ok (.goto (-23), 3) := by decide +kernel
theorem dX5_reads_34 : decode cX5_reads 34 = .ok (.aload_n 0, 1) := by decide +kernel
theorem dX5_reads_35 : decode cX5_reads 35 = .ok (.aload_n 0, 1) := by decide +kernel
theorem dX5_reads_36 : decode cX5_reads 36 = .ok (.getfield 75, 3) := by decide +kernel
theorem dX5_reads_39 : decode cX5_reads 39 = .ok (.putfield 66, 3) := by decide +kernel
theorem dX5_reads_42 : decode cX5_reads 42 = .ok (.aload_n 0, 1) := by decide +kernel
theorem dX5_reads_43 : decode cX5_reads 43 = .ok (.aload_n 0, 1) := by decide +kernel
theorem dX5_reads_44 : decode cX5_reads 44 = .ok (.getfield 75, 3) := by decide +kernel
theorem dX5_reads_47 : decode cX5_reads 47 = .ok (.invokevirtual 78, 3) := by decide +kernel
theorem dX5_reads_50 : decode cX5_reads 50 = .ok (.istore_n 1, 1) := by decide +kernel
theorem dX5_reads_51 : decode cX5_reads 51 = .ok (.iload_n 1, 1) := by decide +kernel
theorem dX5_reads_52 : decode cX5_reads 52 = .ok (.ifCond .ge 11, 3) := by decide +kernel
theorem dX5_reads_55 : decode cX5_reads 55 = .ok (.aload_n 0, 1) := by decide +kernel
theorem dX5_reads_56 : decode cX5_reads 56 = .ok (.iconst 0, 1) := by decide +kernel
theorem dX5_reads_57 : decode cX5_reads 57 = .ok (.putfield 72, 3) := by decide +kernel
theorem dX5_reads_60 : decode cX5_reads 60 = .ok (.goto 214, 3) := by decide +kernel
theorem dX5_reads_63 : decode cX5_reads 63 = .ok (.iload_n 1, 1) := by decide +kernel
theorem dX5_reads_64 : decode cX5_reads 64 = .ok (.i2l, 1) := by decide +kernel
theorem dX5_reads_65 : decode cX5_reads 65 = .ok (.ldc2_w 86, 3) := by decide +kernel
theorem dX5_reads_68 : decode cX5_reads 68 = .ok (.ldc2_w 88, 3) := by decide +kernel
theorem dX5_reads_71 : decode cX5_reads 71 = .ok (.invokestatic 55, 3) := by decide +kernel
theorem dX5_reads_74 : decode cX5_reads 74 = .ok (.ifCond .eq 42, 3) := by decide +kernel
theorem dX5_reads_77 : decode cX5_reads 77 = .ok (.aload_n 0, 1) := by decide +kernel
theorem dX5_reads_78 : decode cX5_reads 78 = .ok (.iconst 1, 1) := by decide +kernel
theorem dX5_reads_79 : decode cX5_reads 79 = .ok (.putfield 72, 3) := by decide +kernel
theorem dX5_reads_82 : decode cX5_reads 82 = .ok (.aload_n 0, 1) := by decide +kernel
theorem dX5_reads_83 : decode cX5_reads 83 = .ok (.aload_n 0, 1) := by decide +kernel
theorem dX5_reads_84 : decode cX5_reads 84 = .ok (.getfield 75, 3) := by decide +kernel
theorem dX5_reads_87 : decode cX5_reads 87 = .ok (.invokevirtual 78, 3) := by decide +kernel
theorem dX5_reads_90 : decode cX5_reads 90 = .ok (.i2l, 1) := by decide +kernel
theorem dX5_reads_91 : decode cX5_reads 91 = .ok (.ldc2_w 86, 3) := by decide +kernel
theorem dX5_reads_94 : decode cX5_reads 94 = .ok (.ldc2_w 88, 3) := by decide +kernel
theorem dX5_reads_97 : decode cX5_reads 97 = .ok (.invokestatic 55, 3) := by decide +kernel
theorem dX5_reads_100 : decode cX5_reads 100 = .ok (.ifCond .eq 174, 3) := by decide +kernel
theorem dX5_reads_103 : decode cX5_reads 103 = .ok (.aload_n 0, 1) := by decide +kernel
theorem dX5_reads_104 : decode cX5_reads 104 = .ok (.dup, 1) := by decide +kernel
theorem dX5_reads_105 : decode cX5_reads 105 = .ok (.getfield 75, 3) := by decide +kernel
theorem dX5_reads_108 : decode cX5_reads 108 = .ok (.iconst 1, 1) := by decide +kernel
theorem dX5_reads_109 : decode cX5_reads 109 = .ok (.iadd, 1) := by decide +kernel
theorem dX5_reads_110 : decode cX5_reads 110 = .ok (.putfield 75, 3) := by decide +kernel
theorem dX5_reads_113 : decode cX5_reads 113 = .ok (.goto (-31), 3) := by decide +kernel
theorem dX5_reads_116 : decode cX5_reads 116 = .ok (.iload_n 1, 1) := by decide +kernel
theorem dX5_reads_117 : decode cX5_reads 117 = .ok (.i2l, 1) := by decide +kernel
theorem dX5_reads_118 : decode cX5_reads 118 = .ok (.ldc2_w 90, 3) := by decide +kernel
theorem dX5_reads_121 : decode cX5_reads 121 = .ok (.ldc2_w 92, 3) := by decide +kernel
theorem dX5_reads_124 : decode cX5_reads 124 = .ok (.invokestatic 55, 3) := by decide +kernel
theorem dX5_reads_127 : decode cX5_reads 127 = .ok (.ifCond .eq 116, 3) := by decide +kernel
theorem dX5_reads_130 : decode cX5_reads 130 = .ok (.aload_n 0, 1) := by decide +kernel
theorem dX5_reads_131 : decode cX5_reads 131 = .ok (.iconst 2, 1) := by decide +kernel
theorem dX5_reads_132 : decode cX5_reads 132 = .ok (.putfield 72, 3) := by decide +kernel
theorem dX5_reads_135 : decode cX5_reads 135 = .ok (.aload_n 0, 1) := by decide +kernel
theorem dX5_reads_136 : decode cX5_reads 136 = .ok (.iconst 0, 1) := by decide +kernel
theorem dX5_reads_137 : decode cX5_reads 137 = .ok (.putfield 94, 3) := by decide +kernel
theorem dX5_reads_140 : decode cX5_reads 140 = .ok (.aload_n 0, 1) := by decide +kernel
theorem dX5_reads_141 : decode cX5_reads 141 = .ok (.aload_n 0, 1) := by decide +kernel
theorem dX5_reads_142 : decode cX5_reads 142 = .ok (.getfield 75, 3) := by decide +kernel
theorem dX5_reads_145 : decode cX5_reads 145 = .ok (.invokevirtual 78, 3) := by decide +kernel
theorem dX5_reads_148 : decode cX5_reads 148 = .ok (.i2l, 1) := by decide +kernel
theorem dX5_reads_149 : decode cX5_reads 149 = .ok (.ldc2_w 90, 3) := by decide +kernel
theorem dX5_reads_152 : decode cX5_reads 152 = .ok (.ldc2_w 92, 3) := by decide +kernel
theorem dX5_reads_155 : decode cX5_reads 155 = .ok (.invokestatic 55, 3) := by decide +kernel
theorem dX5_reads_158 : decode cX5_reads 158 = .ok (.ifCond .eq 59, 3) := by decide +kernel
theorem dX5_reads_161 : decode cX5_reads 161 = .ok (.aload_n 0, 1) := by decide +kernel
theorem dX5_reads_162 : decode cX5_reads 162 = .ok (.aload_n 0, 1) := by decide +kernel
theorem dX5_reads_163 : decode cX5_reads 163 = .ok (.getfield 75, 3) := by decide +kernel
theorem dX5_reads_166 : decode cX5_reads 166 = .ok (.aload_n 0, 1) := by decide +kernel
theorem dX5_reads_167 : decode cX5_reads 167 = .ok (.getfield 66, 3) := by decide +kernel
theorem dX5_reads_170 : decode cX5_reads 170 = .ok (.isub, 1) := by decide +kernel
theorem dX5_reads_171 : decode cX5_reads 171 = .ok (.iconst 2, 1) := by decide +kernel
theorem dX5_reads_172 : decode cX5_reads 172 = .ok (.if_icmp .ge 25, 3) := by decide +kernel
theorem dX5_reads_175 : decode cX5_reads 175 = .ok (.bipush 10, 2) := by decide +kernel
theorem dX5_reads_177 : decode cX5_reads 177 = .ok (.aload_n 0, 1) := by decide +kernel
theorem dX5_reads_178 : decode cX5_reads 178 = .ok (.getfield 94, 3) := by decide +kernel
theorem dX5_reads_181 : decode cX5_reads 181 = .ok (.imul, 1) := by decide +kernel
theorem dX5_reads_182 : decode cX5_reads 182 = .ok (.aload_n 0, 1) := by decide +kernel
theorem dX5_reads_183 : decode cX5_reads 183 = .ok (.aload_n 0, 1) := by decide +kernel
theorem dX5_reads_184 : decode cX5_reads 184 = .ok (.getfield 75, 3) := by decide +kernel
theorem dX5_reads_187 : decode cX5_reads 187 = .ok (.invokevirtual 78, 3) := by decide +kernel
theorem dX5_reads_190 : decode cX5_reads 190 = .ok (.iadd, 1) := by decide +kernel
theorem dX5_reads_191 : decode cX5_reads 191 = .ok (.bipush 48, 2) := by decide +kernel
theorem dX5_reads_193 : decode cX5_reads 193 = .ok (.isub, 1) := by decide +kernel
theorem dX5_reads_194 : decode cX5_reads 194 = .ok (.goto 7, 3) := by decide +kernel
theorem dX5_reads_197 : decode cX5_reads 197 = .ok (.aload_n 0, 1) := by decide +kernel
theorem dX5_reads_198 : decode cX5_reads 198 = .ok (.getfield 94, 3) := by decide +kernel
theorem dX5_reads_201 : decode cX5_reads 201 = .ok (.putfield 94, 3) := by decide +kernel
theorem dX5_reads_204 : decode cX5_reads 204 = .ok (.aload_n 0, 1) := by decide +kernel
theorem dX5_reads_205 : decode cX5_reads 205 = .ok (.dup, 1) := by decide +kernel
theorem dX5_reads_206 : decode cX5_reads 206 = .ok (.getfield 75, 3) := by decide +kernel
theorem dX5_reads_209 : decode cX5_reads 209 = .ok (.iconst 1, 1) := by decide +kernel
theorem dX5_reads_210 : decode cX5_reads 210 = .ok (.iadd, 1) := by decide +kernel
theorem dX5_reads_211 : decode cX5_reads 211 = .ok (.putfield 75, 3) := by decide +kernel
theorem dX5_reads_214 : decode cX5_reads 214 = .ok (.goto (-74), 3) := by decide +kernel
theorem dX5_reads_217 : decode cX5_reads 217 = .ok (.aload_n 0, 1) := by decide +kernel
theorem dX5_reads_218 : decode cX5_reads 218 = .ok (.aload_n 0, 1) := by decide +kernel
theorem dX5_reads_219 : decode cX5_reads 219 = .ok (.getfield 75, 3) := by decide +kernel
theorem dX5_reads_222 : decode cX5_reads 222 = .ok (.aload_n 0, 1) := by decide +kernel
theorem dX5_reads_223 : decode cX5_reads 223 = .ok (.getfield 66, 3) := by decide +kernel
theorem dX5_reads_226 : decode cX5_reads 226 = .ok (.isub, 1) := by decide +kernel
theorem dX5_reads_227 : decode cX5_reads 227 = .ok (.iconst 2, 1) := by decide +kernel
theorem dX5_reads_228 : decode cX5_reads 228 = .ok (.if_icmp .gt 7, 3) := by decide +kernel
theorem dX5_reads_231 : decode cX5_reads 231 = .ok (.iconst 1, 1) := by decide +kernel
theorem dX5_reads_232 : decode cX5_reads 232 = .ok (.goto 4, 3) := by decide +kernel
theorem dX5_reads_235 : decode cX5_reads 235 = .ok (.iconst 0, 1) := by decide +kernel
theorem dX5_reads_236 : decode cX5_reads 236 = .ok (.iconst 1, 1) := by decide +kernel
theorem dX5_reads_237 : decode cX5_reads 237 = .ok (.invokevirtual 97, 3) := by decide +kernel
theorem dX5_reads_240 : decode cX5_reads 240 = .ok (.goto 34, 3) := by decide +kernel
theorem dX5_reads_243 : decode cX5_reads 243 = .ok (.aload_n 0, 1) := by decide +kernel
theorem dX5_reads_244 : decode cX5_reads 244 = .ok (.iconst 3, 1) := by decide +kernel
theorem dX5_reads_245 : decode cX5_reads 245 = .ok (.putfield 72, 3) := by decide +kernel
theorem dX5_reads_248 : decode cX5_reads 248 = .ok (.aload_n 0, 1) := by decide +kernel
theorem dX5_reads_249 : decode cX5_reads 249 = .ok (.iload_n 1, 1) := by decide +kernel
theorem dX5_reads_250 : decode cX5_reads 250 = .ok (.bipush 59, 2) := by decide +kernel
theorem dX5_reads_252 : decode cX5_reads 252 = .ok (.if_icmp .ne 7, 3) := by decide +kernel
theorem dX5_reads_255 : decode cX5_reads 255 = .ok (.iconst 1, 1) := by decide +kernel
theorem dX5_reads_256 : decode cX5_reads 256 = .ok (.goto 4, 3) := by decide +kernel
theorem dX5_reads_259 : decode cX5_reads 259 = .ok (.iconst 0, 1) := by decide +kernel
theorem dX5_reads_260 : decode cX5_reads 260 = .ok (.iconst 1, 1) := by decide +kernel
theorem dX5_reads_261 : decode cX5_reads 261 = .ok (.invokevirtual 97, 3) := by decide +kernel
theorem dX5_reads_264 : decode cX5_reads 264 = .ok (.aload_n 0, 1) := by decide +kernel
theorem dX5_reads_265 : decode cX5_reads 265 = .ok (.dup, 1) := by decide +kernel
theorem dX5_reads_266 : decode cX5_reads 266 = .ok (.getfield 75, 3) := by decide +kernel
theorem dX5_reads_269 : decode cX5_reads 269 = .ok (.iconst 1, 1) := by decide +kernel
theorem dX5_reads_270 : decode cX5_reads 270 = .ok (.iadd, 1) := by decide +kernel
theorem dX5_reads_271 : decode cX5_reads 271 = .ok (.putfield 75, 3) := by decide +kernel
theorem dX5_reads_274 : decode cX5_reads 274 = .ok (.return_, 1) := by decide +kernel
theorem dX5_readNumber_0 : decode cX5_readNumber 0 = .ok (.aload_n 0, 1) := by decide +kernel
theorem dX5_readNumber_1 : decode cX5_readNumber 1 = .ok (.getfield 63, 3) := by decide +kernel
theorem dX5_readNumber_4 : decode cX5_readNumber 4 = .ok (.ifCond .ne 21, 3) := by decide +kernel
theorem dX5_readNumber_7 : decode cX5_readNumber 7 = .ok (.aload_n 0, 1) := by decide +kernel
theorem dX5_readNumber_8 : decode cX5_readNumber 8 = .ok (.aload_n 0, 1) := by decide +kernel
theorem dX5_readNumber_9 : decode cX5_readNumber 9 = .ok (.getfield 72, 3) := by decide +kernel
theorem dX5_readNumber_12 : decode cX5_readNumber 12 = .ok (.iconst 2, 1) := by decide +kernel
theorem dX5_readNumber_13 : decode cX5_readNumber 13 = .ok (.if_icmp .ne 7, 3) := by decide +kernel
theorem dX5_readNumber_16 : decode cX5_readNumber 16 = .ok (.iconst 1, 1) := by decide +kernel
theorem dX5_readNumber_17 : decode cX5_readNumber 17 = .ok (.goto 4, 3) := by decide +kernel
theorem dX5_readNumber_20 : decode cX5_readNumber 20 = .ok (.iconst 0, 1) := by decide +kernel
theorem dX5_readNumber_21 : decode cX5_readNumber 21 = .ok (.iconst 2, 1) := by decide +kernel
theorem dX5_readNumber_22 : decode cX5_readNumber 22 = .ok (.invokevirtual 97, 3) := by decide +kernel
theorem dX5_readNumber_25 : decode cX5_readNumber 25 = .ok (.aload_n 0, 1) := by decide +kernel
theorem dX5_readNumber_26 : decode cX5_readNumber 26 = .ok (.getfield 63, 3) := by decide +kernel
theorem dX5_readNumber_29 : decode cX5_readNumber 29 = .ok (.ifCond .ne 20, 3) := by decide +kernel
theorem dX5_readNumber_32 : decode cX5_readNumber 32 = .ok (.aload_n 0, 1) := by decide +kernel
theorem dX5_readNumber_33 : decode cX5_readNumber 33 = .ok (.aload_n 0, 1) := by decide +kernel
theorem dX5_readNumber_34 : decode cX5_readNumber 34 = .ok (.getfield 94, 3) := by decide +kernel
theorem dX5_readNumber_37 : decode cX5_readNumber 37 = .ok (.i2l, 1) := by decide +kernel
theorem dX5_readNumber_38 : decode cX5_readNumber 38 = .ok (.iload_n 1, 1) := by decide +kernel
theorem dX5_readNumber_39 : decode cX5_readNumber 39 = .ok (.i2l, 1) := by decide +kernel
theorem dX5_readNumber_40 : decode cX5_readNumber 40 = .ok (.iload_n 2, 1) := by decide +kernel
theorem dX5_readNumber_41 : decode cX5_readNumber 41 = .ok (.i2l, 1) := by decide +kernel
theorem dX5_readNumber_42 : decode cX5_readNumber 42 = .ok (.invokestatic 55, 3) := by decide +kernel
theorem dX5_readNumber_45 : decode cX5_readNumber 45 = .ok (.iconst 3, 1) := by decide +kernel
theorem dX5_readNumber_46 : decode cX5_readNumber 46 = .ok (.invokevirtual 97, 3) := by decide +kernel
theorem dX5_readNumber_49 : decode cX5_readNumber 49 = .ok (.aload_n 0, 1) := by decide +kernel
theorem dX5_readNumber_50 : decode cX5_readNumber 50 = .ok (.getfield 63, 3) := by decide +kernel
theorem dX5_readNumber_53 : decode cX5_readNumber 53 = .ok (.ifCond .ne 21, 3) := by decide +kernel
theorem dX5_readNumber_56 : decode cX5_readNumber 56 = .ok (.aload_n 0, 1) := by decide +kernel
theorem dX5_readNumber_57 : decode cX5_readNumber 57 = .ok (.aload_n 0, 1) := by decide +kernel
theorem dX5_readNumber_58 : decode cX5_readNumber 58 = .ok (.getfield 94, 3) := by decide +kernel
theorem dX5_readNumber_61 : decode cX5_readNumber 61 = .ok (.iload_n 3, 1) := by decide +kernel
theorem dX5_readNumber_62 : decode cX5_readNumber 62 = .ok (.if_icmp .eq 7, 3) := by decide +kernel
theorem dX5_readNumber_65 : decode cX5_readNumber 65 = .ok (.iconst 1, 1) := by decide +kernel
theorem dX5_readNumber_66 : decode cX5_readNumber 66 = .ok (.goto 4, 3) := by decide +kernel
theorem dX5_readNumber_69 : decode cX5_readNumber 69 = .ok (.iconst 0, 1) := by decide +kernel
theorem dX5_readNumber_70 : decode cX5_readNumber 70 = .ok (.iconst 4, 1) := by decide +kernel
theorem dX5_readNumber_71 : decode cX5_readNumber 71 = .ok (.invokevirtual 97, 3) := by decide +kernel
theorem dX5_readNumber_74 : decode cX5_readNumber 74 = .ok (.aload_n 0, 1) := by decide +kernel
theorem dX5_readNumber_75 : decode cX5_readNumber 75 = .ok (.getfield 63, 3) := by decide +kernel
theorem dX5_readNumber_78 : decode cX5_readNumber 78 = .ok (.ifCond .ne 10, 3) := by decide +kernel
theorem dX5_readNumber_81 : decode cX5_readNumber 81 = .ok (.aload_n 0, 1) := by decide +kernel
theorem dX5_readNumber_82 : decode cX5_readNumber 82 = .ok (.getfield 94, 3) := by decide +kernel
theorem dX5_readNumber_85 : decode cX5_readNumber 85 = .ok (.goto 4, 3) := by decide +kernel
theorem dX5_readNumber_88 : decode cX5_readNumber 88 = .ok (.iconst 0, 1) := by decide +kernel
theorem dX5_readNumber_89 : decode cX5_readNumber 89 = .ok (.istore 4, 2) := by decide +kernel
theorem dX5_readNumber_91 : decode cX5_readNumber 91 = .ok (.aload_n 0, 1) := by decide +kernel
theorem dX5_readNumber_92 : decode cX5_readNumber 92 = .ok (.invokevirtual 101, 3) := by decide +kernel
theorem dX5_readNumber_95 : decode cX5_readNumber 95 = .ok (.iload 4, 2) := by decide +kernel
theorem dX5_readNumber_97 : decode cX5_readNumber 97 = .ok (.ireturn, 1) := by decide +kernel
theorem dX5_readPlace_0 : decode cX5_readPlace 0 = .ok (.iconst 4, 1) := by decide +kernel
theorem dX5_readPlace_1 : decode cX5_readPlace 1 = .ok (.iconst 5, 1) := by decide +kernel
theorem dX5_readPlace_2 : decode cX5_readPlace 2 = .ok (.aload_n 0, 1) := by decide +kernel
theorem dX5_readPlace_3 : decode cX5_readPlace 3 = .ok (.getfield 13, 3) := by decide +kernel
theorem dX5_readPlace_6 : decode cX5_readPlace 6 = .ok (.iconst 0, 1) := by decide +kernel
theorem dX5_readPlace_7 : decode cX5_readPlace 7 = .ok (.iaload, 1) := by decide +kernel
theorem dX5_readPlace_8 : decode cX5_readPlace 8 = .ok (.imul, 1) := by decide +kernel
theorem dX5_readPlace_9 : decode cX5_readPlace 9 = .ok (.iadd, 1) := by decide +kernel
theorem dX5_readPlace_10 : decode cX5_readPlace 10 = .ok (.istore_n 1, 1) := by decide +kernel
theorem dX5_readPlace_11 : decode cX5_readPlace 11 = .ok (.aload_n 0, 1) := by decide +kernel
theorem dX5_readPlace_12 : decode cX5_readPlace 12 = .ok (.getfield 13, 3) := by decide +kernel
theorem dX5_readPlace_15 : decode cX5_readPlace 15 = .ok (.iload_n 1, 1) := by decide +kernel
theorem dX5_readPlace_16 : decode cX5_readPlace 16 = .ok (.iconst 1, 1) := by decide +kernel
theorem dX5_readPlace_17 : decode cX5_readPlace 17 = .ok (.iadd, 1) := by decide +kernel
theorem dX5_readPlace_18 : decode cX5_readPlace 18 = .ok (.aload_n 0, 1) := by decide +kernel
theorem dX5_readPlace_19 : decode cX5_readPlace 19 = .ok (.iconst 1, 1) := by decide +kernel
theorem dX5_readPlace_20 : decode cX5_readPlace 20 = .ok (.bipush 20, 2) := by decide +kernel
theorem dX5_readPlace_22 : decode cX5_readPlace 22 = .ok (.bipush (-4), 2) := by decide +kernel
theorem dX5_readPlace_24 : decode cX5_readPlace 24 = .ok (.invokevirtual 104, 3) := by decide +kernel
theorem dX5_readPlace_27 : decode cX5_readPlace 27 = .ok (.iastore, 1) := by decide +kernel
theorem dX5_readPlace_28 : decode cX5_readPlace 28 = .ok (.aload_n 0, 1) := by decide +kernel
theorem dX5_readPlace_29 : decode cX5_readPlace 29 = .ok (.getfield 13, 3) := by decide +kernel
theorem dX5_readPlace_32 : decode cX5_readPlace 32 = .ok (.iload_n 1, 1) := by decide +kernel
theorem dX5_readPlace_33 : decode cX5_readPlace 33 = .ok (.iconst 0, 1) := by decide +kernel
theorem dX5_readPlace_34 : decode cX5_readPlace 34 = .ok (.iadd, 1) := by decide +kernel
theorem dX5_readPlace_35 : decode cX5_readPlace 35 = .ok (.iconst 1, 1) := by decide +kernel
theorem dX5_readPlace_36 : decode cX5_readPlace 36 = .ok (.iastore, 1) := by decide +kernel
theorem dX5_readPlace_37 : decode cX5_readPlace 37 = .ok (.aload_n 0, 1) := by decide +kernel
theorem dX5_readPlace_38 : decode cX5_readPlace 38 = .ok (.getfield 13, 3) := by decide +kernel
theorem dX5_readPlace_41 : decode cX5_readPlace 41 = .ok (.iload_n 1, 1) := by decide +kernel
theorem dX5_readPlace_42 : decode cX5_readPlace 42 = .ok (.iconst 4, 1) := by decide +kernel
theorem dX5_readPlace_43 : decode cX5_readPlace 43 = .ok (.iadd, 1) := by decide +kernel
theorem dX5_readPlace_44 : decode cX5_readPlace 44 = .ok (.iconst 1, 1) := by decide +kernel
theorem dX5_readPlace_45 : decode cX5_readPlace 45 = .ok (.iastore, 1) := by decide +kernel
theorem dX5_readPlace_46 : decode cX5_readPlace 46 = .ok (.aload_n 0, 1) := by decide +kernel
theorem dX5_readPlace_47 : decode cX5_readPlace 47 = .ok (.getfield 63, 3) := by decide +kernel
theorem dX5_readPlace_50 : decode cX5_readPlace 50 = .ok (.ifCond .ne 64, 3) := by decide +kernel
theorem dX5_readPlace_53 : decode cX5_readPlace 53 = .ok (.aload_n 0, 1) := by decide +kernel
theorem dX5_readPlace_54 : decode cX5_readPlace 54 = .ok (.getfield 72, 3) := by decide +kernel
theorem dX5_readPlace_57 : decode cX5_readPlace 57 = .ok (.iconst 2, 1) := by decide +kernel
theorem dX5_readPlace_58 : decode cX5_readPlace 58 = .ok (.if_icmp .ne 56, 3) := by decide +kernel
theorem dX5_readPlace_61 : decode cX5_readPlace 61 = .ok (.aload_n 0, 1) := by decide +kernel
theorem dX5_readPlace_62 : decode cX5_readPlace 62 = .ok (.getfield 13, 3) := by decide +kernel
theorem dX5_readPlace_65 : decode cX5_readPlace 65 = .ok (.iload_n 1, 1) := by decide +kernel
theorem dX5_readPlace_66 : decode cX5_readPlace 66 = .ok (.iconst 0, 1) := by decide +kernel
theorem dX5_readPlace_67 : decode cX5_readPlace 67 = .ok (.iadd, 1) := by decide +kernel
theorem dX5_readPlace_68 : decode cX5_readPlace 68 = .ok (.iaload, 1) := by decide +kernel
theorem dX5_readPlace_69 : decode cX5_readPlace 69 = .ok (.iconst 3, 1) := by decide +kernel
theorem dX5_readPlace_70 : decode cX5_readPlace 70 = .ok (.if_icmp .ge 44, 3) := by decide +kernel
theorem dX5_readPlace_73 : decode cX5_readPlace 73 = .ok (.aload_n 0, 1) := by decide +kernel
theorem dX5_readPlace_74 : decode cX5_readPlace 74 = .ok (.getfield 13, 3) := by decide +kernel
theorem dX5_readPlace_77 : decode cX5_readPlace 77 = .ok (.iload_n 1, 1) := by decide +kernel
theorem dX5_readPlace_78 : decode cX5_readPlace 78 = .ok (.iconst 1, 1) := by decide +kernel
theorem dX5_readPlace_79 : decode cX5_readPlace 79 = .ok (.iadd, 1) := by decide +kernel
theorem dX5_readPlace_80 : decode cX5_readPlace 80 = .ok (.aload_n 0, 1) := by decide +kernel
theorem dX5_readPlace_81 : decode cX5_readPlace 81 = .ok (.getfield 13, 3) := by decide +kernel
theorem dX5_readPlace_84 : decode cX5_readPlace 84 = .ok (.iload_n 1, 1) := by decide +kernel
theorem dX5_readPlace_85 : decode cX5_readPlace 85 = .ok (.iconst 0, 1) := by decide +kernel
theorem dX5_readPlace_86 : decode cX5_readPlace 86 = .ok (.iadd, 1) := by decide +kernel
theorem dX5_readPlace_87 : decode cX5_readPlace 87 = .ok (.iaload, 1) := by decide +kernel
theorem dX5_readPlace_88 : decode cX5_readPlace 88 = .ok (.iadd, 1) := by decide +kernel
theorem dX5_readPlace_89 : decode cX5_readPlace 89 = .ok (.aload_n 0, 1) := by decide +kernel
theorem dX5_readPlace_90 : decode cX5_readPlace 90 = .ok (.iconst 1, 1) := by decide +kernel
theorem dX5_readPlace_91 : decode cX5_readPlace 91 = .ok (.bipush 20, 2) := by decide +kernel
theorem dX5_readPlace_93 : decode cX5_readPlace 93 = .ok (.bipush (-4), 2) := by decide +kernel
theorem dX5_readPlace_95 : decode cX5_readPlace 95 = .ok (.invokevirtual 104, 3) := by decide +kernel
theorem dX5_readPlace_98 : decode cX5_readPlace 98 = .ok (.iastore, 1) := by decide +kernel
theorem dX5_readPlace_99 : decode cX5_readPlace 99 = .ok (.aload_n 0, 1) := by decide +kernel
theorem dX5_readPlace_100 : decode cX5_readPlace 100 = .ok (.getfield 13, 3) := by decide +kernel
theorem dX5_readPlace_103 : decode cX5_readPlace 103 = .ok (.iload_n 1, 1) := by decide +kernel
theorem dX5_readPlace_104 : decode cX5_readPlace 104 = .ok (.iconst 0, 1) := by decide +kernel
theorem dX5_readPlace_105 : decode cX5_readPlace 105 = .ok (.iadd, 1) := by decide +kernel
theorem dX5_readPlace_106 : decode cX5_readPlace 106 = .ok (.dup2, 1) := by decide +kernel
theorem dX5_readPlace_107 : decode cX5_readPlace 107 = .ok (.iaload, 1) := by decide +kernel
theorem dX5_readPlace_108 : decode cX5_readPlace 108 = .ok (.iconst 1, 1) := by decide +kernel
theorem dX5_readPlace_109 : decode cX5_readPlace 109 = .ok (.iadd, 1) := by decide +kernel
theorem dX5_readPlace_110 : decode cX5_readPlace 110 = .ok (.iastore, 1) := by decide +kernel
theorem dX5_readPlace_111 : decode cX5_readPlace 111 = .ok (.goto (-65), 3) := by decide +kernel
theorem dX5_readPlace_114 : decode cX5_readPlace 114 = .ok (.aload_n 0, 1) := by decide +kernel
theorem dX5_readPlace_115 : decode cX5_readPlace 115 = .ok (.getfield 13, 3) := by decide +kernel
theorem dX5_readPlace_118 : decode cX5_readPlace 118 = .ok (.iconst 0, 1) := by decide +kernel
theorem dX5_readPlace_119 : decode cX5_readPlace 119 = .ok (.dup2, 1) := by decide +kernel
theorem dX5_readPlace_120 : decode cX5_readPlace 120 = .ok (.iaload, 1) := by decide +kernel
theorem dX5_readPlace_121 : decode cX5_readPlace 121 = .ok (.iconst 1, 1) := by decide +kernel
theorem dX5_readPlace_122 : decode cX5_readPlace 122 = .ok (.iadd, 1) := by decide +kernel
theorem dX5_readPlace_123 : decode cX5_readPlace 123 = .ok (.iastore, 1) := by decide +kernel
theorem dX5_readPlace_124 : decode cX5_readPlace 124 = .ok (.return_, 1) := by decide +kernel
theorem dX5_readTrain_0 : decode cX5_readTrain 0 = .ok (.bipush 34, 2) := by decide +kernel
theorem dX5_readTrain_2 : decode cX5_readTrain 2 = .ok (.bipush 6, 2) := by decide +kernel
theorem dX5_readTrain_4 : decode cX5_readTrain 4 = .ok (.aload_n 0, 1) := by decide +kernel
theorem dX5_readTrain_5 : decode cX5_readTrain 5 = .ok (.getfield 13, 3) := by decide +kernel
theorem dX5_readTrain_8 : decode cX5_readTrain 8 = .ok (.iconst 1, 1) := by decide +kernel
theorem dX5_readTrain_9 : decode cX5_readTrain 9 = .ok (.iaload, 1) := by decide +kernel
theorem dX5_readTrain_10 : decode cX5_readTrain 10 = .ok (.imul, 1) := by decide +kernel
theorem dX5_readTrain_11 : decode cX5_readTrain 11 = .ok (.iadd, 1) := by decide +kernel
theorem dX5_readTrain_12 : decode cX5_readTrain 12 = .ok (.istore_n 1, 1) := by decide +kernel
theorem dX5_readTrain_13 : decode cX5_readTrain 13 = .ok (.aload_n 0, 1) := by decide +kernel
theorem dX5_readTrain_14 : decode cX5_readTrain 14 = .ok (.getfield 13, 3) := by decide +kernel
theorem dX5_readTrain_17 : decode cX5_readTrain 17 = .ok (.iload_n 1, 1) := by decide +kernel
theorem dX5_readTrain_18 : decode cX5_readTrain 18 = .ok (.iconst 0, 1) := by decide +kernel
theorem dX5_readTrain_19 : decode cX5_readTrain 19 = .ok (.iadd, 1) := by decide +kernel
theorem dX5_readTrain_20 : decode cX5_readTrain 20 = .ok (.aload_n 0, 1) := by decide +kernel
theorem dX5_readTrain_21 : decode cX5_readTrain 21 = .ok (.iconst 0, 1) := by decide +kernel
theorem dX5_readTrain_22 : decode cX5_readTrain 22 = .ok (.iconst 5, 1) := by decide +kernel
theorem dX5_readTrain_23 : decode cX5_readTrain 23 = .ok (.bipush (-4), 2) := by decide +kernel
theorem dX5_readTrain_25 : decode cX5_readTrain 25 = .ok (.invokevirtual 104, 3) := by decide +kernel
theorem dX5_readTrain_28 : decode cX5_readTrain 28 = .ok (.iastore, 1) := by decide +kernel
theorem dX5_readTrain_29 : decode cX5_readTrain 29 = .ok (.aload_n 0, 1) := by decide +kernel
theorem dX5_readTrain_30 : decode cX5_readTrain 30 = .ok (.getfield 13, 3) := by decide +kernel
theorem dX5_readTrain_33 : decode cX5_readTrain 33 = .ok (.iload_n 1, 1) := by decide +kernel
theorem dX5_readTrain_34 : decode cX5_readTrain 34 = .ok (.iconst 1, 1) := by decide +kernel
theorem dX5_readTrain_35 : decode cX5_readTrain 35 = .ok (.iadd, 1) := by decide +kernel
theorem dX5_readTrain_36 : decode cX5_readTrain 36 = .ok (.aload_n 0, 1) := by decide +kernel
theorem dX5_readTrain_37 : decode cX5_readTrain 37 = .ok (.iconst 0, 1) := by decide +kernel
theorem dX5_readTrain_38 : decode cX5_readTrain 38 = .ok (.iconst 5, 1) := by decide +kernel
theorem dX5_readTrain_39 : decode cX5_readTrain 39 = .ok (.aload_n 0, 1) := by decide +kernel
theorem dX5_readTrain_40 : decode cX5_readTrain 40 = .ok (.getfield 13, 3) := by decide +kernel
theorem dX5_readTrain_43 : decode cX5_readTrain 43 = .ok (.iload_n 1, 1) := by decide +kernel
theorem dX5_readTrain_44 : decode cX5_readTrain 44 = .ok (.iconst 0, 1) := by decide +kernel
theorem dX5_readTrain_45 : decode cX5_readTrain 45 = .ok (.iadd, 1) := by decide +kernel
theorem dX5_readTrain_46 : decode cX5_readTrain 46 = .ok (.iaload, 1) := by decide +kernel
theorem dX5_readTrain_47 : decode cX5_readTrain 47 = .ok (.invokevirtual 104, 3) := by decide +kernel
theorem dX5_readTrain_50 : decode cX5_readTrain 50 = .ok (.iastore, 1) := by decide +kernel
theorem dX5_readTrain_51 : decode cX5_readTrain 51 = .ok (.aload_n 0, 1) := by decide +kernel
theorem dX5_readTrain_52 : decode cX5_readTrain 52 = .ok (.getfield 13, 3) := by decide +kernel
theorem dX5_readTrain_55 : decode cX5_readTrain 55 = .ok (.iload_n 1, 1) := by decide +kernel
theorem dX5_readTrain_56 : decode cX5_readTrain 56 = .ok (.iconst 2, 1) := by decide +kernel
theorem dX5_readTrain_57 : decode cX5_readTrain 57 = .ok (.iadd, 1) := by decide +kernel
theorem dX5_readTrain_58 : decode cX5_readTrain 58 = .ok (.aload_n 0, 1) := by decide +kernel
theorem dX5_readTrain_59 : decode cX5_readTrain 59 = .ok (.iconst 1, 1) := by decide +kernel
theorem dX5_readTrain_60 : decode cX5_readTrain 60 = .ok (.bipush 20, 2) := by decide +kernel
theorem dX5_readTrain_62 : decode cX5_readTrain 62 = .ok (.bipush (-4), 2) := by decide +kernel
theorem dX5_readTrain_64 : decode cX5_readTrain 64 = .ok (.invokevirtual 104, 3) := by decide +kernel
theorem dX5_readTrain_67 : decode cX5_readTrain 67 = .ok (.iastore, 1) := by decide +kernel
theorem dX5_readTrain_68 : decode cX5_readTrain 68 = .ok (.aload_n 0, 1) := by decide +kernel
theorem dX5_readTrain_69 : decode cX5_readTrain 69 = .ok (.getfield 13, 3) := by decide +kernel
theorem dX5_readTrain_72 : decode cX5_readTrain 72 = .ok (.iload_n 1, 1) := by decide +kernel
theorem dX5_readTrain_73 : decode cX5_readTrain 73 = .ok (.iconst 3, 1) := by decide +kernel
theorem dX5_readTrain_74 : decode cX5_readTrain 74 = .ok (.iadd, 1) := by decide +kernel
theorem dX5_readTrain_75 : decode cX5_readTrain 75 = .ok (.aload_n 0, 1) := by decide +kernel
theorem dX5_readTrain_76 : decode cX5_readTrain 76 = .ok (.getfield 13, 3) := by decide +kernel
theorem dX5_readTrain_79 : decode cX5_readTrain 79 = .ok (.iload_n 1, 1) := by decide +kernel
theorem dX5_readTrain_80 : decode cX5_readTrain 80 = .ok (.iconst 0, 1) := by decide +kernel
theorem dX5_readTrain_81 : decode cX5_readTrain 81 = .ok (.iadd, 1) := by decide +kernel
theorem dX5_readTrain_82 : decode cX5_readTrain 82 = .ok (.iaload, 1) := by decide +kernel
theorem dX5_readTrain_83 : decode cX5_readTrain 83 = .ok (.iastore, 1) := by decide +kernel
theorem dX5_readTrain_84 : decode cX5_readTrain 84 = .ok (.aload_n 0, 1) := by decide +kernel
theorem dX5_readTrain_85 : decode cX5_readTrain 85 = .ok (.getfield 13, 3) := by decide +kernel
theorem dX5_readTrain_88 : decode cX5_readTrain 88 = .ok (.iload_n 1, 1) := by decide +kernel
theorem dX5_readTrain_89 : decode cX5_readTrain 89 = .ok (.iconst 4, 1) := by decide +kernel
theorem dX5_readTrain_90 : decode cX5_readTrain 90 = .ok (.iadd, 1) := by decide +kernel
theorem dX5_readTrain_91 : decode cX5_readTrain 91 = .ok (.iconst 0, 1) := by decide +kernel
theorem dX5_readTrain_92 : decode cX5_readTrain 92 = .ok (.iastore, 1) := by decide +kernel
theorem dX5_readTrain_93 : decode cX5_readTrain 93 = .ok (.aload_n 0, 1) := by decide +kernel
theorem dX5_readTrain_94 : decode cX5_readTrain 94 = .ok (.getfield 13, 3) := by decide +kernel
theorem dX5_readTrain_97 : decode cX5_readTrain 97 = .ok (.iload_n 1, 1) := by decide +kernel
theorem dX5_readTrain_98 : decode cX5_readTrain 98 = .ok (.iconst 5, 1) := by decide +kernel
theorem dX5_readTrain_99 : decode cX5_readTrain 99 = .ok (.iadd, 1) := by decide +kernel
theorem dX5_readTrain_100 : decode cX5_readTrain 100 = .ok (.bipush (-4), 2) := by decide +kernel
theorem dX5_readTrain_102 : decode cX5_readTrain 102 = .ok (.iastore, 1) := by decide +kernel
theorem dX5_readTrain_103 : decode cX5_readTrain 103 = .ok (.aload_n 0, 1) := by decide +kernel
theorem dX5_readTrain_104 : decode cX5_readTrain 104 = .ok (.getfield 13, 3) := by decide +kernel
theorem dX5_readTrain_107 : decode cX5_readTrain 107 = .ok (.iconst 1, 1) := by decide +kernel
theorem dX5_readTrain_108 : decode cX5_readTrain 108 = .ok (.dup2, 1) := by decide +kernel
theorem dX5_readTrain_109 : decode cX5_readTrain 109 = .ok (.iaload, 1) := by decide +kernel
theorem dX5_readTrain_110 : decode cX5_readTrain 110 = .ok (.iconst 1, 1) := by decide +kernel
theorem dX5_readTrain_111 : decode cX5_readTrain 111 = .ok (.iadd, 1) := by decide +kernel
theorem dX5_readTrain_112 : decode cX5_readTrain 112 = .ok (.iastore, 1) := by decide +kernel
theorem dX5_readTrain_113 : decode cX5_readTrain 113 = .ok (.return_, 1) := by decide +kernel
theorem dX5_readLine_0 : decode cX5_readLine 0 = .ok (.aload_n 0, 1) := by decide +kernel
theorem dX5_readLine_1 : decode cX5_readLine 1 = .ok (.invokevirtual 108, 3) := by decide +kernel
theorem dX5_readLine_4 : decode cX5_readLine 4 = .ok (.istore_n 1, 1) := by decide +kernel
theorem dX5_readLine_5 : decode cX5_readLine 5 = .ok (.aload_n 0, 1) := by decide +kernel
theorem dX5_readLine_6 : decode cX5_readLine 6 = .ok (.iload_n 1, 1) := by decide +kernel
theorem dX5_readLine_7 : decode cX5_readLine 7 = .ok (.bipush (-4), 2) := by decide +kernel
theorem dX5_readLine_9 : decode cX5_readLine 9 = .ok (.if_icmp .eq 7, 3) := by decide +kernel
theorem dX5_readLine_12 : decode cX5_readLine 12 = .ok (.iconst 1, 1) := by decide +kernel
theorem dX5_readLine_13 : decode cX5_readLine 13 = .ok (.goto 4, 3) := by decide +kernel
theorem dX5_readLine_16 : decode cX5_readLine 16 = .ok (.iconst 0, 1) := by decide +kernel
theorem dX5_readLine_17 : decode cX5_readLine 17 = .ok (.iconst 2, 1) := by decide +kernel
theorem dX5_readLine_18 : decode cX5_readLine 18 = .ok (.invokevirtual 97, 3) := by decide +kernel
theorem dX5_readLine_21 : decode cX5_readLine 21 = .ok (.aload_n 0, 1) := by decide +kernel
theorem dX5_readLine_22 : decode cX5_readLine 22 = .ok (.iload_n 1, 1) := by decide +kernel
theorem dX5_readLine_23 : decode cX5_readLine 23 = .ok (.bipush (-4), 2) := by decide +kernel
theorem dX5_readLine_25 : decode cX5_readLine 25 = .ok (.if_icmp .eq 11, 3) := by decide +kernel
theorem dX5_readLine_28 : decode cX5_readLine 28 = .ok (.aload_n 0, 1) := by decide +kernel
theorem dX5_readLine_29 : decode cX5_readLine 29 = .ok (.iload_n 1, 1) := by decide +kernel
theorem dX5_readLine_30 : decode cX5_readLine 30 = .ok (.invokevirtual 112, 3) := by decide +kernel
theorem dX5_readLine_33 : decode cX5_readLine 33 = .ok (.ifCond .eq 7, 3) := by decide +kernel
theorem dX5_readLine_36 : decode cX5_readLine 36 = .ok (.iconst 1, 1) := by decide +kernel
theorem dX5_readLine_37 : decode cX5_readLine 37 = .ok (.goto 4, 3) := by decide +kernel
theorem dX5_readLine_40 : decode cX5_readLine 40 = .ok (.iconst 0, 1) := by decide +kernel
theorem dX5_readLine_41 : decode cX5_readLine 41 = .ok (.iconst 5, 1) := by decide +kernel
theorem dX5_readLine_42 : decode cX5_readLine 42 = .ok (.invokevirtual 97, 3) := by decide +kernel
theorem dX5_readLine_45 : decode cX5_readLine 45 = .ok (.aload_n 0, 1) := by decide +kernel
theorem dX5_readLine_46 : decode cX5_readLine 46 = .ok (.invokevirtual 101, 3) := by decide +kernel
theorem dX5_readLine_49 : decode cX5_readLine 49 = .ok (.aload_n 0, 1) := by decide +kernel
theorem dX5_readLine_50 : decode cX5_readLine 50 = .ok (.getfield 63, 3) := by decide +kernel
theorem dX5_readLine_53 : decode cX5_readLine 53 = .ok (.ifCond .le 4, 3) := by decide +kernel
theorem dX5_readLine_56 : decode cX5_readLine 56 = .ok (.return_, 1) := by decide +kernel
theorem dX5_readLine_57 : decode cX5_readLine 57 = .ok (.iload_n 1, 1) := by decide +kernel
theorem dX5_readLine_58 : decode cX5_readLine 58 = .ok (.ifCond .ne 10, 3) := by decide +kernel
theorem dX5_readLine_61 : decode cX5_readLine 61 = .ok (.aload_n 0, 1) := by decide +kernel
theorem dX5_readLine_62 : decode cX5_readLine 62 = .ok (.invokevirtual 116, 3) := by decide +kernel
theorem dX5_readLine_65 : decode cX5_readLine 65 = .ok (.goto 43, 3) := by decide +kernel
theorem dX5_readLine_68 : decode cX5_readLine 68 = .ok (.iload_n 1, 1) := by decide +kernel
theorem dX5_readLine_69 : decode cX5_readLine 69 = .ok (.iconst 2, 1) := by decide +kernel
theorem dX5_readLine_70 : decode cX5_readLine 70 = .ok (.if_icmp .ne 10, 3) := by decide +kernel
theorem dX5_readLine_73 : decode cX5_readLine 73 = .ok (.aload_n 0, 1) := by decide +kernel
theorem dX5_readLine_74 : decode cX5_readLine 74 = .ok (.invokevirtual 119, 3) := by decide +kernel
theorem dX5_readLine_77 : decode cX5_readLine 77 = .ok (.goto 31, 3) := by decide +kernel
theorem dX5_readLine_80 : decode cX5_readLine 80 = .ok (.aload_n 0, 1) := by decide +kernel
theorem dX5_readLine_81 : decode cX5_readLine 81 = .ok (.getfield 13, 3) := by decide +kernel
theorem dX5_readLine_84 : decode cX5_readLine 84 = .ok (.iconst 4, 1) := by decide +kernel
theorem dX5_readLine_85 : decode cX5_readLine 85 = .ok (.iconst 5, 1) := by decide +kernel
theorem dX5_readLine_86 : decode cX5_readLine 86 = .ok (.aload_n 0, 1) := by decide +kernel
theorem dX5_readLine_87 : decode cX5_readLine 87 = .ok (.getfield 13, 3) := by decide +kernel
theorem dX5_readLine_90 : decode cX5_readLine 90 = .ok (.iconst 0, 1) := by decide +kernel
theorem dX5_readLine_91 : decode cX5_readLine 91 = .ok (.iaload, 1) := by decide +kernel
theorem dX5_readLine_92 : decode cX5_readLine 92 = .ok (.iconst 1, 1) := by decide +kernel
theorem dX5_readLine_93 : decode cX5_readLine 93 = .ok (.isub, 1) := by decide +kernel
theorem dX5_readLine_94 : decode cX5_readLine 94 = .ok (.imul, 1) := by decide +kernel
theorem dX5_readLine_95 : decode cX5_readLine 95 = .ok (.iadd, 1) := by decide +kernel
theorem dX5_readLine_96 : decode cX5_readLine 96 = .ok (.iconst 4, 1) := by decide +kernel
theorem dX5_readLine_97 : decode cX5_readLine 97 = .ok (.iadd, 1) := by decide +kernel
theorem dX5_readLine_98 : decode cX5_readLine 98 = .ok (.aload_n 0, 1) := by decide +kernel
theorem dX5_readLine_99 : decode cX5_readLine 99 = .ok (.iconst 1, 1) := by decide +kernel
theorem dX5_readLine_100 : decode cX5_readLine 100 = .ok (.bipush 9, 2) := by decide +kernel
theorem dX5_readLine_102 : decode cX5_readLine 102 = .ok (.bipush (-4), 2) := by decide +kernel
theorem dX5_readLine_104 : decode cX5_readLine 104 = .ok (.invokevirtual 104, 3) := by decide +kernel
theorem dX5_readLine_107 : decode cX5_readLine 107 = .ok (.iastore, 1) := by decide +kernel
theorem dX5_readLine_108 : decode cX5_readLine 108 = .ok (.aload_n 0, 1) := by decide +kernel
theorem dX5_readLine_109 : decode cX5_readLine 109 = .ok (.getfield 63, 3) := by decide +kernel
theorem dX5_readLine_112 : decode cX5_readLine 112 = .ok (.ifCond .ne 21, 3) := by decide +kernel
theorem dX5_readLine_115 : decode cX5_readLine 115 = .ok (.aload_n 0, 1) := by decide +kernel
theorem dX5_readLine_116 : decode cX5_readLine 116 = .ok (.aload_n 0, 1) := by decide +kernel
theorem dX5_readLine_117 : decode cX5_readLine 117 = .ok (.getfield 72, 3) := by decide +kernel
theorem dX5_readLine_120 : decode cX5_readLine 120 = .ok (.iconst 3, 1) := by decide +kernel
theorem dX5_readLine_121 : decode cX5_readLine 121 = .ok (.if_icmp .ne 7, 3) := by decide +kernel
theorem dX5_readLine_124 : decode cX5_readLine 124 = .ok (.iconst 1, 1) := by decide +kernel
theorem dX5_readLine_125 : decode cX5_readLine 125 = .ok (.goto 4, 3) := by decide +kernel
theorem dX5_readLine_128 : decode cX5_readLine 128 = .ok (.iconst 0, 1) := by decide +kernel
theorem dX5_readLine_129 : decode cX5_readLine 129 = .ok (.iconst 2, 1) := by decide +kernel
theorem dX5_readLine_130 : decode cX5_readLine 130 = .ok (.invokevirtual 97, 3) := by decide +kernel
theorem dX5_readLine_133 : decode cX5_readLine 133 = .ok (.aload_n 0, 1) := by decide +kernel
theorem dX5_readLine_134 : decode cX5_readLine 134 = .ok (.invokevirtual 101, 3) := by decide +kernel
theorem dX5_readLine_137 : decode cX5_readLine 137 = .ok (.return_, 1) := by decide +kernel
theorem dX5_areAllPlaces_0 : decode cX5_areAllPlaces 0 = .ok (.iconst 1, 1) := by decide +kernel
theorem dX5_areAllPlaces_1 : decode cX5_areAllPlaces 1 = .ok (.istore_n 1, 1) := by decide +kernel
theorem dX5_areAllPlaces_2 : decode cX5_areAllPlaces 2 = .ok (.iconst 0, 1) := by decide +kernel
theorem dX5_areAllPlaces_3 : decode cX5_areAllPlaces 3 = .ok (.istore_n 2, 1) := by decide +kernel
theorem dX5_areAllPlaces_4 : decode cX5_areAllPlaces 4 = .ok (.iload_n 2, 1) := by decide +kernel
theorem dX5_areAllPlaces_5 : decode cX5_areAllPlaces 5 = .ok (.aload_n 0, 1) := by decide +kernel
theorem dX5_areAllPlaces_6 : decode cX5_areAllPlaces 6 = .ok (.getfield 7, 3) := by decide +kernel
theorem dX5_areAllPlaces_9 : decode cX5_areAllPlaces 9 = .ok (.iconst 1, 1) := by decide +kernel
theorem dX5_areAllPlaces_10 : decode cX5_areAllPlaces 10 = .ok (.iaload, 1) := by decide +kernel
theorem dX5_areAllPlaces_11 : decode cX5_areAllPlaces 11 = .ok (.if_icmp .ge 49, 3) := by decide +kernel
theorem dX5_areAllPlaces_14 : decode cX5_areAllPlaces 14 = .ok (.iload_n 1, 1) := by decide +kernel
theorem dX5_areAllPlaces_15 : decode cX5_areAllPlaces 15 = .ok (.ifCond .eq 37, 3) := by decide +kernel
theorem dX5_areAllPlaces_18 : decode cX5_areAllPlaces 18 = .ok (.aload_n 0, 1) := by decide +kernel
theorem dX5_areAllPlaces_19 : decode cX5_areAllPlaces 19 = .ok (.iload_n 2, 1) := by decide +kernel
theorem dX5_areAllPlaces_20 : decode cX5_areAllPlaces 20 = .ok (.iconst 0, 1) := by decide +kernel
theorem dX5_areAllPlaces_21 : decode cX5_areAllPlaces 21 = .ok (.invokevirtual 122, 3) := by decide +kernel
theorem dX5_areAllPlaces_24 : decode cX5_areAllPlaces 24 = .ok (.aload_n 0, 1) := by decide +kernel
theorem dX5_areAllPlaces_25 : decode cX5_areAllPlaces 25 = .ok (.getfield 7, 3) := by decide +kernel
theorem dX5_areAllPlaces_28 : decode cX5_areAllPlaces 28 = .ok (.iconst 0, 1) := by decide +kernel
theorem dX5_areAllPlaces_29 : decode cX5_areAllPlaces 29 = .ok (.iaload, 1) := by decide +kernel
theorem dX5_areAllPlaces_30 : decode cX5_areAllPlaces 30 = .ok (.if_icmp .ge 22, 3) := by decide +kernel
theorem dX5_areAllPlaces_33 : decode cX5_areAllPlaces 33 = .ok (.aload_n 0, 1) := by decide +kernel
theorem dX5_areAllPlaces_34 : decode cX5_areAllPlaces 34 = .ok (.iload_n 2, 1) := by decide +kernel
theorem dX5_areAllPlaces_35 : decode cX5_areAllPlaces 35 = .ok (.iconst 1, 1) := by decide +kernel
theorem dX5_areAllPlaces_36 : decode cX5_areAllPlaces 36 = .ok (.invokevirtual 122, 3) := by decide +kernel
theorem dX5_areAllPlaces_39 : decode cX5_areAllPlaces 39 = .ok (.aload_n 0, 1) := by decide +kernel
theorem dX5_areAllPlaces_40 : decode cX5_areAllPlaces 40 = .ok (.getfield 7, 3) := by decide +kernel
theorem dX5_areAllPlaces_43 : decode cX5_areAllPlaces 43 = .ok (.iconst 0, 1) := by decide +kernel
theorem dX5_areAllPlaces_44 : decode cX5_areAllPlaces 44 = .ok (.iaload, 1) := by decide +kernel
theorem dX5_areAllPlaces_45 : decode cX5_areAllPlaces 45 = .ok (.if_icmp .ge 7, 3) := by decide +kernel
theorem dX5_areAllPlaces_48 : decode cX5_areAllPlaces 48 = .ok (.iconst 1, 1) := by decide +kernel
theorem dX5_areAllPlaces_49 : decode cX5_areAllPlaces 49 = .ok (.goto 4, 3) := by decide +kernel
theorem dX5_areAllPlaces_52 : decode cX5_areAllPlaces 52 = .ok (.iconst 0, 1) := by decide +kernel
theorem dX5_areAllPlaces_53 : decode cX5_areAllPlaces 53 = .ok (.istore_n 1, 1) := by decide +kernel
theorem dX5_areAllPlaces_54 : decode cX5_areAllPlaces 54 = .ok (.iinc 2 1, 3) := by decide +kernel
theorem dX5_areAllPlaces_57 : decode cX5_areAllPlaces 57 = .ok (.goto (-53), 3) := by decide +kernel
theorem dX5_areAllPlaces_60 : decode cX5_areAllPlaces 60 = .ok (.iload_n 1, 1) := by decide +kernel
theorem dX5_areAllPlaces_61 : decode cX5_areAllPlaces 61 = .ok (.ireturn, 1) := by decide +kernel
theorem dX5_isHeldAll_0 : decode cX5_isHeldAll 0 = .ok (.aload_n 0, 1) := by decide +kernel
theorem dX5_isHeldAll_1 : decode cX5_isHeldAll 1 = .ok (.aload_n 0, 1) := by decide +kernel
theorem dX5_isHeldAll_2 : decode cX5_isHeldAll 2 = .ok (.invokevirtual 126, 3) := by decide +kernel
theorem dX5_isHeldAll_5 : decode cX5_isHeldAll 5 = .ok (.invokevirtual 129, 3) := by decide +kernel
theorem dX5_isHeldAll_8 : decode cX5_isHeldAll 8 = .ok (.iconst 1, 1) := by decide +kernel
theorem dX5_isHeldAll_9 : decode cX5_isHeldAll 9 = .ok (.istore_n 1, 1) := by decide +kernel
theorem dX5_isHeldAll_10 : decode cX5_isHeldAll 10 = .ok (.iconst 0, 1) := by decide +kernel
theorem dX5_isHeldAll_11 : decode cX5_isHeldAll 11 = .ok (.istore_n 2, 1) := by decide +kernel
theorem dX5_isHeldAll_12 : decode cX5_isHeldAll 12 = .ok (.iload_n 2, 1) := by decide +kernel
theorem dX5_isHeldAll_13 : decode cX5_isHeldAll 13 = .ok (.aload_n 0, 1) := by decide +kernel
theorem dX5_isHeldAll_14 : decode cX5_isHeldAll 14 = .ok (.getfield 7, 3) := by decide +kernel
theorem dX5_isHeldAll_17 : decode cX5_isHeldAll 17 = .ok (.iconst 0, 1) := by decide +kernel
theorem dX5_isHeldAll_18 : decode cX5_isHeldAll 18 = .ok (.iaload, 1) := by decide +kernel
theorem dX5_isHeldAll_19 : decode cX5_isHeldAll 19 = .ok (.if_icmp .ge 27, 3) := by decide +kernel
theorem dX5_isHeldAll_22 : decode cX5_isHeldAll 22 = .ok (.iload_n 1, 1) := by decide +kernel
theorem dX5_isHeldAll_23 : decode cX5_isHeldAll 23 = .ok (.ifCond .eq 15, 3) := by decide +kernel
theorem dX5_isHeldAll_26 : decode cX5_isHeldAll 26 = .ok (.aload_n 0, 1) := by decide +kernel
theorem dX5_isHeldAll_27 : decode cX5_isHeldAll 27 = .ok (.iload_n 2, 1) := by decide +kernel
theorem dX5_isHeldAll_28 : decode cX5_isHeldAll 28 = .ok (.invokevirtual 133, 3) := by decide +kernel
theorem dX5_isHeldAll_31 : decode cX5_isHeldAll 31 = .ok (.ifCond .eq 7, 3) := by decide +kernel
theorem dX5_isHeldAll_34 : decode cX5_isHeldAll 34 = .ok (.iconst 1, 1) := by decide +kernel
theorem dX5_isHeldAll_35 : decode cX5_isHeldAll 35 = .ok (.goto 4, 3) := by decide +kernel
theorem dX5_isHeldAll_38 : decode cX5_isHeldAll 38 = .ok (.iconst 0, 1) := by decide +kernel
theorem dX5_isHeldAll_39 : decode cX5_isHeldAll 39 = .ok (.istore_n 1, 1) := by decide +kernel
theorem dX5_isHeldAll_40 : decode cX5_isHeldAll 40 = .ok (.iinc 2 1, 3) := by decide +kernel
theorem dX5_isHeldAll_43 : decode cX5_isHeldAll 43 = .ok (.goto (-31), 3) := by decide +kernel
theorem dX5_isHeldAll_46 : decode cX5_isHeldAll 46 = .ok (.iload_n 1, 1) := by decide +kernel
theorem dX5_isHeldAll_47 : decode cX5_isHeldAll 47 = .ok (.ireturn, 1) := by decide +kernel
theorem dX5_isSafeNow_0 : decode cX5_isSafeNow 0 = .ok (.aload_n 0, 1) := by decide +kernel
theorem dX5_isSafeNow_1 : decode cX5_isSafeNow 1 = .ok (.aload_n 0, 1) := by decide +kernel
theorem dX5_isSafeNow_2 : decode cX5_isSafeNow 2 = .ok (.invokevirtual 126, 3) := by decide +kernel
theorem dX5_isSafeNow_5 : decode cX5_isSafeNow 5 = .ok (.invokevirtual 136, 3) := by decide +kernel
theorem dX5_isSafeNow_8 : decode cX5_isSafeNow 8 = .ok (.aload_n 0, 1) := by decide +kernel
theorem dX5_isSafeNow_9 : decode cX5_isSafeNow 9 = .ok (.getfield 38, 3) := by decide +kernel
theorem dX5_isSafeNow_12 : decode cX5_isSafeNow 12 = .ok (.aload_n 0, 1) := by decide +kernel
theorem dX5_isSafeNow_13 : decode cX5_isSafeNow 13 = .ok (.invokevirtual 126, 3) := by decide +kernel
theorem dX5_isSafeNow_16 : decode cX5_isSafeNow 16 = .ok (.baload, 1) := by decide +kernel
theorem dX5_isSafeNow_17 : decode cX5_isSafeNow 17 = .ok (.ireturn, 1) := by decide +kernel
theorem dX5_text_0 : decode cX5_text 0 = .ok (.iconst 0, 1) := by decide +kernel
theorem dX5_text_1 : decode cX5_text 1 = .ok (.istore_n 1, 1) := by decide +kernel
theorem dX5_text_2 : decode cX5_text 2 = .ok (.aload_n 0, 1) := by decide +kernel
theorem dX5_text_3 : decode cX5_text 3 = .ok (.iconst 0, 1) := by decide +kernel
theorem dX5_text_4 : decode cX5_text 4 = .ok (.putfield 63, 3) := by decide +kernel
theorem dX5_text_7 : decode cX5_text 7 = .ok (.aload_n 0, 1) := by decide +kernel
theorem dX5_text_8 : decode cX5_text 8 = .ok (.iconst 0, 1) := by decide +kernel
theorem dX5_text_9 : decode cX5_text 9 = .ok (.putfield 75, 3) := by decide +kernel
theorem dX5_text_12 : decode cX5_text 12 = .ok (.iconst 0, 1) := by decide +kernel
theorem dX5_text_13 : decode cX5_text 13 = .ok (.istore_n 2, 1) := by decide +kernel
theorem dX5_text_14 : decode cX5_text 14 = .ok (.iload_n 2, 1) := by decide +kernel
theorem dX5_text_15 : decode cX5_text 15 = .ok (.sipush 238, 3) := by decide +kernel
theorem dX5_text_18 : decode cX5_text 18 = .ok (.if_icmp .ge 16, 3) := by decide +kernel
theorem dX5_text_21 : decode cX5_text 21 = .ok (.aload_n 0, 1) := by decide +kernel
theorem dX5_text_22 : decode cX5_text 22 = .ok (.getfield 13, 3) := by decide +kernel
theorem dX5_text_25 : decode cX5_text 25 = .ok (.iload_n 2, 1) := by decide +kernel
theorem dX5_text_26 : decode cX5_text 26 = .ok (.iconst 0, 1) := by decide +kernel
theorem dX5_text_27 : decode cX5_text 27 = .ok (.iastore, 1) := by decide +kernel
theorem dX5_text_28 : decode cX5_text 28 = .ok (.iinc 2 1, 3) := by decide +kernel
theorem dX5_text_31 : decode cX5_text 31 = .ok (.goto (-17), 3) := by decide +kernel
theorem dX5_text_34 : decode cX5_text 34 = .ok (.aload_n 0, 1) := by decide +kernel
theorem dX5_text_35 : decode cX5_text 35 = .ok (.invokevirtual 101, 3) := by decide +kernel
theorem dX5_text_38 : decode cX5_text 38 = .ok (.aload_n 0, 1) := by decide +kernel
theorem dX5_text_39 : decode cX5_text 39 = .ok (.getfield 63, 3) := by decide +kernel
theorem dX5_text_42 : decode cX5_text 42 = .ok (.ifCond .ne 20, 3) := by decide +kernel
theorem dX5_text_45 : decode cX5_text 45 = .ok (.aload_n 0, 1) := by decide +kernel
theorem dX5_text_46 : decode cX5_text 46 = .ok (.getfield 72, 3) := by decide +kernel
theorem dX5_text_49 : decode cX5_text 49 = .ok (.ifCond .eq 13, 3) := by decide +kernel
theorem dX5_text_52 : decode cX5_text 52 = .ok (.aload_n 0, 1) := by decide +kernel
theorem dX5_text_53 : decode cX5_text 53 = .ok (.invokevirtual 139, 3) := by decide +kernel
theorem dX5_text_56 : decode cX5_text 56 = .ok (.iinc 1 1, 3) := by decide +kernel
theorem dX5_text_59 : decode cX5_text 59 = .ok (.goto (-21), 3) := by decide +kernel
theorem dX5_text_62 : decode cX5_text 62 = .ok (.aload_n 0, 1) := by decide +kernel
theorem dX5_text_63 : decode cX5_text 63 = .ok (.getfield 63, 3) := by decide +kernel
theorem dX5_text_66 : decode cX5_text 66 = .ok (.ifCond .ne 105, 3) := by decide +kernel
theorem dX5_text_69 : decode cX5_text 69 = .ok (.aload_n 0, 1) := by decide +kernel
theorem dX5_text_70 : decode cX5_text 70 = .ok (.invokevirtual 142, 3) := by decide +kernel
theorem dX5_text_73 : decode cX5_text 73 = .ok (.iconst 0, 1) := by decide +kernel
theorem dX5_text_74 : decode cX5_text 74 = .ok (.istore_n 2, 1) := by decide +kernel
theorem dX5_text_75 : decode cX5_text 75 = .ok (.iload_n 2, 1) := by decide +kernel
theorem dX5_text_76 : decode cX5_text 76 = .ok (.sipush 238, 3) := by decide +kernel
theorem dX5_text_79 : decode cX5_text 79 = .ok (.if_icmp .ge 21, 3) := by decide +kernel
theorem dX5_text_82 : decode cX5_text 82 = .ok (.aload_n 0, 1) := by decide +kernel
theorem dX5_text_83 : decode cX5_text 83 = .ok (.getfield 7, 3) := by decide +kernel
theorem dX5_text_86 : decode cX5_text 86 = .ok (.iload_n 2, 1) := by decide +kernel
theorem dX5_text_87 : decode cX5_text 87 = .ok (.aload_n 0, 1) := by decide +kernel
theorem dX5_text_88 : decode cX5_text 88 = .ok (.getfield 13, 3) := by decide +kernel
theorem dX5_text_91 : decode cX5_text 91 = .ok (.iload_n 2, 1) := by decide +kernel
theorem dX5_text_92 : decode cX5_text 92 = .ok (.iaload, 1) := by decide +kernel
theorem dX5_text_93 : decode cX5_text 93 = .ok (.iastore, 1) := by decide +kernel
theorem dX5_text_94 : decode cX5_text 94 = .ok (.iinc 2 1, 3) := by decide +kernel
theorem dX5_text_97 : decode cX5_text 97 = .ok (.goto (-22), 3) := by decide +kernel
theorem dX5_text_100 : decode cX5_text 100 = .ok (.aload_n 0, 1) := by decide +kernel
theorem dX5_text_101 : decode cX5_text 101 = .ok (.aload_n 0, 1) := by decide +kernel
theorem dX5_text_102 : decode cX5_text 102 = .ok (.invokevirtual 145, 3) := by decide +kernel
theorem dX5_text_105 : decode cX5_text 105 = .ok (.bipush 6, 2) := by decide +kernel
theorem dX5_text_107 : decode cX5_text 107 = .ok (.invokevirtual 97, 3) := by decide +kernel
theorem dX5_text_110 : decode cX5_text 110 = .ok (.aload_n 0, 1) := by decide +kernel
theorem dX5_text_111 : decode cX5_text 111 = .ok (.aload_n 0, 1) := by decide +kernel
theorem dX5_text_112 : decode cX5_text 112 = .ok (.getfield 63, 3) := by decide +kernel
theorem dX5_text_115 : decode cX5_text 115 = .ok (.ifCond .gt 10, 3) := by decide +kernel
theorem dX5_text_118 : decode cX5_text 118 = .ok (.aload_n 0, 1) := by decide +kernel
theorem dX5_text_119 : decode cX5_text 119 = .ok (.invokevirtual 149, 3) := by decide +kernel
theorem dX5_text_122 : decode cX5_text 122 = .ok (.ifCond .eq 7, 3) := by decide +kernel
theorem dX5_text_125 : decode cX5_text 125 = .ok (.iconst 1, 1) := by decide +kernel
theorem dX5_text_126 : decode cX5_text 126 = .ok (.goto 4, 3) := by decide +kernel
theorem dX5_text_129 : decode cX5_text 129 = .ok (.iconst 0, 1) := by decide +kernel
theorem dX5_text_130 : decode cX5_text 130 = .ok (.bipush 7, 2) := by decide +kernel
theorem dX5_text_132 : decode cX5_text 132 = .ok (.invokevirtual 97, 3) := by decide +kernel
theorem dX5_text_135 : decode cX5_text 135 = .ok (.aload_n 0, 1) := by decide +kernel
theorem dX5_text_136 : decode cX5_text 136 = .ok (.aload_n 0, 1) := by decide +kernel
theorem dX5_text_137 : decode cX5_text 137 = .ok (.getfield 63, 3) := by decide +kernel
theorem dX5_text_140 : decode cX5_text 140 = .ok (.ifCond .gt 10, 3) := by decide +kernel
theorem dX5_text_143 : decode cX5_text 143 = .ok (.aload_n 0, 1) := by decide +kernel
theorem dX5_text_144 : decode cX5_text 144 = .ok (.invokevirtual 152, 3) := by decide +kernel
theorem dX5_text_147 : decode cX5_text 147 = .ok (.ifCond .eq 7, 3) := by decide +kernel
theorem dX5_text_150 : decode cX5_text 150 = .ok (.iconst 1, 1) := by decide +kernel
theorem dX5_text_151 : decode cX5_text 151 = .ok (.goto 4, 3) := by decide +kernel
theorem dX5_text_154 : decode cX5_text 154 = .ok (.iconst 0, 1) := by decide +kernel
theorem dX5_text_155 : decode cX5_text 155 = .ok (.bipush 8, 2) := by decide +kernel
theorem dX5_text_157 : decode cX5_text 157 = .ok (.invokevirtual 97, 3) := by decide +kernel
theorem dX5_text_160 : decode cX5_text 160 = .ok (.aload_n 0, 1) := by decide +kernel
theorem dX5_text_161 : decode cX5_text 161 = .ok (.getfield 63, 3) := by decide +kernel
theorem dX5_text_164 : decode cX5_text 164 = .ok (.ifCond .le 7, 3) := by decide +kernel
theorem dX5_text_167 : decode cX5_text 167 = .ok (.aload_n 0, 1) := by decide +kernel
theorem dX5_text_168 : decode cX5_text 168 = .ok (.invokevirtual 155, 3) := by decide +kernel
theorem dX5_text_171 : decode cX5_text 171 = .ok (.aload_n 0, 1) := by decide +kernel
theorem dX5_text_172 : decode cX5_text 172 = .ok (.iconst 0, 1) := by decide +kernel
theorem dX5_text_173 : decode cX5_text 173 = .ok (.putfield 59, 3) := by decide +kernel
theorem dX5_text_176 : decode cX5_text 176 = .ok (.aload_n 0, 1) := by decide +kernel
theorem dX5_text_177 : decode cX5_text 177 = .ok (.getfield 63, 3) := by decide +kernel
theorem dX5_text_180 : decode cX5_text 180 = .ok (.ifCond .le 11, 3) := by decide +kernel
theorem dX5_text_183 : decode cX5_text 183 = .ok (.bipush (-10), 2) := by decide +kernel
theorem dX5_text_185 : decode cX5_text 185 = .ok (.aload_n 0, 1) := by decide +kernel
theorem dX5_text_186 : decode cX5_text 186 = .ok (.getfield 69, 3) := by decide +kernel
theorem dX5_text_189 : decode cX5_text 189 = .ok (.isub, 1) := by decide +kernel
theorem dX5_text_190 : decode cX5_text 190 = .ok (.ireturn, 1) := by decide +kernel
theorem dX5_text_191 : decode cX5_text 191 = .ok (.aload_n 0, 1) := by decide +kernel
theorem dX5_text_192 : decode cX5_text 192 = .ok (.getfield 22, 3) := by decide +kernel
theorem dX5_text_195 : decode cX5_text 195 = .ok (.iconst 0, 1) := by decide +kernel
theorem dX5_text_196 : decode cX5_text 196 = .ok (.iconst 0, 1) := by decide +kernel
theorem dX5_text_197 : decode cX5_text 197 = .ok (.bastore, 1) := by decide +kernel
theorem dX5_text_198 : decode cX5_text 198 = .ok (.aload_n 0, 1) := by decide +kernel
theorem dX5_text_199 : decode cX5_text 199 = .ok (.getfield 22, 3) := by decide +kernel
theorem dX5_text_202 : decode cX5_text 202 = .ok (.iconst 1, 1) := by decide +kernel
theorem dX5_text_203 : decode cX5_text 203 = .ok (.iconst 0, 1) := by decide +kernel
theorem dX5_text_204 : decode cX5_text 204 = .ok (.bastore, 1) := by decide +kernel
theorem dX5_text_205 : decode cX5_text 205 = .ok (.iload_n 1, 1) := by decide +kernel
theorem dX5_text_206 : decode cX5_text 206 = .ok (.ireturn, 1) := by decide +kernel
theorem dX5_fault_0 : decode cX5_fault 0 = .ok (.aload_n 0, 1) := by decide +kernel
theorem dX5_fault_1 : decode cX5_fault 1 = .ok (.getfield 63, 3) := by decide +kernel
theorem dX5_fault_4 : decode cX5_fault 4 = .ok (.ireturn, 1) := by decide +kernel
theorem dX5_isPlace_0 : decode cX5_isPlace 0 = .ok (.iload_n 1, 1) := by decide +kernel
theorem dX5_isPlace_1 : decode cX5_isPlace 1 = .ok (.i2l, 1) := by decide +kernel
theorem dX5_isPlace_2 : decode cX5_isPlace 2 = .ok (.lconst 0, 1) := by decide +kernel
theorem dX5_isPlace_3 : decode cX5_isPlace 3 = .ok (.aload_n 0, 1) := by decide +kernel
theorem dX5_isPlace_4 : decode cX5_isPlace 4 = .ok (.getfield 7, 3) := by decide +kernel
theorem dX5_isPlace_7 : decode cX5_isPlace 7 = .ok (.iconst 0, 1) := by decide +kernel
theorem dX5_isPlace_8 : decode cX5_isPlace 8 = .ok (.iaload, 1) := by decide +kernel
theorem dX5_isPlace_9 : decode cX5_isPlace 9 = .ok (.iconst 1, 1) := by decide +kernel
theorem dX5_isPlace_10 : decode cX5_isPlace 10 = .ok (.isub, 1) := by decide +kernel
theorem dX5_isPlace_11 : decode cX5_isPlace 11 = .ok (.i2l, 1) := by decide +kernel
theorem dX5_isPlace_12 : decode cX5_isPlace 12 = .ok (.invokestatic 55, 3) := by decide +kernel
theorem dX5_isPlace_15 : decode cX5_isPlace 15 = .ok (.ireturn, 1) := by decide +kernel
theorem dX5_isTrain_0 : decode cX5_isTrain 0 = .ok (.iload_n 1, 1) := by decide +kernel
theorem dX5_isTrain_1 : decode cX5_isTrain 1 = .ok (.i2l, 1) := by decide +kernel
theorem dX5_isTrain_2 : decode cX5_isTrain 2 = .ok (.lconst 0, 1) := by decide +kernel
theorem dX5_isTrain_3 : decode cX5_isTrain 3 = .ok (.aload_n 0, 1) := by decide +kernel
theorem dX5_isTrain_4 : decode cX5_isTrain 4 = .ok (.getfield 7, 3) := by decide +kernel
theorem dX5_isTrain_7 : decode cX5_isTrain 7 = .ok (.iconst 1, 1) := by decide +kernel
theorem dX5_isTrain_8 : decode cX5_isTrain 8 = .ok (.iaload, 1) := by decide +kernel
theorem dX5_isTrain_9 : decode cX5_isTrain 9 = .ok (.iconst 1, 1) := by decide +kernel
theorem dX5_isTrain_10 : decode cX5_isTrain 10 = .ok (.isub, 1) := by decide +kernel
theorem dX5_isTrain_11 : decode cX5_isTrain 11 = .ok (.i2l, 1) := by decide +kernel
theorem dX5_isTrain_12 : decode cX5_isTrain 12 = .ok (.invokestatic 55, 3) := by decide +kernel
theorem dX5_isTrain_15 : decode cX5_isTrain 15 = .ok (.ireturn, 1) := by decide +kernel
theorem dX5_ofTrain_0 : decode cX5_ofTrain 0 = .ok (.aload_n 0, 1) := by decide +kernel
theorem dX5_ofTrain_1 : decode cX5_ofTrain 1 = .ok (.getfield 7, 3) := by decide +kernel
theorem dX5_ofTrain_4 : decode cX5_ofTrain 4 = .ok (.bipush 34, 2) := by decide +kernel
theorem dX5_ofTrain_6 : decode cX5_ofTrain 6 = .ok (.bipush 6, 2) := by decide +kernel
theorem dX5_ofTrain_8 : decode cX5_ofTrain 8 = .ok (.iload_n 1, 1) := by decide +kernel
theorem dX5_ofTrain_9 : decode cX5_ofTrain 9 = .ok (.imul, 1) := by decide +kernel
theorem dX5_ofTrain_10 : decode cX5_ofTrain 10 = .ok (.iadd, 1) := by decide +kernel
theorem dX5_ofTrain_11 : decode cX5_ofTrain 11 = .ok (.iload_n 2, 1) := by decide +kernel
theorem dX5_ofTrain_12 : decode cX5_ofTrain 12 = .ok (.iadd, 1) := by decide +kernel
theorem dX5_ofTrain_13 : decode cX5_ofTrain 13 = .ok (.iaload, 1) := by decide +kernel
theorem dX5_ofTrain_14 : decode cX5_ofTrain 14 = .ok (.ireturn, 1) := by decide +kernel
theorem dX5_ofPlace_0 : decode cX5_ofPlace 0 = .ok (.aload_n 0, 1) := by decide +kernel
theorem dX5_ofPlace_1 : decode cX5_ofPlace 1 = .ok (.getfield 7, 3) := by decide +kernel
theorem dX5_ofPlace_4 : decode cX5_ofPlace 4 = .ok (.iconst 4, 1) := by decide +kernel
theorem dX5_ofPlace_5 : decode cX5_ofPlace 5 = .ok (.iconst 5, 1) := by decide +kernel
theorem dX5_ofPlace_6 : decode cX5_ofPlace 6 = .ok (.iload_n 1, 1) := by decide +kernel
theorem dX5_ofPlace_7 : decode cX5_ofPlace 7 = .ok (.imul, 1) := by decide +kernel
theorem dX5_ofPlace_8 : decode cX5_ofPlace 8 = .ok (.iadd, 1) := by decide +kernel
theorem dX5_ofPlace_9 : decode cX5_ofPlace 9 = .ok (.iload_n 2, 1) := by decide +kernel
theorem dX5_ofPlace_10 : decode cX5_ofPlace 10 = .ok (.iadd, 1) := by decide +kernel
theorem dX5_ofPlace_11 : decode cX5_ofPlace 11 = .ok (.iaload, 1) := by decide +kernel
theorem dX5_ofPlace_12 : decode cX5_ofPlace 12 = .ok (.ireturn, 1) := by decide +kernel
theorem dX5_nextFrom_0 : decode cX5_nextFrom 0 = .ok (.aload_n 0, 1) := by decide +kernel
theorem dX5_nextFrom_1 : decode cX5_nextFrom 1 = .ok (.iload_n 1, 1) := by decide +kernel
theorem dX5_nextFrom_2 : decode cX5_nextFrom 2 = .ok (.iconst 1, 1) := by decide +kernel
theorem dX5_nextFrom_3 : decode cX5_nextFrom 3 = .ok (.invokevirtual 122, 3) := by decide +kernel
theorem dX5_nextFrom_6 : decode cX5_nextFrom 6 = .ok (.aload_n 0, 1) := by decide +kernel
theorem dX5_nextFrom_7 : decode cX5_nextFrom 7 = .ok (.iload_n 1, 1) := by decide +kernel
theorem dX5_nextFrom_8 : decode cX5_nextFrom 8 = .ok (.iconst 0, 1) := by decide +kernel
theorem dX5_nextFrom_9 : decode cX5_nextFrom 9 = .ok (.invokevirtual 122, 3) := by decide +kernel
theorem dX5_nextFrom_12 : decode cX5_nextFrom 12 = .ok (.if_icmp .le 9, 3) := by decide +kernel
theorem dX5_nextFrom_15 : decode cX5_nextFrom 15 = .ok (.iload_n 2, 1) := by decide +kernel
theorem dX5_nextFrom_16 : decode cX5_nextFrom 16 = .ok (.iconst 1, 1) := by decide +kernel
theorem dX5_nextFrom_17 : decode cX5_nextFrom 17 = .ok (.iadd, 1) := by decide +kernel
theorem dX5_nextFrom_18 : decode cX5_nextFrom 18 = .ok (.goto 6, 3) := by decide +kernel
theorem dX5_nextFrom_21 : decode cX5_nextFrom 21 = .ok (.iload_n 2, 1) := by decide +kernel
theorem dX5_nextFrom_22 : decode cX5_nextFrom 22 = .ok (.iconst 1, 1) := by decide +kernel
theorem dX5_nextFrom_23 : decode cX5_nextFrom 23 = .ok (.isub, 1) := by decide +kernel
theorem dX5_nextFrom_24 : decode cX5_nextFrom 24 = .ok (.ireturn, 1) := by decide +kernel
theorem dX5_isDoneIn_0 : decode cX5_isDoneIn 0 = .ok (.aload_n 0, 1) := by decide +kernel
theorem dX5_isDoneIn_1 : decode cX5_isDoneIn 1 = .ok (.iload_n 1, 1) := by decide +kernel
theorem dX5_isDoneIn_2 : decode cX5_isDoneIn 2 = .ok (.iconst 4, 1) := by decide +kernel
theorem dX5_isDoneIn_3 : decode cX5_isDoneIn 3 = .ok (.invokevirtual 122, 3) := by decide +kernel
theorem dX5_isDoneIn_6 : decode cX5_isDoneIn 6 = .ok (.iconst 2, 1) := by decide +kernel
theorem dX5_isDoneIn_7 : decode cX5_isDoneIn 7 = .ok (.if_icmp .eq 28, 3) := by decide +kernel
theorem dX5_isDoneIn_10 : decode cX5_isDoneIn 10 = .ok (.aload_n 0, 1) := by decide +kernel
theorem dX5_isDoneIn_11 : decode cX5_isDoneIn 11 = .ok (.iload_n 1, 1) := by decide +kernel
theorem dX5_isDoneIn_12 : decode cX5_isDoneIn 12 = .ok (.iconst 4, 1) := by decide +kernel
theorem dX5_isDoneIn_13 : decode cX5_isDoneIn 13 = .ok (.invokevirtual 122, 3) := by decide +kernel
theorem dX5_isDoneIn_16 : decode cX5_isDoneIn 16 = .ok (.iconst 1, 1) := by decide +kernel
theorem dX5_isDoneIn_17 : decode cX5_isDoneIn 17 = .ok (.if_icmp .ne 22, 3) := by decide +kernel
theorem dX5_isDoneIn_20 : decode cX5_isDoneIn 20 = .ok (.aload_n 0, 1) := by decide +kernel
theorem dX5_isDoneIn_21 : decode cX5_isDoneIn 21 = .ok (.iload_n 1, 1) := by decide +kernel
theorem dX5_isDoneIn_22 : decode cX5_isDoneIn 22 = .ok (.iconst 3, 1) := by decide +kernel
theorem dX5_isDoneIn_23 : decode cX5_isDoneIn 23 = .ok (.invokevirtual 122, 3) := by decide +kernel
theorem dX5_isDoneIn_26 : decode cX5_isDoneIn 26 = .ok (.aload_n 0, 1) := by decide +kernel
theorem dX5_isDoneIn_27 : decode cX5_isDoneIn 27 = .ok (.iload_n 1, 1) := by decide +kernel
theorem dX5_isDoneIn_28 : decode cX5_isDoneIn 28 = .ok (.iconst 1, 1) := by decide +kernel
theorem dX5_isDoneIn_29 : decode cX5_isDoneIn 29 = .ok (.invokevirtual 122, 3) := by decide +kernel
theorem dX5_isDoneIn_32 : decode cX5_isDoneIn 32 = .ok (.if_icmp .ne 7, 3) := by decide +kernel
theorem dX5_isDoneIn_35 : decode cX5_isDoneIn 35 = .ok (.iconst 1, 1) := by decide +kernel
theorem dX5_isDoneIn_36 : decode cX5_isDoneIn 36 = .ok (.goto 4, 3) := by decide +kernel
theorem dX5_isDoneIn_39 : decode cX5_isDoneIn 39 = .ok (.iconst 0, 1) := by decide +kernel
theorem dX5_isDoneIn_40 : decode cX5_isDoneIn 40 = .ok (.ireturn, 1) := by decide +kernel
theorem dX5_minutesOf_0 : decode cX5_minutesOf 0 = .ok (.aload_n 0, 1) := by decide +kernel
theorem dX5_minutesOf_1 : decode cX5_minutesOf 1 = .ok (.iload_n 1, 1) := by decide +kernel
theorem dX5_minutesOf_2 : decode cX5_minutesOf 2 = .ok (.iload_n 2, 1) := by decide +kernel
theorem dX5_minutesOf_3 : decode cX5_minutesOf 3 = .ok (.if_icmp .ge 7, 3) := by decide +kernel
theorem dX5_minutesOf_6 : decode cX5_minutesOf 6 = .ok (.iload_n 1, 1) := by decide +kernel
theorem dX5_minutesOf_7 : decode cX5_minutesOf 7 = .ok (.goto 4, 3) := by decide +kernel
theorem dX5_minutesOf_10 : decode cX5_minutesOf 10 = .ok (.iload_n 2, 1) := by decide +kernel
theorem dX5_minutesOf_11 : decode cX5_minutesOf 11 = .ok (.iconst 4, 1) := by decide +kernel
theorem dX5_minutesOf_12 : decode cX5_minutesOf 12 = .ok (.invokevirtual 158, 3) := by decide +kernel
theorem dX5_minutesOf_15 : decode cX5_minutesOf 15 = .ok (.ireturn, 1) := by decide +kernel
theorem dX5_minutesStill_0 : decode cX5_minutesStill 0 = .ok (.iconst 0, 1) := by decide +kernel
theorem dX5_minutesStill_1 : decode cX5_minutesStill 1 = .ok (.istore_n 2, 1) := by decide +kernel
theorem dX5_minutesStill_2 : decode cX5_minutesStill 2 = .ok (.aload_n 0, 1) := by decide +kernel
theorem dX5_minutesStill_3 : decode cX5_minutesStill 3 = .ok (.iload_n 1, 1) := by decide +kernel
theorem dX5_minutesStill_4 : decode cX5_minutesStill 4 = .ok (.iconst 3, 1) := by decide +kernel
theorem dX5_minutesStill_5 : decode cX5_minutesStill 5 = .ok (.invokevirtual 122, 3) := by decide +kernel
theorem dX5_minutesStill_8 : decode cX5_minutesStill 8 = .ok (.istore_n 3, 1) := by decide +kernel
theorem dX5_minutesStill_9 : decode cX5_minutesStill 9 = .ok (.iconst 0, 1) := by decide +kernel
theorem dX5_minutesStill_10 : decode cX5_minutesStill 10 = .ok (.istore 4, 2) := by decide +kernel
theorem dX5_minutesStill_12 : decode cX5_minutesStill 12 = .ok (.iload 4, 2) := by decide +kernel
theorem dX5_minutesStill_14 : decode cX5_minutesStill 14 = .ok (.bipush 6, 2) := by decide +kernel
theorem dX5_minutesStill_16 : decode cX5_minutesStill 16 = .ok (.if_icmp .ge 50, 3) := by decide +kernel
theorem dX5_minutesStill_19 : decode cX5_minutesStill 19 = .ok (.aload_n 0, 1) := by decide +kernel
theorem dX5_minutesStill_20 : decode cX5_minutesStill 20 = .ok (.iload_n 1, 1) := by decide +kernel
theorem dX5_minutesStill_21 : decode cX5_minutesStill 21 = .ok (.iconst 4, 1) := by decide +kernel
theorem dX5_minutesStill_22 : decode cX5_minutesStill 22 = .ok (.invokevirtual 122, 3) := by decide +kernel
theorem dX5_minutesStill_25 : decode cX5_minutesStill 25 = .ok (.iconst 2, 1) := by decide +kernel
theorem dX5_minutesStill_26 : decode cX5_minutesStill 26 = .ok (.if_icmp .eq 40, 3) := by decide +kernel
theorem dX5_minutesStill_29 : decode cX5_minutesStill 29 = .ok (.iload_n 3, 1) := by decide +kernel
theorem dX5_minutesStill_30 : decode cX5_minutesStill 30 = .ok (.aload_n 0, 1) := by decide +kernel
theorem dX5_minutesStill_31 : decode cX5_minutesStill 31 = .ok (.iload_n 1, 1) := by decide +kernel
theorem dX5_minutesStill_32 : decode cX5_minutesStill 32 = .ok (.iconst 1, 1) := by decide +kernel
theorem dX5_minutesStill_33 : decode cX5_minutesStill 33 = .ok (.invokevirtual 122, 3) := by decide +kernel
theorem dX5_minutesStill_36 : decode cX5_minutesStill 36 = .ok (.if_icmp .eq 30, 3) := by decide +kernel
theorem dX5_minutesStill_39 : decode cX5_minutesStill 39 = .ok (.aload_n 0, 1) := by decide +kernel
theorem dX5_minutesStill_40 : decode cX5_minutesStill 40 = .ok (.iload_n 1, 1) := by decide +kernel
theorem dX5_minutesStill_41 : decode cX5_minutesStill 41 = .ok (.iload_n 3, 1) := by decide +kernel
theorem dX5_minutesStill_42 : decode cX5_minutesStill 42 = .ok (.invokevirtual 161, 3) := by decide +kernel
theorem dX5_minutesStill_45 : decode cX5_minutesStill 45 = .ok (.istore 5, 2) := by decide +kernel
theorem dX5_minutesStill_47 : decode cX5_minutesStill 47 = .ok (.iload_n 2, 1) := by decide +kernel
theorem dX5_minutesStill_48 : decode cX5_minutesStill 48 = .ok (.aload_n 0, 1) := by decide +kernel
theorem dX5_minutesStill_49 : decode cX5_minutesStill 49 = .ok (.iload_n 3, 1) := by decide +kernel
theorem dX5_minutesStill_50 : decode cX5_minutesStill 50 = .ok (.iload 5, 2) := by decide +kernel
theorem dX5_minutesStill_52 : decode cX5_minutesStill 52 = .ok (.invokevirtual 164, 3) := by decide +kernel
theorem dX5_minutesStill_55 : decode cX5_minutesStill 55 = .ok (.iadd, 1) := by decide +kernel
theorem dX5_minutesStill_56 : decode cX5_minutesStill 56 = .ok (.istore_n 2, 1) := by decide +kernel
theorem dX5_minutesStill_57 : decode cX5_minutesStill 57 = .ok (.iload 5, 2) := by decide +kernel
theorem dX5_minutesStill_59 : decode cX5_minutesStill 59 = .ok (.istore_n 3, 1) := by decide +kernel
theorem dX5_minutesStill_60 : decode cX5_minutesStill 60 = .ok (.iinc 4 1, 3) := by decide +kernel
theorem dX5_minutesStill_63 : decode cX5_minutesStill 63 = .ok (.goto (-51), 3) := by decide +kernel
theorem dX5_minutesStill_66 : decode cX5_minutesStill 66 = .ok (.iload_n 2, 1) := by decide +kernel
theorem dX5_minutesStill_67 : decode cX5_minutesStill 67 = .ok (.ireturn, 1) := by decide +kernel
theorem dX5_withStatus_0 : decode cX5_withStatus 0 = .ok (.iconst 0, 1) := by decide +kernel
theorem dX5_withStatus_1 : decode cX5_withStatus 1 = .ok (.istore_n 2, 1) := by decide +kernel
theorem dX5_withStatus_2 : decode cX5_withStatus 2 = .ok (.iconst 0, 1) := by decide +kernel
theorem dX5_withStatus_3 : decode cX5_withStatus 3 = .ok (.istore_n 3, 1) := by decide +kernel
theorem dX5_withStatus_4 : decode cX5_withStatus 4 = .ok (.iload_n 3, 1) := by decide +kernel
theorem dX5_withStatus_5 : decode cX5_withStatus 5 = .ok (.aload_n 0, 1) := by decide +kernel
theorem dX5_withStatus_6 : decode cX5_withStatus 6 = .ok (.getfield 7, 3) := by decide +kernel
theorem dX5_withStatus_9 : decode cX5_withStatus 9 = .ok (.iconst 1, 1) := by decide +kernel
theorem dX5_withStatus_10 : decode cX5_withStatus 10 = .ok (.iaload, 1) := by decide +kernel
theorem dX5_withStatus_11 : decode cX5_withStatus 11 = .ok (.if_icmp .ge 30, 3) := by decide +kernel
theorem dX5_withStatus_14 : decode cX5_withStatus 14 = .ok (.iload_n 2, 1) := by decide +kernel
theorem dX5_withStatus_15 : decode cX5_withStatus 15 = .ok (.aload_n 0, 1) := by decide +kernel
theorem dX5_withStatus_16 : decode cX5_withStatus 16 = .ok (.iload_n 3, 1) := by decide +kernel
theorem dX5_withStatus_17 : decode cX5_withStatus 17 = .ok (.iconst 4, 1) := by decide +kernel
theorem dX5_withStatus_18 : decode cX5_withStatus 18 = .ok (.invokevirtual 122, 3) := by decide +kernel
theorem dX5_withStatus_21 : decode cX5_withStatus 21 = .ok (.iload_n 1, 1) := by decide +kernel
theorem dX5_withStatus_22 : decode cX5_withStatus 22 = .ok (.if_icmp .ne 7, 3) := by decide +kernel
theorem dX5_withStatus_25 : decode cX5_withStatus 25 = .ok (.iconst 1, 1) := by decide +kernel
theorem dX5_withStatus_26 : decode cX5_withStatus 26 = .ok (.goto 4, 3) := by decide +kernel
theorem dX5_withStatus_29 : decode cX5_withStatus 29 = .ok (.iconst 0, 1) := by decide +kernel
theorem dX5_withStatus_30 : decode cX5_withStatus 30 = .ok (.invokestatic 167, 3) := by decide +kernel
theorem dX5_withStatus_33 : decode cX5_withStatus 33 = .ok (.iadd, 1) := by decide +kernel
theorem dX5_withStatus_34 : decode cX5_withStatus 34 = .ok (.istore_n 2, 1) := by decide +kernel
theorem dX5_withStatus_35 : decode cX5_withStatus 35 = .ok (.iinc 3 1, 3) := by decide +kernel
theorem dX5_withStatus_38 : decode cX5_withStatus 38 = .ok (.goto (-34), 3) := by decide +kernel
theorem dX5_withStatus_41 : decode cX5_withStatus 41 = .ok (.iload_n 2, 1) := by decide +kernel
theorem dX5_withStatus_42 : decode cX5_withStatus 42 = .ok (.ireturn, 1) := by decide +kernel
theorem dX5_movesLeft_0 : decode cX5_movesLeft 0 = .ok (.iconst 0, 1) := by decide +kernel
theorem dX5_movesLeft_1 : decode cX5_movesLeft 1 = .ok (.istore_n 1, 1) := by decide +kernel
theorem dX5_movesLeft_2 : decode cX5_movesLeft 2 = .ok (.iconst 0, 1) := by decide +kernel
theorem dX5_movesLeft_3 : decode cX5_movesLeft 3 = .ok (.istore_n 2, 1) := by decide +kernel
theorem dX5_movesLeft_4 : decode cX5_movesLeft 4 = .ok (.iload_n 2, 1) := by decide +kernel
theorem dX5_movesLeft_5 : decode cX5_movesLeft 5 = .ok (.aload_n 0, 1) := by decide +kernel
theorem dX5_movesLeft_6 : decode cX5_movesLeft 6 = .ok (.getfield 7, 3) := by decide +kernel
theorem dX5_movesLeft_9 : decode cX5_movesLeft 9 = .ok (.iconst 1, 1) := by decide +kernel
theorem dX5_movesLeft_10 : decode cX5_movesLeft 10 = .ok (.iaload, 1) := by decide +kernel
theorem dX5_movesLeft_11 : decode cX5_movesLeft 11 = .ok (.if_icmp .ge 50, 3) := by decide +kernel
theorem dX5_movesLeft_14 : decode cX5_movesLeft 14 = .ok (.aload_n 0, 1) := by decide +kernel
theorem dX5_movesLeft_15 : decode cX5_movesLeft 15 = .ok (.iload_n 2, 1) := by decide +kernel
theorem dX5_movesLeft_16 : decode cX5_movesLeft 16 = .ok (.iconst 1, 1) := by decide +kernel
theorem dX5_movesLeft_17 : decode cX5_movesLeft 17 = .ok (.invokevirtual 122, 3) := by decide +kernel
theorem dX5_movesLeft_20 : decode cX5_movesLeft 20 = .ok (.aload_n 0, 1) := by decide +kernel
theorem dX5_movesLeft_21 : decode cX5_movesLeft 21 = .ok (.iload_n 2, 1) := by decide +kernel
theorem dX5_movesLeft_22 : decode cX5_movesLeft 22 = .ok (.iconst 3, 1) := by decide +kernel
theorem dX5_movesLeft_23 : decode cX5_movesLeft 23 = .ok (.invokevirtual 122, 3) := by decide +kernel
theorem dX5_movesLeft_26 : decode cX5_movesLeft 26 = .ok (.isub, 1) := by decide +kernel
theorem dX5_movesLeft_27 : decode cX5_movesLeft 27 = .ok (.istore_n 3, 1) := by decide +kernel
theorem dX5_movesLeft_28 : decode cX5_movesLeft 28 = .ok (.iload_n 1, 1) := by decide +kernel
theorem dX5_movesLeft_29 : decode cX5_movesLeft 29 = .ok (.aload_n 0, 1) := by decide +kernel
theorem dX5_movesLeft_30 : decode cX5_movesLeft 30 = .ok (.iload_n 2, 1) := by decide +kernel
theorem dX5_movesLeft_31 : decode cX5_movesLeft 31 = .ok (.iconst 4, 1) := by decide +kernel
theorem dX5_movesLeft_32 : decode cX5_movesLeft 32 = .ok (.invokevirtual 122, 3) := by decide +kernel
theorem dX5_movesLeft_35 : decode cX5_movesLeft 35 = .ok (.iconst 2, 1) := by decide +kernel
theorem dX5_movesLeft_36 : decode cX5_movesLeft 36 = .ok (.if_icmp .ne 7, 3) := by decide +kernel
theorem dX5_movesLeft_39 : decode cX5_movesLeft 39 = .ok (.iconst 0, 1) := by decide +kernel
theorem dX5_movesLeft_40 : decode cX5_movesLeft 40 = .ok (.goto 13, 3) := by decide +kernel
theorem dX5_movesLeft_43 : decode cX5_movesLeft 43 = .ok (.iload_n 3, 1) := by decide +kernel
theorem dX5_movesLeft_44 : decode cX5_movesLeft 44 = .ok (.ifCond .ge 8, 3) := by decide +kernel
theorem dX5_movesLeft_47 : decode cX5_movesLeft 47 = .ok (.iload_n 3, 1) := by decide +kernel
theorem dX5_movesLeft_48 : decode cX5_movesLeft 48 = .ok (.ineg, 1) := by decide +kernel
theorem dX5_movesLeft_49 : decode cX5_movesLeft 49 = .ok (.goto 4, 3) := by decide +kernel
theorem dX5_movesLeft_52 : decode cX5_movesLeft 52 = .ok (.iload_n 3, 1) := by decide +kernel
theorem dX5_movesLeft_53 : decode cX5_movesLeft 53 = .ok (.iadd, 1) := by decide +kernel
theorem dX5_movesLeft_54 : decode cX5_movesLeft 54 = .ok (.istore_n 1, 1) := by decide +kernel
theorem dX5_movesLeft_55 : decode cX5_movesLeft 55 = .ok (.iinc 2 1, 3) := by decide +kernel
theorem dX5_movesLeft_58 : decode cX5_movesLeft 58 = .ok (.goto (-54), 3) := by decide +kernel
theorem dX5_movesLeft_61 : decode cX5_movesLeft 61 = .ok (.iload_n 1, 1) := by decide +kernel
theorem dX5_movesLeft_62 : decode cX5_movesLeft 62 = .ok (.ireturn, 1) := by decide +kernel
theorem dX5_weightOf_0 : decode cX5_weightOf 0 = .ok (.iload_n 0, 1) := by decide +kernel
theorem dX5_weightOf_1 : decode cX5_weightOf 1 = .ok (.ifCond .ne 7, 3) := by decide +kernel
theorem dX5_weightOf_4 : decode cX5_weightOf 4 = .ok (.iconst 1, 1) := by decide +kernel
theorem dX5_weightOf_5 : decode cX5_weightOf 5 = .ok (.goto 26, 3) := by decide +kernel
theorem dX5_weightOf_8 : decode cX5_weightOf 8 = .ok (.iload_n 0, 1) := by decide +kernel
theorem dX5_weightOf_9 : decode cX5_weightOf 9 = .ok (.iconst 1, 1) := by decide +kernel
theorem dX5_weightOf_10 : decode cX5_weightOf 10 = .ok (.if_icmp .ne 8, 3) := by decide +kernel
theorem dX5_weightOf_13 : decode cX5_weightOf 13 = .ok (.bipush 7, 2) := by decide +kernel
theorem dX5_weightOf_15 : decode cX5_weightOf 15 = .ok (.goto 16, 3) := by decide +kernel
theorem dX5_weightOf_18 : decode cX5_weightOf 18 = .ok (.iload_n 0, 1) := by decide +kernel
theorem dX5_weightOf_19 : decode cX5_weightOf 19 = .ok (.iconst 2, 1) := by decide +kernel
theorem dX5_weightOf_20 : decode cX5_weightOf 20 = .ok (.if_icmp .ne 8, 3) := by decide +kernel
theorem dX5_weightOf_23 : decode cX5_weightOf 23 = .ok (.bipush 49, 2) := by decide +kernel
theorem dX5_weightOf_25 : decode cX5_weightOf 25 = .ok (.goto 6, 3) := by decide +kernel
theorem dX5_weightOf_28 : decode cX5_weightOf 28 = .ok (.sipush 343, 3) := by decide +kernel
theorem dX5_weightOf_31 : decode cX5_weightOf 31 = .ok (.ireturn, 1) := by decide +kernel
theorem dX5_postureNow_0 : decode cX5_postureNow 0 = .ok (.iconst 0, 1) := by decide +kernel
theorem dX5_postureNow_1 : decode cX5_postureNow 1 = .ok (.istore_n 1, 1) := by decide +kernel
theorem dX5_postureNow_2 : decode cX5_postureNow 2 = .ok (.iconst 0, 1) := by decide +kernel
theorem dX5_postureNow_3 : decode cX5_postureNow 3 = .ok (.istore_n 2, 1) := by decide +kernel
theorem dX5_postureNow_4 : decode cX5_postureNow 4 = .ok (.iload_n 2, 1) := by decide +kernel
theorem dX5_postureNow_5 : decode cX5_postureNow 5 = .ok (.aload_n 0, 1) := by decide +kernel
theorem dX5_postureNow_6 : decode cX5_postureNow 6 = .ok (.getfield 7, 3) := by decide +kernel
theorem dX5_postureNow_9 : decode cX5_postureNow 9 = .ok (.iconst 1, 1) := by decide +kernel
theorem dX5_postureNow_10 : decode cX5_postureNow 10 = .ok (.iaload, 1) := by decide +kernel
theorem dX5_postureNow_11 : decode cX5_postureNow 11 = .ok (.if_icmp .ge 37, 3) := by decide +kernel
theorem dX5_postureNow_14 : decode cX5_postureNow 14 = .ok (.iload_n 1, 1) := by decide +kernel
theorem dX5_postureNow_15 : decode cX5_postureNow 15 = .ok (.aload_n 0, 1) := by decide +kernel
theorem dX5_postureNow_16 : decode cX5_postureNow 16 = .ok (.iload_n 2, 1) := by decide +kernel
theorem dX5_postureNow_17 : decode cX5_postureNow 17 = .ok (.invokevirtual 171, 3) := by decide +kernel
theorem dX5_postureNow_20 : decode cX5_postureNow 20 = .ok (.ifCond .eq 7, 3) := by decide +kernel
theorem dX5_postureNow_23 : decode cX5_postureNow 23 = .ok (.iconst 0, 1) := by decide +kernel
theorem dX5_postureNow_24 : decode cX5_postureNow 24 = .ok (.goto 16, 3) := by decide +kernel
theorem dX5_postureNow_27 : decode cX5_postureNow 27 = .ok (.iload_n 2, 1) := by decide +kernel
theorem dX5_postureNow_28 : decode cX5_postureNow 28 = .ok (.invokestatic 174, 3) := by decide +kernel
theorem dX5_postureNow_31 : decode cX5_postureNow 31 = .ok (.aload_n 0, 1) := by decide +kernel
theorem dX5_postureNow_32 : decode cX5_postureNow 32 = .ok (.iload_n 2, 1) := by decide +kernel
theorem dX5_postureNow_33 : decode cX5_postureNow 33 = .ok (.iconst 3, 1) := by decide +kernel
theorem dX5_postureNow_34 : decode cX5_postureNow 34 = .ok (.invokevirtual 122, 3) := by decide +kernel
theorem dX5_postureNow_37 : decode cX5_postureNow 37 = .ok (.iconst 1, 1) := by decide +kernel
theorem dX5_postureNow_38 : decode cX5_postureNow 38 = .ok (.iadd, 1) := by decide +kernel
theorem dX5_postureNow_39 : decode cX5_postureNow 39 = .ok (.imul, 1) := by decide +kernel
theorem dX5_postureNow_40 : decode cX5_postureNow 40 = .ok (.iadd, 1) := by decide +kernel
theorem dX5_postureNow_41 : decode cX5_postureNow 41 = .ok (.istore_n 1, 1) := by decide +kernel
theorem dX5_postureNow_42 : decode cX5_postureNow 42 = .ok (.iinc 2 1, 3) := by decide +kernel
theorem dX5_postureNow_45 : decode cX5_postureNow 45 = .ok (.goto (-41), 3) := by decide +kernel
theorem dX5_postureNow_48 : decode cX5_postureNow 48 = .ok (.iload_n 1, 1) := by decide +kernel
theorem dX5_postureNow_49 : decode cX5_postureNow 49 = .ok (.ireturn, 1) := by decide +kernel
theorem dX5_decode_0 : decode cX5_decode 0 = .ok (.iconst 0, 1) := by decide +kernel
theorem dX5_decode_1 : decode cX5_decode 1 = .ok (.istore_n 2, 1) := by decide +kernel
theorem dX5_decode_2 : decode cX5_decode 2 = .ok (.iload_n 2, 1) := by decide +kernel
theorem dX5_decode_3 : decode cX5_decode 3 = .ok (.iconst 4, 1) := by decide +kernel
theorem dX5_decode_4 : decode cX5_decode 4 = .ok (.if_icmp .ge 24, 3) := by decide +kernel
theorem dX5_decode_7 : decode cX5_decode 7 = .ok (.aload_n 0, 1) := by decide +kernel
theorem dX5_decode_8 : decode cX5_decode 8 = .ok (.getfield 29, 3) := by decide +kernel
theorem dX5_decode_11 : decode cX5_decode 11 = .ok (.iload_n 2, 1) := by decide +kernel
theorem dX5_decode_12 : decode cX5_decode 12 = .ok (.iload_n 1, 1) := by decide +kernel
theorem dX5_decode_13 : decode cX5_decode 13 = .ok (.iload_n 2, 1) := by decide +kernel
theorem dX5_decode_14 : decode cX5_decode 14 = .ok (.invokestatic 174, 3) := by decide +kernel
theorem dX5_decode_17 : decode cX5_decode 17 = .ok (.idiv, 1) := by decide +kernel
theorem dX5_decode_18 : decode cX5_decode 18 = .ok (.bipush 7, 2) := by decide +kernel
theorem dX5_decode_20 : decode cX5_decode 20 = .ok (.irem, 1) := by decide +kernel
theorem dX5_decode_21 : decode cX5_decode 21 = .ok (.iastore, 1) := by decide +kernel
theorem dX5_decode_22 : decode cX5_decode 22 = .ok (.iinc 2 1, 3) := by decide +kernel
theorem dX5_decode_25 : decode cX5_decode 25 = .ok (.goto (-23), 3) := by decide +kernel
theorem dX5_decode_28 : decode cX5_decode 28 = .ok (.return_, 1) := by decide +kernel
theorem dX5_encode_0 : decode cX5_encode 0 = .ok (.iconst 0, 1) := by decide +kernel
theorem dX5_encode_1 : decode cX5_encode 1 = .ok (.istore_n 1, 1) := by decide +kernel
theorem dX5_encode_2 : decode cX5_encode 2 = .ok (.iconst 0, 1) := by decide +kernel
theorem dX5_encode_3 : decode cX5_encode 3 = .ok (.istore_n 2, 1) := by decide +kernel
theorem dX5_encode_4 : decode cX5_encode 4 = .ok (.iload_n 2, 1) := by decide +kernel
theorem dX5_encode_5 : decode cX5_encode 5 = .ok (.iconst 4, 1) := by decide +kernel
theorem dX5_encode_6 : decode cX5_encode 6 = .ok (.if_icmp .ge 23, 3) := by decide +kernel
theorem dX5_encode_9 : decode cX5_encode 9 = .ok (.iload_n 1, 1) := by decide +kernel
theorem dX5_encode_10 : decode cX5_encode 10 = .ok (.iload_n 2, 1) := by decide +kernel
theorem dX5_encode_11 : decode cX5_encode 11 = .ok (.invokestatic 174, 3) := by decide +kernel
theorem dX5_encode_14 : decode cX5_encode 14 = .ok (.aload_n 0, 1) := by decide +kernel
theorem dX5_encode_15 : decode cX5_encode 15 = .ok (.getfield 29, 3) := by decide +kernel
theorem dX5_encode_18 : decode cX5_encode 18 = .ok (.iload_n 2, 1) := by decide +kernel
theorem dX5_encode_19 : decode cX5_encode 19 = .ok (.iaload, 1) := by decide +kernel
theorem dX5_encode_20 : decode cX5_encode 20 = .ok (.imul, 1) := by decide +kernel
theorem dX5_encode_21 : decode cX5_encode 21 = .ok (.iadd, 1) := by decide +kernel
theorem dX5_encode_22 : decode cX5_encode 22 = .ok (.istore_n 1, 1) := by decide +kernel
theorem dX5_encode_23 : decode cX5_encode 23 = .ok (.iinc 2 1, 3) := by decide +kernel
theorem dX5_encode_26 : decode cX5_encode 26 = .ok (.goto (-22), 3) := by decide +kernel
theorem dX5_encode_29 : decode cX5_encode 29 = .ok (.iload_n 1, 1) := by decide +kernel
theorem dX5_encode_30 : decode cX5_encode 30 = .ok (.ireturn, 1) := by decide +kernel
theorem dX5_tracksFor_0 : decode cX5_tracksFor 0 = .ok (.iconst 0, 1) := by decide +kernel
theorem dX5_tracksFor_1 : decode cX5_tracksFor 1 = .ok (.istore_n 3, 1) := by decide +kernel
theorem dX5_tracksFor_2 : decode cX5_tracksFor 2 = .ok (.iconst 0, 1) := by decide +kernel
theorem dX5_tracksFor_3 : decode cX5_tracksFor 3 = .ok (.istore 4, 2) := by decide +kernel
theorem dX5_tracksFor_5 : decode cX5_tracksFor 5 = .ok (.iload 4, 2) := by decide +kernel
theorem dX5_tracksFor_7 : decode cX5_tracksFor 7 = .ok (.aload_n 0, 1) := by decide +kernel
theorem dX5_tracksFor_8 : decode cX5_tracksFor 8 = .ok (.iload_n 1, 1) := by decide +kernel
theorem dX5_tracksFor_9 : decode cX5_tracksFor 9 = .ok (.iconst 0, 1) := by decide +kernel
theorem dX5_tracksFor_10 : decode cX5_tracksFor 10 = .ok (.invokevirtual 158, 3) := by decide +kernel
theorem dX5_tracksFor_13 : decode cX5_tracksFor 13 = .ok (.if_icmp .ge 33, 3) := by decide +kernel
theorem dX5_tracksFor_16 : decode cX5_tracksFor 16 = .ok (.iload_n 3, 1) := by decide +kernel
theorem dX5_tracksFor_17 : decode cX5_tracksFor 17 = .ok (.aload_n 0, 1) := by decide +kernel
theorem dX5_tracksFor_18 : decode cX5_tracksFor 18 = .ok (.iload_n 1, 1) := by decide +kernel
theorem dX5_tracksFor_19 : decode cX5_tracksFor 19 = .ok (.iconst 1, 1) := by decide +kernel
theorem dX5_tracksFor_20 : decode cX5_tracksFor 20 = .ok (.iload 4, 2) := by decide +kernel
theorem dX5_tracksFor_22 : decode cX5_tracksFor 22 = .ok (.iadd, 1) := by decide +kernel
theorem dX5_tracksFor_23 : decode cX5_tracksFor 23 = .ok (.invokevirtual 158, 3) := by decide +kernel
theorem dX5_tracksFor_26 : decode cX5_tracksFor 26 = .ok (.iload_n 2, 1) := by decide +kernel
theorem dX5_tracksFor_27 : decode cX5_tracksFor 27 = .ok (.if_icmp .lt 7, 3) := by decide +kernel
theorem dX5_tracksFor_30 : decode cX5_tracksFor 30 = .ok (.iconst 1, 1) := by decide +kernel
theorem dX5_tracksFor_31 : decode cX5_tracksFor 31 = .ok (.goto 4, 3) := by decide +kernel
theorem dX5_tracksFor_34 : decode cX5_tracksFor 34 = .ok (.iconst 0, 1) := by decide +kernel
theorem dX5_tracksFor_35 : decode cX5_tracksFor 35 = .ok (.invokestatic 167, 3) := by decide +kernel
theorem dX5_tracksFor_38 : decode cX5_tracksFor 38 = .ok (.iadd, 1) := by decide +kernel
theorem dX5_tracksFor_39 : decode cX5_tracksFor 39 = .ok (.istore_n 3, 1) := by decide +kernel
theorem dX5_tracksFor_40 : decode cX5_tracksFor 40 = .ok (.iinc 4 1, 3) := by decide +kernel
theorem dX5_tracksFor_43 : decode cX5_tracksFor 43 = .ok (.goto (-38), 3) := by decide +kernel
theorem dX5_tracksFor_46 : decode cX5_tracksFor 46 = .ok (.iload_n 3, 1) := by decide +kernel
theorem dX5_tracksFor_47 : decode cX5_tracksFor 47 = .ok (.ireturn, 1) := by decide +kernel
theorem dX5_trainsFor_0 : decode cX5_trainsFor 0 = .ok (.iconst 0, 1) := by decide +kernel
theorem dX5_trainsFor_1 : decode cX5_trainsFor 1 = .ok (.istore_n 3, 1) := by decide +kernel
theorem dX5_trainsFor_2 : decode cX5_trainsFor 2 = .ok (.iconst 0, 1) := by decide +kernel
theorem dX5_trainsFor_3 : decode cX5_trainsFor 3 = .ok (.istore 4, 2) := by decide +kernel
theorem dX5_trainsFor_5 : decode cX5_trainsFor 5 = .ok (.iload 4, 2) := by decide +kernel
theorem dX5_trainsFor_7 : decode cX5_trainsFor 7 = .ok (.aload_n 0, 1) := by decide +kernel
theorem dX5_trainsFor_8 : decode cX5_trainsFor 8 = .ok (.getfield 7, 3) := by decide +kernel
theorem dX5_trainsFor_11 : decode cX5_trainsFor 11 = .ok (.iconst 1, 1) := by decide +kernel
theorem dX5_trainsFor_12 : decode cX5_trainsFor 12 = .ok (.iaload, 1) := by decide +kernel
theorem dX5_trainsFor_13 : decode cX5_trainsFor 13 = .ok (.if_icmp .ge 44, 3) := by decide +kernel
theorem dX5_trainsFor_16 : decode cX5_trainsFor 16 = .ok (.iload_n 3, 1) := by decide +kernel
theorem dX5_trainsFor_17 : decode cX5_trainsFor 17 = .ok (.aload_n 0, 1) := by decide +kernel
theorem dX5_trainsFor_18 : decode cX5_trainsFor 18 = .ok (.getfield 29, 3) := by decide +kernel
theorem dX5_trainsFor_21 : decode cX5_trainsFor 21 = .ok (.iload 4, 2) := by decide +kernel
theorem dX5_trainsFor_23 : decode cX5_trainsFor 23 = .ok (.iaload, 1) := by decide +kernel
theorem dX5_trainsFor_24 : decode cX5_trainsFor 24 = .ok (.iload_n 1, 1) := by decide +kernel
theorem dX5_trainsFor_25 : decode cX5_trainsFor 25 = .ok (.iconst 1, 1) := by decide +kernel
theorem dX5_trainsFor_26 : decode cX5_trainsFor 26 = .ok (.iadd, 1) := by decide +kernel
theorem dX5_trainsFor_27 : decode cX5_trainsFor 27 = .ok (.if_icmp .ne 18, 3) := by decide +kernel
theorem dX5_trainsFor_30 : decode cX5_trainsFor 30 = .ok (.aload_n 0, 1) := by decide +kernel
theorem dX5_trainsFor_31 : decode cX5_trainsFor 31 = .ok (.iload 4, 2) := by decide +kernel
theorem dX5_trainsFor_33 : decode cX5_trainsFor 33 = .ok (.iconst 2, 1) := by decide +kernel
theorem dX5_trainsFor_34 : decode cX5_trainsFor 34 = .ok (.invokevirtual 122, 3) := by decide +kernel
theorem dX5_trainsFor_37 : decode cX5_trainsFor 37 = .ok (.iload_n 2, 1) := by decide +kernel
theorem dX5_trainsFor_38 : decode cX5_trainsFor 38 = .ok (.if_icmp .lt 7, 3) := by decide +kernel
theorem dX5_trainsFor_41 : decode cX5_trainsFor 41 = .ok (.iconst 1, 1) := by decide +kernel
theorem dX5_trainsFor_42 : decode cX5_trainsFor 42 = .ok (.goto 4, 3) := by decide +kernel
theorem dX5_trainsFor_45 : decode cX5_trainsFor 45 = .ok (.iconst 0, 1) := by decide +kernel
theorem dX5_trainsFor_46 : decode cX5_trainsFor 46 = .ok (.invokestatic 167, 3) := by decide +kernel
theorem dX5_trainsFor_49 : decode cX5_trainsFor 49 = .ok (.iadd, 1) := by decide +kernel
theorem dX5_trainsFor_50 : decode cX5_trainsFor 50 = .ok (.istore_n 3, 1) := by decide +kernel
theorem dX5_trainsFor_51 : decode cX5_trainsFor 51 = .ok (.iinc 4 1, 3) := by decide +kernel
theorem dX5_trainsFor_54 : decode cX5_trainsFor 54 = .ok (.goto (-49), 3) := by decide +kernel
theorem dX5_trainsFor_57 : decode cX5_trainsFor 57 = .ok (.iload_n 3, 1) := by decide +kernel
theorem dX5_trainsFor_58 : decode cX5_trainsFor 58 = .ok (.ireturn, 1) := by decide +kernel
theorem dX5_holds_0 : decode cX5_holds 0 = .ok (.iconst 1, 1) := by decide +kernel
theorem dX5_holds_1 : decode cX5_holds 1 = .ok (.istore_n 2, 1) := by decide +kernel
theorem dX5_holds_2 : decode cX5_holds 2 = .ok (.iconst 0, 1) := by decide +kernel
theorem dX5_holds_3 : decode cX5_holds 3 = .ok (.istore_n 3, 1) := by decide +kernel
theorem dX5_holds_4 : decode cX5_holds 4 = .ok (.iload_n 3, 1) := by decide +kernel
theorem dX5_holds_5 : decode cX5_holds 5 = .ok (.aload_n 0, 1) := by decide +kernel
theorem dX5_holds_6 : decode cX5_holds 6 = .ok (.getfield 7, 3) := by decide +kernel
theorem dX5_holds_9 : decode cX5_holds 9 = .ok (.iconst 1, 1) := by decide +kernel
theorem dX5_holds_10 : decode cX5_holds 10 = .ok (.iaload, 1) := by decide +kernel
theorem dX5_holds_11 : decode cX5_holds 11 = .ok (.if_icmp .ge 56, 3) := by decide +kernel
theorem dX5_holds_14 : decode cX5_holds 14 = .ok (.aload_n 0, 1) := by decide +kernel
theorem dX5_holds_15 : decode cX5_holds 15 = .ok (.getfield 29, 3) := by decide +kernel
theorem dX5_holds_18 : decode cX5_holds 18 = .ok (.iload_n 3, 1) := by decide +kernel
theorem dX5_holds_19 : decode cX5_holds 19 = .ok (.iaload, 1) := by decide +kernel
theorem dX5_holds_20 : decode cX5_holds 20 = .ok (.iload_n 1, 1) := by decide +kernel
theorem dX5_holds_21 : decode cX5_holds 21 = .ok (.iconst 1, 1) := by decide +kernel
theorem dX5_holds_22 : decode cX5_holds 22 = .ok (.iadd, 1) := by decide +kernel
theorem dX5_holds_23 : decode cX5_holds 23 = .ok (.if_icmp .ne 38, 3) := by decide +kernel
theorem dX5_holds_26 : decode cX5_holds 26 = .ok (.iload_n 2, 1) := by decide +kernel
theorem dX5_holds_27 : decode cX5_holds 27 = .ok (.ifCond .eq 32, 3) := by decide +kernel
theorem dX5_holds_30 : decode cX5_holds 30 = .ok (.aload_n 0, 1) := by decide +kernel
theorem dX5_holds_31 : decode cX5_holds 31 = .ok (.iload_n 1, 1) := by decide +kernel
theorem dX5_holds_32 : decode cX5_holds 32 = .ok (.aload_n 0, 1) := by decide +kernel
theorem dX5_holds_33 : decode cX5_holds 33 = .ok (.iload_n 3, 1) := by decide +kernel
theorem dX5_holds_34 : decode cX5_holds 34 = .ok (.iconst 2, 1) := by decide +kernel
theorem dX5_holds_35 : decode cX5_holds 35 = .ok (.invokevirtual 122, 3) := by decide +kernel
theorem dX5_holds_38 : decode cX5_holds 38 = .ok (.invokevirtual 177, 3) := by decide +kernel
theorem dX5_holds_41 : decode cX5_holds 41 = .ok (.aload_n 0, 1) := by decide +kernel
theorem dX5_holds_42 : decode cX5_holds 42 = .ok (.iload_n 1, 1) := by decide +kernel
theorem dX5_holds_43 : decode cX5_holds 43 = .ok (.aload_n 0, 1) := by decide +kernel
theorem dX5_holds_44 : decode cX5_holds 44 = .ok (.iload_n 3, 1) := by decide +kernel
theorem dX5_holds_45 : decode cX5_holds 45 = .ok (.iconst 2, 1) := by decide +kernel
theorem dX5_holds_46 : decode cX5_holds 46 = .ok (.invokevirtual 122, 3) := by decide +kernel
theorem dX5_holds_49 : decode cX5_holds 49 = .ok (.invokevirtual 180, 3) := by decide +kernel
theorem dX5_holds_52 : decode cX5_holds 52 = .ok (.if_icmp .gt 7, 3) := by decide +kernel
theorem dX5_holds_55 : decode cX5_holds 55 = .ok (.iconst 1, 1) := by decide +kernel
theorem dX5_holds_56 : decode cX5_holds 56 = .ok (.goto 4, 3) := by decide +kernel
theorem dX5_holds_59 : decode cX5_holds 59 = .ok (.iconst 0, 1) := by decide +kernel
theorem dX5_holds_60 : decode cX5_holds 60 = .ok (.istore_n 2, 1) := by decide +kernel
theorem dX5_holds_61 : decode cX5_holds 61 = .ok (.iinc 3 1, 3) := by decide +kernel
theorem dX5_holds_64 : decode cX5_holds 64 = .ok (.goto (-60), 3) := by decide +kernel
theorem dX5_holds_67 : decode cX5_holds 67 = .ok (.iload_n 2, 1) := by decide +kernel
theorem dX5_holds_68 : decode cX5_holds 68 = .ok (.ireturn, 1) := by decide +kernel
theorem dX5_movedBy_0 : decode cX5_movedBy 0 = .ok (.aload_n 0, 1) := by decide +kernel
theorem dX5_movedBy_1 : decode cX5_movedBy 1 = .ok (.getfield 29, 3) := by decide +kernel
theorem dX5_movedBy_4 : decode cX5_movedBy 4 = .ok (.iload_n 1, 1) := by decide +kernel
theorem dX5_movedBy_5 : decode cX5_movedBy 5 = .ok (.iaload, 1) := by decide +kernel
theorem dX5_movedBy_6 : decode cX5_movedBy 6 = .ok (.ifCond .ne 6, 3) := by decide +kernel
theorem dX5_movedBy_9 : decode cX5_movedBy 9 = .ok (.bipush (-4), 2) := by decide +kernel
theorem dX5_movedBy_11 : decode cX5_movedBy 11 = .ok (.ireturn, 1) := by decide +kernel
theorem dX5_movedBy_12 : decode cX5_movedBy 12 = .ok (.aload_n 0, 1) := by decide +kernel
theorem dX5_movedBy_13 : decode cX5_movedBy 13 = .ok (.getfield 29, 3) := by decide +kernel
theorem dX5_movedBy_16 : decode cX5_movedBy 16 = .ok (.iload_n 1, 1) := by decide +kernel
theorem dX5_movedBy_17 : decode cX5_movedBy 17 = .ok (.iaload, 1) := by decide +kernel
theorem dX5_movedBy_18 : decode cX5_movedBy 18 = .ok (.istore_n 2, 1) := by decide +kernel
theorem dX5_movedBy_19 : decode cX5_movedBy 19 = .ok (.aload_n 0, 1) := by decide +kernel
theorem dX5_movedBy_20 : decode cX5_movedBy 20 = .ok (.iload_n 1, 1) := by decide +kernel
theorem dX5_movedBy_21 : decode cX5_movedBy 21 = .ok (.iload_n 2, 1) := by decide +kernel
theorem dX5_movedBy_22 : decode cX5_movedBy 22 = .ok (.iconst 1, 1) := by decide +kernel
theorem dX5_movedBy_23 : decode cX5_movedBy 23 = .ok (.isub, 1) := by decide +kernel
theorem dX5_movedBy_24 : decode cX5_movedBy 24 = .ok (.invokevirtual 161, 3) := by decide +kernel
theorem dX5_movedBy_27 : decode cX5_movedBy 27 = .ok (.istore_n 3, 1) := by decide +kernel
theorem dX5_movedBy_28 : decode cX5_movedBy 28 = .ok (.iconst 1, 1) := by decide +kernel
theorem dX5_movedBy_29 : decode cX5_movedBy 29 = .ok (.istore 4, 2) := by decide +kernel
theorem dX5_movedBy_31 : decode cX5_movedBy 31 = .ok (.iload_n 3, 1) := by decide +kernel
theorem dX5_movedBy_32 : decode cX5_movedBy 32 = .ok (.aload_n 0, 1) := by decide +kernel
theorem dX5_movedBy_33 : decode cX5_movedBy 33 = .ok (.iload_n 1, 1) := by decide +kernel
theorem dX5_movedBy_34 : decode cX5_movedBy 34 = .ok (.iconst 1, 1) := by decide +kernel
theorem dX5_movedBy_35 : decode cX5_movedBy 35 = .ok (.invokevirtual 122, 3) := by decide +kernel
theorem dX5_movedBy_38 : decode cX5_movedBy 38 = .ok (.if_icmp .ne 13, 3) := by decide +kernel
theorem dX5_movedBy_41 : decode cX5_movedBy 41 = .ok (.aload_n 0, 1) := by decide +kernel
theorem dX5_movedBy_42 : decode cX5_movedBy 42 = .ok (.getfield 29, 3) := by decide +kernel
theorem dX5_movedBy_45 : decode cX5_movedBy 45 = .ok (.iload_n 1, 1) := by decide +kernel
theorem dX5_movedBy_46 : decode cX5_movedBy 46 = .ok (.iconst 0, 1) := by decide +kernel
theorem dX5_movedBy_47 : decode cX5_movedBy 47 = .ok (.iastore, 1) := by decide +kernel
theorem dX5_movedBy_48 : decode cX5_movedBy 48 = .ok (.goto 19, 3) := by decide +kernel
theorem dX5_movedBy_51 : decode cX5_movedBy 51 = .ok (.aload_n 0, 1) := by decide +kernel
theorem dX5_movedBy_52 : decode cX5_movedBy 52 = .ok (.getfield 29, 3) := by decide +kernel
theorem dX5_movedBy_55 : decode cX5_movedBy 55 = .ok (.iload_n 1, 1) := by decide +kernel
theorem dX5_movedBy_56 : decode cX5_movedBy 56 = .ok (.iload_n 3, 1) := by decide +kernel
theorem dX5_movedBy_57 : decode cX5_movedBy 57 = .ok (.iconst 1, 1) := by decide +kernel
theorem dX5_movedBy_58 : decode cX5_movedBy 58 = .ok (.iadd, 1) := by decide +kernel
theorem dX5_movedBy_59 : decode cX5_movedBy 59 = .ok (.iastore, 1) := by decide +kernel
theorem dX5_movedBy_60 : decode cX5_movedBy 60 = .ok (.aload_n 0, 1) := by decide +kernel
theorem dX5_movedBy_61 : decode cX5_movedBy 61 = .ok (.iload_n 3, 1) := by decide +kernel
theorem dX5_movedBy_62 : decode cX5_movedBy 62 = .ok (.invokevirtual 133, 3) := by decide +kernel
theorem dX5_movedBy_65 : decode cX5_movedBy 65 = .ok (.istore 4, 2) := by decide +kernel
theorem dX5_movedBy_67 : decode cX5_movedBy 67 = .ok (.iload 4, 2) := by decide +kernel
theorem dX5_movedBy_69 : decode cX5_movedBy 69 = .ok (.ifCond .eq 10, 3) := by decide +kernel
theorem dX5_movedBy_72 : decode cX5_movedBy 72 = .ok (.aload_n 0, 1) := by decide +kernel
theorem dX5_movedBy_73 : decode cX5_movedBy 73 = .ok (.invokevirtual 183, 3) := by decide +kernel
theorem dX5_movedBy_76 : decode cX5_movedBy 76 = .ok (.goto 5, 3) := by decide +kernel
theorem dX5_movedBy_79 : decode cX5_movedBy 79 = .ok (.bipush (-4), 2) := by decide +kernel
theorem dX5_movedBy_81 : decode cX5_movedBy 81 = .ok (.istore 5, 2) := by decide +kernel
theorem dX5_movedBy_83 : decode cX5_movedBy 83 = .ok (.aload_n 0, 1) := by decide +kernel
theorem dX5_movedBy_84 : decode cX5_movedBy 84 = .ok (.getfield 29, 3) := by decide +kernel
theorem dX5_movedBy_87 : decode cX5_movedBy 87 = .ok (.iload_n 1, 1) := by decide +kernel
theorem dX5_movedBy_88 : decode cX5_movedBy 88 = .ok (.iload_n 2, 1) := by decide +kernel
theorem dX5_movedBy_89 : decode cX5_movedBy 89 = .ok (.iastore, 1) := by decide +kernel
theorem dX5_movedBy_90 : decode cX5_movedBy 90 = .ok (.iload 5, 2) := by decide +kernel
theorem dX5_movedBy_92 : decode cX5_movedBy 92 = .ok (.ireturn, 1) := by decide +kernel
theorem dX5_explore_0 : decode cX5_explore 0 = .ok (.iconst 0, 1) := by decide +kernel
theorem dX5_explore_1 : decode cX5_explore 1 = .ok (.istore_n 2, 1) := by decide +kernel
theorem dX5_explore_2 : decode cX5_explore 2 = .ok (.iload_n 2, 1) := by decide +kernel
theorem dX5_explore_3 : decode cX5_explore 3 = .ok (.sipush 2401, 3) := by decide +kernel
theorem dX5_explore_6 : decode cX5_explore 6 = .ok (.if_icmp .ge 23, 3) := by decide +kernel
theorem dX5_explore_9 : decode cX5_explore 9 = .ok (.aload_n 0, 1) := by decide +kernel
theorem dX5_explore_10 : decode cX5_explore 10 = .ok (.getfield 35, 3) := by decide +kernel
theorem dX5_explore_13 : decode cX5_explore 13 = .ok (.iload_n 2, 1) := by decide +kernel
theorem dX5_explore_14 : decode cX5_explore 14 = .ok (.iconst 0, 1) := by decide +kernel
theorem dX5_explore_15 : decode cX5_explore 15 = .ok (.bastore, 1) := by decide +kernel
theorem dX5_explore_16 : decode cX5_explore 16 = .ok (.aload_n 0, 1) := by decide +kernel
theorem dX5_explore_17 : decode cX5_explore 17 = .ok (.getfield 38, 3) := by decide +kernel
theorem dX5_explore_20 : decode cX5_explore 20 = .ok (.iload_n 2, 1) := by decide +kernel
theorem dX5_explore_21 : decode cX5_explore 21 = .ok (.iconst 0, 1) := by decide +kernel
theorem dX5_explore_22 : decode cX5_explore 22 = .ok (.bastore, 1) := by decide +kernel
theorem dX5_explore_23 : decode cX5_explore 23 = .ok (.iinc 2 1, 3) := by decide +kernel
theorem dX5_explore_26 : decode cX5_explore 26 = .ok (.goto (-24), 3) := by decide +kernel
theorem dX5_explore_29 : decode cX5_explore 29 = .ok (.aload_n 0, 1) := by decide +kernel
theorem dX5_explore_30 : decode cX5_explore 30 = .ok (.getfield 32, 3) := by decide +kernel
theorem dX5_explore_33 : decode cX5_explore 33 = .ok (.iconst 0, 1) := by decide +kernel
theorem dX5_explore_34 : decode cX5_explore 34 = .ok (.iload_n 1, 1) := by decide +kernel
theorem dX5_explore_35 : decode cX5_explore 35 = .ok (.iastore, 1) := by decide +kernel
theorem dX5_explore_36 : decode cX5_explore 36 = .ok (.aload_n 0, 1) := by decide +kernel
theorem dX5_explore_37 : decode cX5_explore 37 = .ok (.getfield 35, 3) := by decide +kernel
theorem dX5_explore_40 : decode cX5_explore 40 = .ok (.iload_n 1, 1) := by decide +kernel
theorem dX5_explore_41 : decode cX5_explore 41 = .ok (.iconst 1, 1) := by decide +kernel
theorem dX5_explore_42 : decode cX5_explore 42 = .ok (.bastore, 1) := by decide +kernel
theorem dX5_explore_43 : decode cX5_explore 43 = .ok (.aload_n 0, 1) := by decide +kernel
theorem dX5_explore_44 : decode cX5_explore 44 = .ok (.iconst 1, 1) := by decide +kernel
theorem dX5_explore_45 : decode cX5_explore 45 = .ok (.putfield 186, 3) := by decide +kernel
theorem dX5_explore_48 : decode cX5_explore 48 = .ok (.iconst 0, 1) := by decide +kernel
theorem dX5_explore_49 : decode cX5_explore 49 = .ok (.istore_n 2, 1) := by decide +kernel
theorem dX5_explore_50 : decode cX5_explore 50 = .ok (.iload_n 2, 1) := by decide +kernel
theorem dX5_explore_51 : decode cX5_explore 51 = .ok (.aload_n 0, 1) := by decide +kernel
theorem dX5_explore_52 : decode cX5_explore 52 = .ok (.getfield 186, 3) := by decide +kernel
theorem dX5_explore_55 : decode cX5_explore 55 = .ok (.if_icmp .ge 90, 3) := by decide +kernel
theorem dX5_explore_58 : decode cX5_explore 58 = .ok (.aload_n 0, 1) := by decide +kernel
theorem dX5_explore_59 : decode cX5_explore 59 = .ok (.aload_n 0, 1) := by decide +kernel
theorem dX5_explore_60 : decode cX5_explore 60 = .ok (.getfield 32, 3) := by decide +kernel
theorem dX5_explore_63 : decode cX5_explore 63 = .ok (.iload_n 2, 1) := by decide +kernel
theorem dX5_explore_64 : decode cX5_explore 64 = .ok (.iaload, 1) := by decide +kernel
theorem dX5_explore_65 : decode cX5_explore 65 = .ok (.invokevirtual 129, 3) := by decide +kernel
theorem dX5_explore_68 : decode cX5_explore 68 = .ok (.iconst 0, 1) := by decide +kernel
theorem dX5_explore_69 : decode cX5_explore 69 = .ok (.istore_n 3, 1) := by decide +kernel
theorem dX5_explore_70 : decode cX5_explore 70 = .ok (.iload_n 3, 1) := by decide +kernel
theorem dX5_explore_71 : decode cX5_explore 71 = .ok (.aload_n 0, 1) := by decide +kernel
theorem dX5_explore_72 : decode cX5_explore 72 = .ok (.getfield 7, 3) := by decide +kernel
theorem dX5_explore_75 : decode cX5_explore 75 = .ok (.iconst 1, 1) := by decide +kernel
theorem dX5_explore_76 : decode cX5_explore 76 = .ok (.iaload, 1) := by decide +kernel
theorem dX5_explore_77 : decode cX5_explore 77 = .ok (.if_icmp .ge 62, 3) := by decide +kernel
theorem dX5_explore_80 : decode cX5_explore 80 = .ok (.aload_n 0, 1) := by decide +kernel
theorem dX5_explore_81 : decode cX5_explore 81 = .ok (.iload_n 3, 1) := by decide +kernel
theorem dX5_explore_82 : decode cX5_explore 82 = .ok (.invokevirtual 189, 3) := by decide +kernel
theorem dX5_explore_85 : decode cX5_explore 85 = .ok (.istore 4, 2) := by decide +kernel
theorem dX5_explore_87 : decode cX5_explore 87 = .ok (.iload 4, 2) := by decide +kernel
theorem dX5_explore_89 : decode cX5_explore 89 = .ok (.bipush (-4), 2) := by decide +kernel
theorem dX5_explore_91 : decode cX5_explore 91 = .ok (.if_icmp .eq 42, 3) := by decide +kernel
theorem dX5_explore_94 : decode cX5_explore 94 = .ok (.aload_n 0, 1) := by decide +kernel
theorem dX5_explore_95 : decode cX5_explore 95 = .ok (.getfield 35, 3) := by decide +kernel
theorem dX5_explore_98 : decode cX5_explore 98 = .ok (.iload 4, 2) := by decide +kernel
theorem dX5_explore_100 : decode cX5_explore 100 = .ok (.baload, 1) := by decide +kernel
theorem dX5_explore_101 : decode cX5_explore 101 = .ok (.ifCond .ne 32, 3) := by decide +kernel
theorem dX5_explore_104 : decode cX5_explore 104 = .ok (.aload_n 0, 1) := by decide +kernel
theorem dX5_explore_105 : decode cX5_explore 105 = .ok (.getfield 35, 3) := by decide +kernel
theorem dX5_explore_108 : decode cX5_explore 108 = .ok (.iload 4, 2) := by decide +kernel
theorem dX5_explore_110 : decode cX5_explore 110 = .ok (.iconst 1, 1) := by decide +kernel
theorem dX5_explore_111 : decode cX5_explore 111 = .ok (.bastore, 1) := by decide +kernel
theorem dX5_explore_112 : decode cX5_explore 112 = .ok (.aload_n 0, 1) := by decide +kernel
theorem dX5_explore_113 : decode cX5_explore 113 = .ok (.getfield 32, 3) := by decide +kernel
theorem dX5_explore_116 : decode cX5_explore 116 = .ok (.aload_n 0, 1) := by decide +kernel
theorem dX5_explore_117 : decode cX5_explore 117 = .ok (.getfield 186, 3) := by decide +kernel
theorem dX5_explore_120 : decode cX5_explore 120 = .ok (.iload 4, 2) := by decide +kernel
theorem dX5_explore_122 : decode cX5_explore 122 = .ok (.iastore, 1) := by decide +kernel
theorem dX5_explore_123 : decode cX5_explore 123 = .ok (.aload_n 0, 1) := by decide +kernel
theorem dX5_explore_124 : decode cX5_explore 124 = .ok (.dup, 1) := by decide +kernel
theorem dX5_explore_125 : decode cX5_explore 125 = .ok (.getfield 186, 3) := by decide +kernel
theorem dX5_explore_128 : decode cX5_explore 128 = .ok (.iconst 1, 1) := by decide +kernel
theorem dX5_explore_129 : decode cX5_explore 129 = .ok (.iadd, 1) := by decide +kernel
theorem dX5_explore_130 : decode cX5_explore 130 = .ok (.putfield 186, 3) := by decide +kernel
theorem dX5_explore_133 : decode cX5_explore 133 = .ok (.iinc 3 1, 3) := by decide +kernel
theorem dX5_explore_136 : decode cX5_explore 136 = .ok (.goto (-66), 3) := by decide +kernel
theorem dX5_explore_139 : decode cX5_explore 139 = .ok (.iinc 2 1, 3) := by decide +kernel
theorem dX5_explore_142 : decode cX5_explore 142 = .ok (.goto (-92), 3) := by decide +kernel
theorem dX5_explore_145 : decode cX5_explore 145 = .ok (.aload_n 0, 1) := by decide +kernel
theorem dX5_explore_146 : decode cX5_explore 146 = .ok (.getfield 186, 3) := by decide +kernel
theorem dX5_explore_149 : decode cX5_explore 149 = .ok (.iconst 1, 1) := by decide +kernel
theorem dX5_explore_150 : decode cX5_explore 150 = .ok (.isub, 1) := by decide +kernel
theorem dX5_explore_151 : decode cX5_explore 151 = .ok (.istore_n 2, 1) := by decide +kernel
theorem dX5_explore_152 : decode cX5_explore 152 = .ok (.iload_n 2, 1) := by decide +kernel
theorem dX5_explore_153 : decode cX5_explore 153 = .ok (.ifCond .lt 101, 3) := by decide +kernel
theorem dX5_explore_156 : decode cX5_explore 156 = .ok (.aload_n 0, 1) := by decide +kernel
theorem dX5_explore_157 : decode cX5_explore 157 = .ok (.aload_n 0, 1) := by decide +kernel
theorem dX5_explore_158 : decode cX5_explore 158 = .ok (.getfield 32, 3) := by decide +kernel
theorem dX5_explore_161 : decode cX5_explore 161 = .ok (.iload_n 2, 1) := by decide +kernel
theorem dX5_explore_162 : decode cX5_explore 162 = .ok (.iaload, 1) := by decide +kernel
theorem dX5_explore_163 : decode cX5_explore 163 = .ok (.invokevirtual 129, 3) := by decide +kernel
theorem dX5_explore_166 : decode cX5_explore 166 = .ok (.aload_n 0, 1) := by decide +kernel
theorem dX5_explore_167 : decode cX5_explore 167 = .ok (.getfield 32, 3) := by decide +kernel
theorem dX5_explore_170 : decode cX5_explore 170 = .ok (.iload_n 2, 1) := by decide +kernel
theorem dX5_explore_171 : decode cX5_explore 171 = .ok (.iaload, 1) := by decide +kernel
theorem dX5_explore_172 : decode cX5_explore 172 = .ok (.ifCond .ne 7, 3) := by decide +kernel
theorem dX5_explore_175 : decode cX5_explore 175 = .ok (.iconst 1, 1) := by decide +kernel
theorem dX5_explore_176 : decode cX5_explore 176 = .ok (.goto 4, 3) := by decide +kernel
theorem dX5_explore_179 : decode cX5_explore 179 = .ok (.iconst 0, 1) := by decide +kernel
theorem dX5_explore_180 : decode cX5_explore 180 = .ok (.istore_n 3, 1) := by decide +kernel
theorem dX5_explore_181 : decode cX5_explore 181 = .ok (.iconst 0, 1) := by decide +kernel
theorem dX5_explore_182 : decode cX5_explore 182 = .ok (.istore 4, 2) := by decide +kernel
theorem dX5_explore_184 : decode cX5_explore 184 = .ok (.iload 4, 2) := by decide +kernel
theorem dX5_explore_186 : decode cX5_explore 186 = .ok (.aload_n 0, 1) := by decide +kernel
theorem dX5_explore_187 : decode cX5_explore 187 = .ok (.getfield 7, 3) := by decide +kernel
theorem dX5_explore_190 : decode cX5_explore 190 = .ok (.iconst 1, 1) := by decide +kernel
theorem dX5_explore_191 : decode cX5_explore 191 = .ok (.iaload, 1) := by decide +kernel
theorem dX5_explore_192 : decode cX5_explore 192 = .ok (.if_icmp .ge 44, 3) := by decide +kernel
theorem dX5_explore_195 : decode cX5_explore 195 = .ok (.aload_n 0, 1) := by decide +kernel
theorem dX5_explore_196 : decode cX5_explore 196 = .ok (.iload 4, 2) := by decide +kernel
theorem dX5_explore_198 : decode cX5_explore 198 = .ok (.invokevirtual 189, 3) := by decide +kernel
theorem dX5_explore_201 : decode cX5_explore 201 = .ok (.istore 5, 2) := by decide +kernel
theorem dX5_explore_203 : decode cX5_explore 203 = .ok (.iload_n 3, 1) := by decide +kernel
theorem dX5_explore_204 : decode cX5_explore 204 = .ok (.ifCond .ne 20, 3) := by decide +kernel
theorem dX5_explore_207 : decode cX5_explore 207 = .ok (.iload 5, 2) := by decide +kernel
theorem dX5_explore_209 : decode cX5_explore 209 = .ok (.bipush (-4), 2) := by decide +kernel
theorem dX5_explore_211 : decode cX5_explore 211 = .ok (.if_icmp .eq 17, 3) := by decide +kernel
theorem dX5_explore_214 : decode cX5_explore 214 = .ok (.aload_n 0, 1) := by decide +kernel
theorem dX5_explore_215 : decode cX5_explore 215 = .ok (.getfield 38, 3) := by decide +kernel
theorem dX5_explore_218 : decode cX5_explore 218 = .ok (.iload 5, 2) := by decide +kernel
theorem dX5_explore_220 : decode cX5_explore 220 = .ok (.baload, 1) := by decide +kernel
theorem dX5_explore_221 : decode cX5_explore 221 = .ok (.ifCond .eq 7, 3) := by decide +kernel
theorem dX5_explore_224 : decode cX5_explore 224 = .ok (.iconst 1, 1) := by decide +kernel
theorem dX5_explore_225 : decode cX5_explore 225 = .ok (.goto 4, 3) := by decide +kernel
theorem dX5_explore_228 : decode cX5_explore 228 = .ok (.iconst 0, 1) := by decide +kernel
theorem dX5_explore_229 : decode cX5_explore 229 = .ok (.istore_n 3, 1) := by decide +kernel
theorem dX5_explore_230 : decode cX5_explore 230 = .ok (.iinc 4 1, 3) := by decide +kernel
theorem dX5_explore_233 : decode cX5_explore 233 = .ok (.goto (-49), 3) := by decide +kernel
theorem dX5_explore_236 : decode cX5_explore 236 = .ok (.aload_n 0, 1) := by decide +kernel
theorem dX5_explore_237 : decode cX5_explore 237 = .ok (.getfield 38, 3) := by decide +kernel
theorem dX5_explore_240 : decode cX5_explore 240 = .ok (.aload_n 0, 1) := by decide +kernel
theorem dX5_explore_241 : decode cX5_explore 241 = .ok (.getfield 32, 3) := by decide +kernel
theorem dX5_explore_244 : decode cX5_explore 244 = .ok (.iload_n 2, 1) := by decide +kernel
theorem dX5_explore_245 : decode cX5_explore 245 = .ok (.iaload, 1) := by decide +kernel
theorem dX5_explore_246 : decode cX5_explore 246 = .ok (.iload_n 3, 1) := by decide +kernel
theorem dX5_explore_247 : decode cX5_explore 247 = .ok (.bastore, 1) := by decide +kernel
theorem dX5_explore_248 : decode cX5_explore 248 = .ok (.iinc 2 (-1), 3) := by decide +kernel
theorem dX5_explore_251 : decode cX5_explore 251 = .ok (.goto (-99), 3) := by decide +kernel
theorem dX5_explore_254 : decode cX5_explore 254 = .ok (.return_, 1) := by decide +kernel
theorem dX5_goesAlone_0 : decode cX5_goesAlone 0 = .ok (.aload_n 0, 1) := by decide +kernel
theorem dX5_goesAlone_1 : decode cX5_goesAlone 1 = .ok (.getfield 29, 3) := by decide +kernel
theorem dX5_goesAlone_4 : decode cX5_goesAlone 4 = .ok (.iload_n 1, 1) := by decide +kernel
theorem dX5_goesAlone_5 : decode cX5_goesAlone 5 = .ok (.iaload, 1) := by decide +kernel
theorem dX5_goesAlone_6 : decode cX5_goesAlone 6 = .ok (.istore_n 2, 1) := by decide +kernel
theorem dX5_goesAlone_7 : decode cX5_goesAlone 7 = .ok (.iconst 0, 1) := by decide +kernel
theorem dX5_goesAlone_8 : decode cX5_goesAlone 8 = .ok (.istore_n 3, 1) := by decide +kernel
theorem dX5_goesAlone_9 : decode cX5_goesAlone 9 = .ok (.iconst 0, 1) := by decide +kernel
theorem dX5_goesAlone_10 : decode cX5_goesAlone 10 = .ok (.istore 4, 2) := by decide +kernel
theorem dX5_goesAlone_12 : decode cX5_goesAlone 12 = .ok (.iload 4, 2) := by decide +kernel
theorem dX5_goesAlone_14 : decode cX5_goesAlone 14 = .ok (.bipush 6, 2) := by decide +kernel
theorem dX5_goesAlone_16 : decode cX5_goesAlone 16 = .ok (.if_icmp .ge 60, 3) := by decide +kernel
theorem dX5_goesAlone_19 : decode cX5_goesAlone 19 = .ok (.aload_n 0, 1) := by decide +kernel
theorem dX5_goesAlone_20 : decode cX5_goesAlone 20 = .ok (.getfield 29, 3) := by decide +kernel
theorem dX5_goesAlone_23 : decode cX5_goesAlone 23 = .ok (.iload_n 1, 1) := by decide +kernel
theorem dX5_goesAlone_24 : decode cX5_goesAlone 24 = .ok (.iaload, 1) := by decide +kernel
theorem dX5_goesAlone_25 : decode cX5_goesAlone 25 = .ok (.ifCond .le 51, 3) := by decide +kernel
theorem dX5_goesAlone_28 : decode cX5_goesAlone 28 = .ok (.iload_n 3, 1) := by decide +kernel
theorem dX5_goesAlone_29 : decode cX5_goesAlone 29 = .ok (.bipush (-4), 2) := by decide +kernel
theorem dX5_goesAlone_31 : decode cX5_goesAlone 31 = .ok (.if_icmp .eq 45, 3) := by decide +kernel
theorem dX5_goesAlone_34 : decode cX5_goesAlone 34 = .ok (.aload_n 0, 1) := by decide +kernel
theorem dX5_goesAlone_35 : decode cX5_goesAlone 35 = .ok (.iload_n 1, 1) := by decide +kernel
theorem dX5_goesAlone_36 : decode cX5_goesAlone 36 = .ok (.invokevirtual 189, 3) := by decide +kernel
theorem dX5_goesAlone_39 : decode cX5_goesAlone 39 = .ok (.istore_n 3, 1) := by decide +kernel
theorem dX5_goesAlone_40 : decode cX5_goesAlone 40 = .ok (.aload_n 0, 1) := by decide +kernel
theorem dX5_goesAlone_41 : decode cX5_goesAlone 41 = .ok (.getfield 29, 3) := by decide +kernel
theorem dX5_goesAlone_44 : decode cX5_goesAlone 44 = .ok (.iload_n 1, 1) := by decide +kernel
theorem dX5_goesAlone_45 : decode cX5_goesAlone 45 = .ok (.iload_n 3, 1) := by decide +kernel
theorem dX5_goesAlone_46 : decode cX5_goesAlone 46 = .ok (.bipush (-4), 2) := by decide +kernel
theorem dX5_goesAlone_48 : decode cX5_goesAlone 48 = .ok (.if_icmp .ne 12, 3) := by decide +kernel
theorem dX5_goesAlone_51 : decode cX5_goesAlone 51 = .ok (.aload_n 0, 1) := by decide +kernel
theorem dX5_goesAlone_52 : decode cX5_goesAlone 52 = .ok (.getfield 29, 3) := by decide +kernel
theorem dX5_goesAlone_55 : decode cX5_goesAlone 55 = .ok (.iload_n 1, 1) := by decide +kernel
theorem dX5_goesAlone_56 : decode cX5_goesAlone 56 = .ok (.iaload, 1) := by decide +kernel
theorem dX5_goesAlone_57 : decode cX5_goesAlone 57 = .ok (.goto 12, 3) := by decide +kernel
theorem dX5_goesAlone_60 : decode cX5_goesAlone 60 = .ok (.iload_n 3, 1) := by decide +kernel
theorem dX5_goesAlone_61 : decode cX5_goesAlone 61 = .ok (.iload_n 1, 1) := by decide +kernel
theorem dX5_goesAlone_62 : decode cX5_goesAlone 62 = .ok (.invokestatic 174, 3) := by decide +kernel
theorem dX5_goesAlone_65 : decode cX5_goesAlone 65 = .ok (.idiv, 1) := by decide +kernel
theorem dX5_goesAlone_66 : decode cX5_goesAlone 66 = .ok (.bipush 7, 2) := by decide +kernel
theorem dX5_goesAlone_68 : decode cX5_goesAlone 68 = .ok (.irem, 1) := by decide +kernel
theorem dX5_goesAlone_69 : decode cX5_goesAlone 69 = .ok (.iastore, 1) := by decide +kernel
theorem dX5_goesAlone_70 : decode cX5_goesAlone 70 = .ok (.iinc 4 1, 3) := by decide +kernel
theorem dX5_goesAlone_73 : decode cX5_goesAlone 73 = .ok (.goto (-61), 3) := by decide +kernel
theorem dX5_goesAlone_76 : decode cX5_goesAlone 76 = .ok (.aload_n 0, 1) := by decide +kernel
theorem dX5_goesAlone_77 : decode cX5_goesAlone 77 = .ok (.getfield 29, 3) := by decide +kernel
theorem dX5_goesAlone_80 : decode cX5_goesAlone 80 = .ok (.iload_n 1, 1) := by decide +kernel
theorem dX5_goesAlone_81 : decode cX5_goesAlone 81 = .ok (.iaload, 1) := by decide +kernel
theorem dX5_goesAlone_82 : decode cX5_goesAlone 82 = .ok (.ifCond .ne 7, 3) := by decide +kernel
theorem dX5_goesAlone_85 : decode cX5_goesAlone 85 = .ok (.iconst 1, 1) := by decide +kernel
theorem dX5_goesAlone_86 : decode cX5_goesAlone 86 = .ok (.goto 4, 3) := by decide +kernel
theorem dX5_goesAlone_89 : decode cX5_goesAlone 89 = .ok (.iconst 0, 1) := by decide +kernel
theorem dX5_goesAlone_90 : decode cX5_goesAlone 90 = .ok (.istore 4, 2) := by decide +kernel
theorem dX5_goesAlone_92 : decode cX5_goesAlone 92 = .ok (.aload_n 0, 1) := by decide +kernel
theorem dX5_goesAlone_93 : decode cX5_goesAlone 93 = .ok (.getfield 29, 3) := by decide +kernel
theorem dX5_goesAlone_96 : decode cX5_goesAlone 96 = .ok (.iload_n 1, 1) := by decide +kernel
theorem dX5_goesAlone_97 : decode cX5_goesAlone 97 = .ok (.iload 4, 2) := by decide +kernel
theorem dX5_goesAlone_99 : decode cX5_goesAlone 99 = .ok (.ifCond .eq 7, 3) := by decide +kernel
theorem dX5_goesAlone_102 : decode cX5_goesAlone 102 = .ok (.iconst 0, 1) := by decide +kernel
theorem dX5_goesAlone_103 : decode cX5_goesAlone 103 = .ok (.goto 4, 3) := by decide +kernel
theorem dX5_goesAlone_106 : decode cX5_goesAlone 106 = .ok (.iload_n 2, 1) := by decide +kernel
theorem dX5_goesAlone_107 : decode cX5_goesAlone 107 = .ok (.iastore, 1) := by decide +kernel
theorem dX5_goesAlone_108 : decode cX5_goesAlone 108 = .ok (.iload 4, 2) := by decide +kernel
theorem dX5_goesAlone_110 : decode cX5_goesAlone 110 = .ok (.ireturn, 1) := by decide +kernel
theorem dX5_findSequence_0 : decode cX5_findSequence 0 = .ok (.aload_n 0, 1) := by decide +kernel
theorem dX5_findSequence_1 : decode cX5_findSequence 1 = .ok (.aload_n 0, 1) := by decide +kernel
theorem dX5_findSequence_2 : decode cX5_findSequence 2 = .ok (.invokevirtual 126, 3) := by decide +kernel
theorem dX5_findSequence_5 : decode cX5_findSequence 5 = .ok (.invokevirtual 129, 3) := by decide +kernel
theorem dX5_findSequence_8 : decode cX5_findSequence 8 = .ok (.aload_n 0, 1) := by decide +kernel
theorem dX5_findSequence_9 : decode cX5_findSequence 9 = .ok (.iconst 0, 1) := by decide +kernel
theorem dX5_findSequence_10 : decode cX5_findSequence 10 = .ok (.putfield 192, 3) := by decide +kernel
theorem dX5_findSequence_13 : decode cX5_findSequence 13 = .ok (.iconst 1, 1) := by decide +kernel
theorem dX5_findSequence_14 : decode cX5_findSequence 14 = .ok (.istore_n 1, 1) := by decide +kernel
theorem dX5_findSequence_15 : decode cX5_findSequence 15 = .ok (.iload_n 1, 1) := by decide +kernel
theorem dX5_findSequence_16 : decode cX5_findSequence 16 = .ok (.ifCond .eq 69, 3) := by decide +kernel
theorem dX5_findSequence_19 : decode cX5_findSequence 19 = .ok (.iconst 0, 1) := by decide +kernel
theorem dX5_findSequence_20 : decode cX5_findSequence 20 = .ok (.istore_n 1, 1) := by decide +kernel
theorem dX5_findSequence_21 : decode cX5_findSequence 21 = .ok (.iconst 0, 1) := by decide +kernel
theorem dX5_findSequence_22 : decode cX5_findSequence 22 = .ok (.istore_n 2, 1) := by decide +kernel
theorem dX5_findSequence_23 : decode cX5_findSequence 23 = .ok (.iload_n 2, 1) := by decide +kernel
theorem dX5_findSequence_24 : decode cX5_findSequence 24 = .ok (.aload_n 0, 1) := by decide +kernel
theorem dX5_findSequence_25 : decode cX5_findSequence 25 = .ok (.getfield 7, 3) := by decide +kernel
theorem dX5_findSequence_28 : decode cX5_findSequence 28 = .ok (.iconst 1, 1) := by decide +kernel
theorem dX5_findSequence_29 : decode cX5_findSequence 29 = .ok (.iaload, 1) := by decide +kernel
theorem dX5_findSequence_30 : decode cX5_findSequence 30 = .ok (.if_icmp .ge 52, 3) := by decide +kernel
theorem dX5_findSequence_33 : decode cX5_findSequence 33 = .ok (.iload_n 1, 1) := by decide +kernel
theorem dX5_findSequence_34 : decode cX5_findSequence 34 = .ok (.ifCond .ne 48, 3) := by decide +kernel
theorem dX5_findSequence_37 : decode cX5_findSequence 37 = .ok (.aload_n 0, 1) := by decide +kernel
theorem dX5_findSequence_38 : decode cX5_findSequence 38 = .ok (.getfield 29, 3) := by decide +kernel
theorem dX5_findSequence_41 : decode cX5_findSequence 41 = .ok (.iload_n 2, 1) := by decide +kernel
theorem dX5_findSequence_42 : decode cX5_findSequence 42 = .ok (.iaload, 1) := by decide +kernel
theorem dX5_findSequence_43 : decode cX5_findSequence 43 = .ok (.ifCond .le 33, 3) := by decide +kernel
theorem dX5_findSequence_46 : decode cX5_findSequence 46 = .ok (.aload_n 0, 1) := by decide +kernel
theorem dX5_findSequence_47 : decode cX5_findSequence 47 = .ok (.iload_n 2, 1) := by decide +kernel
theorem dX5_findSequence_48 : decode cX5_findSequence 48 = .ok (.invokevirtual 195, 3) := by decide +kernel
theorem dX5_findSequence_51 : decode cX5_findSequence 51 = .ok (.ifCond .eq 25, 3) := by decide +kernel
theorem dX5_findSequence_54 : decode cX5_findSequence 54 = .ok (.aload_n 0, 1) := by decide +kernel
theorem dX5_findSequence_55 : decode cX5_findSequence 55 = .ok (.getfield 41, 3) := by decide +kernel
theorem dX5_findSequence_58 : decode cX5_findSequence 58 = .ok (.aload_n 0, 1) := by decide +kernel
theorem dX5_findSequence_59 : decode cX5_findSequence 59 = .ok (.getfield 192, 3) := by decide +kernel
theorem dX5_findSequence_62 : decode cX5_findSequence 62 = .ok (.iload_n 2, 1) := by decide +kernel
theorem dX5_findSequence_63 : decode cX5_findSequence 63 = .ok (.iastore, 1) := by decide +kernel
theorem dX5_findSequence_64 : decode cX5_findSequence 64 = .ok (.aload_n 0, 1) := by decide +kernel
theorem dX5_findSequence_65 : decode cX5_findSequence 65 = .ok (.dup, 1) := by decide +kernel
theorem dX5_findSequence_66 : decode cX5_findSequence 66 = .ok (.getfield 192, 3) := by decide +kernel
theorem dX5_findSequence_69 : decode cX5_findSequence 69 = .ok (.iconst 1, 1) := by decide +kernel
theorem dX5_findSequence_70 : decode cX5_findSequence 70 = .ok (.iadd, 1) := by decide +kernel
theorem dX5_findSequence_71 : decode cX5_findSequence 71 = .ok (.putfield 192, 3) := by decide +kernel
theorem dX5_findSequence_74 : decode cX5_findSequence 74 = .ok (.iconst 1, 1) := by decide +kernel
theorem dX5_findSequence_75 : decode cX5_findSequence 75 = .ok (.istore_n 1, 1) := by decide +kernel
theorem dX5_findSequence_76 : decode cX5_findSequence 76 = .ok (.iinc 2 1, 3) := by decide +kernel
theorem dX5_findSequence_79 : decode cX5_findSequence 79 = .ok (.goto (-56), 3) := by decide +kernel
theorem dX5_findSequence_82 : decode cX5_findSequence 82 = .ok (.goto (-67), 3) := by decide +kernel
theorem dX5_findSequence_85 : decode cX5_findSequence 85 = .ok (.return_, 1) := by decide +kernel
theorem dX5_isPlain_0 : decode cX5_isPlain 0 = .ok (.aload_n 0, 1) := by decide +kernel
theorem dX5_isPlain_1 : decode cX5_isPlain 1 = .ok (.invokevirtual 198, 3) := by decide +kernel
theorem dX5_isPlain_4 : decode cX5_isPlain 4 = .ok (.aload_n 0, 1) := by decide +kernel
theorem dX5_isPlain_5 : decode cX5_isPlain 5 = .ok (.invokevirtual 183, 3) := by decide +kernel
theorem dX5_isPlain_8 : decode cX5_isPlain 8 = .ok (.ifCond .ne 7, 3) := by decide +kernel
theorem dX5_isPlain_11 : decode cX5_isPlain 11 = .ok (.iconst 1, 1) := by decide +kernel
theorem dX5_isPlain_12 : decode cX5_isPlain 12 = .ok (.goto 4, 3) := by decide +kernel
theorem dX5_isPlain_15 : decode cX5_isPlain 15 = .ok (.iconst 0, 1) := by decide +kernel
theorem dX5_isPlain_16 : decode cX5_isPlain 16 = .ok (.ireturn, 1) := by decide +kernel
theorem dX5_leftBy_0 : decode cX5_leftBy 0 = .ok (.aload_n 0, 1) := by decide +kernel
theorem dX5_leftBy_1 : decode cX5_leftBy 1 = .ok (.iload_n 1, 1) := by decide +kernel
theorem dX5_leftBy_2 : decode cX5_leftBy 2 = .ok (.iconst 1, 1) := by decide +kernel
theorem dX5_leftBy_3 : decode cX5_leftBy 3 = .ok (.invokevirtual 122, 3) := by decide +kernel
theorem dX5_leftBy_6 : decode cX5_leftBy 6 = .ok (.aload_n 0, 1) := by decide +kernel
theorem dX5_leftBy_7 : decode cX5_leftBy 7 = .ok (.iload_n 1, 1) := by decide +kernel
theorem dX5_leftBy_8 : decode cX5_leftBy 8 = .ok (.iconst 0, 1) := by decide +kernel
theorem dX5_leftBy_9 : decode cX5_leftBy 9 = .ok (.invokevirtual 122, 3) := by decide +kernel
theorem dX5_leftBy_12 : decode cX5_leftBy 12 = .ok (.if_icmp .le 14, 3) := by decide +kernel
theorem dX5_leftBy_15 : decode cX5_leftBy 15 = .ok (.aload_n 0, 1) := by decide +kernel
theorem dX5_leftBy_16 : decode cX5_leftBy 16 = .ok (.iload_n 1, 1) := by decide +kernel
theorem dX5_leftBy_17 : decode cX5_leftBy 17 = .ok (.iconst 3, 1) := by decide +kernel
theorem dX5_leftBy_18 : decode cX5_leftBy 18 = .ok (.invokevirtual 122, 3) := by decide +kernel
theorem dX5_leftBy_21 : decode cX5_leftBy 21 = .ok (.iconst 1, 1) := by decide +kernel
theorem dX5_leftBy_22 : decode cX5_leftBy 22 = .ok (.isub, 1) := by decide +kernel
theorem dX5_leftBy_23 : decode cX5_leftBy 23 = .ok (.goto 11, 3) := by decide +kernel
theorem dX5_leftBy_26 : decode cX5_leftBy 26 = .ok (.aload_n 0, 1) := by decide +kernel
theorem dX5_leftBy_27 : decode cX5_leftBy 27 = .ok (.iload_n 1, 1) := by decide +kernel
theorem dX5_leftBy_28 : decode cX5_leftBy 28 = .ok (.iconst 3, 1) := by decide +kernel
theorem dX5_leftBy_29 : decode cX5_leftBy 29 = .ok (.invokevirtual 122, 3) := by decide +kernel
theorem dX5_leftBy_32 : decode cX5_leftBy 32 = .ok (.iconst 1, 1) := by decide +kernel
theorem dX5_leftBy_33 : decode cX5_leftBy 33 = .ok (.iadd, 1) := by decide +kernel
theorem dX5_leftBy_34 : decode cX5_leftBy 34 = .ok (.ireturn, 1) := by decide +kernel
theorem dX5_runsBetween_0 : decode cX5_runsBetween 0 = .ok (.iconst 0, 1) := by decide +kernel
theorem dX5_runsBetween_1 : decode cX5_runsBetween 1 = .ok (.istore_n 3, 1) := by decide +kernel
theorem dX5_runsBetween_2 : decode cX5_runsBetween 2 = .ok (.iload_n 3, 1) := by decide +kernel
theorem dX5_runsBetween_3 : decode cX5_runsBetween 3 = .ok (.aload_n 0, 1) := by decide +kernel
theorem dX5_runsBetween_4 : decode cX5_runsBetween 4 = .ok (.getfield 7, 3) := by decide +kernel
theorem dX5_runsBetween_7 : decode cX5_runsBetween 7 = .ok (.iconst 1, 1) := by decide +kernel
theorem dX5_runsBetween_8 : decode cX5_runsBetween 8 = .ok (.iaload, 1) := by decide +kernel
theorem dX5_runsBetween_9 : decode cX5_runsBetween 9 = .ok (.if_icmp .ge 60, 3) := by decide +kernel
theorem dX5_runsBetween_12 : decode cX5_runsBetween 12 = .ok (.aload_n 0, 1) := by decide +kernel
theorem dX5_runsBetween_13 : decode cX5_runsBetween 13 = .ok (.iload_n 3, 1) := by decide +kernel
theorem dX5_runsBetween_14 : decode cX5_runsBetween 14 = .ok (.iconst 4, 1) := by decide +kernel
theorem dX5_runsBetween_15 : decode cX5_runsBetween 15 = .ok (.invokevirtual 122, 3) := by decide +kernel
theorem dX5_runsBetween_18 : decode cX5_runsBetween 18 = .ok (.iconst 1, 1) := by decide +kernel
theorem dX5_runsBetween_19 : decode cX5_runsBetween 19 = .ok (.if_icmp .ne 44, 3) := by decide +kernel
theorem dX5_runsBetween_22 : decode cX5_runsBetween 22 = .ok (.aload_n 0, 1) := by decide +kernel
theorem dX5_runsBetween_23 : decode cX5_runsBetween 23 = .ok (.iload_n 3, 1) := by decide +kernel
theorem dX5_runsBetween_24 : decode cX5_runsBetween 24 = .ok (.invokevirtual 201, 3) := by decide +kernel
theorem dX5_runsBetween_27 : decode cX5_runsBetween 27 = .ok (.istore 4, 2) := by decide +kernel
theorem dX5_runsBetween_29 : decode cX5_runsBetween 29 = .ok (.iload 4, 2) := by decide +kernel
theorem dX5_runsBetween_31 : decode cX5_runsBetween 31 = .ok (.iload_n 1, 1) := by decide +kernel
theorem dX5_runsBetween_32 : decode cX5_runsBetween 32 = .ok (.if_icmp .ne 13, 3) := by decide +kernel
theorem dX5_runsBetween_35 : decode cX5_runsBetween 35 = .ok (.aload_n 0, 1) := by decide +kernel
theorem dX5_runsBetween_36 : decode cX5_runsBetween 36 = .ok (.iload_n 3, 1) := by decide +kernel
theorem dX5_runsBetween_37 : decode cX5_runsBetween 37 = .ok (.iconst 3, 1) := by decide +kernel
theorem dX5_runsBetween_38 : decode cX5_runsBetween 38 = .ok (.invokevirtual 122, 3) := by decide +kernel
theorem dX5_runsBetween_41 : decode cX5_runsBetween 41 = .ok (.iload_n 2, 1) := by decide +kernel
theorem dX5_runsBetween_42 : decode cX5_runsBetween 42 = .ok (.if_icmp .eq 19, 3) := by decide +kernel
theorem dX5_runsBetween_45 : decode cX5_runsBetween 45 = .ok (.iload 4, 2) := by decide +kernel
theorem dX5_runsBetween_47 : decode cX5_runsBetween 47 = .ok (.iload_n 2, 1) := by decide +kernel
theorem dX5_runsBetween_48 : decode cX5_runsBetween 48 = .ok (.if_icmp .ne 15, 3) := by decide +kernel
theorem dX5_runsBetween_51 : decode cX5_runsBetween 51 = .ok (.aload_n 0, 1) := by decide +kernel
theorem dX5_runsBetween_52 : decode cX5_runsBetween 52 = .ok (.iload_n 3, 1) := by decide +kernel
theorem dX5_runsBetween_53 : decode cX5_runsBetween 53 = .ok (.iconst 3, 1) := by decide +kernel
theorem dX5_runsBetween_54 : decode cX5_runsBetween 54 = .ok (.invokevirtual 122, 3) := by decide +kernel
theorem dX5_runsBetween_57 : decode cX5_runsBetween 57 = .ok (.iload_n 1, 1) := by decide +kernel
theorem dX5_runsBetween_58 : decode cX5_runsBetween 58 = .ok (.if_icmp .ne 5, 3) := by decide +kernel
theorem dX5_runsBetween_61 : decode cX5_runsBetween 61 = .ok (.iload_n 3, 1) := by decide +kernel
theorem dX5_runsBetween_62 : decode cX5_runsBetween 62 = .ok (.ireturn, 1) := by decide +kernel
theorem dX5_runsBetween_63 : decode cX5_runsBetween 63 = .ok (.iinc 3 1, 3) := by decide +kernel
theorem dX5_runsBetween_66 : decode cX5_runsBetween 66 = .ok (.goto (-64), 3) := by decide +kernel
theorem dX5_runsBetween_69 : decode cX5_runsBetween 69 = .ok (.bipush (-4), 2) := by decide +kernel
theorem dX5_runsBetween_71 : decode cX5_runsBetween 71 = .ok (.ireturn, 1) := by decide +kernel
theorem dX5_against_0 : decode cX5_against 0 = .ok (.aload_n 0, 1) := by decide +kernel
theorem dX5_against_1 : decode cX5_against 1 = .ok (.iload_n 1, 1) := by decide +kernel
theorem dX5_against_2 : decode cX5_against 2 = .ok (.iconst 4, 1) := by decide +kernel
theorem dX5_against_3 : decode cX5_against 3 = .ok (.invokevirtual 122, 3) := by decide +kernel
theorem dX5_against_6 : decode cX5_against 6 = .ok (.ifCond .eq 19, 3) := by decide +kernel
theorem dX5_against_9 : decode cX5_against 9 = .ok (.aload_n 0, 1) := by decide +kernel
theorem dX5_against_10 : decode cX5_against 10 = .ok (.iload_n 1, 1) := by decide +kernel
theorem dX5_against_11 : decode cX5_against 11 = .ok (.iconst 4, 1) := by decide +kernel
theorem dX5_against_12 : decode cX5_against 12 = .ok (.invokevirtual 122, 3) := by decide +kernel
theorem dX5_against_15 : decode cX5_against 15 = .ok (.iconst 2, 1) := by decide +kernel
theorem dX5_against_16 : decode cX5_against 16 = .ok (.if_icmp .ne 7, 3) := by decide +kernel
theorem dX5_against_19 : decode cX5_against 19 = .ok (.iconst 1, 1) := by decide +kernel
theorem dX5_against_20 : decode cX5_against 20 = .ok (.goto 4, 3) := by decide +kernel
theorem dX5_against_23 : decode cX5_against 23 = .ok (.iconst 2, 1) := by decide +kernel
theorem dX5_against_24 : decode cX5_against 24 = .ok (.ireturn, 1) := by decide +kernel
theorem dX5_against_25 : decode cX5_against 25 = .ok (.aload_n 0, 1) := by decide +kernel
theorem dX5_against_26 : decode cX5_against 26 = .ok (.iload_n 1, 1) := by decide +kernel
theorem dX5_against_27 : decode cX5_against 27 = .ok (.iconst 3, 1) := by decide +kernel
theorem dX5_against_28 : decode cX5_against 28 = .ok (.invokevirtual 122, 3) := by decide +kernel
theorem dX5_against_31 : decode cX5_against 31 = .ok (.istore_n 2, 1) := by decide +kernel
theorem dX5_against_32 : decode cX5_against 32 = .ok (.aload_n 0, 1) := by decide +kernel
theorem dX5_against_33 : decode cX5_against 33 = .ok (.iload_n 2, 1) := by decide +kernel
theorem dX5_against_34 : decode cX5_against 34 = .ok (.aload_n 0, 1) := by decide +kernel
theorem dX5_against_35 : decode cX5_against 35 = .ok (.iload_n 1, 1) := by decide +kernel
theorem dX5_against_36 : decode cX5_against 36 = .ok (.iload_n 2, 1) := by decide +kernel
theorem dX5_against_37 : decode cX5_against 37 = .ok (.invokevirtual 161, 3) := by decide +kernel
theorem dX5_against_40 : decode cX5_against 40 = .ok (.invokevirtual 204, 3) := by decide +kernel
theorem dX5_against_43 : decode cX5_against 43 = .ok (.bipush (-4), 2) := by decide +kernel
theorem dX5_against_45 : decode cX5_against 45 = .ok (.if_icmp .eq 5, 3) := by decide +kernel
theorem dX5_against_48 : decode cX5_against 48 = .ok (.iconst 3, 1) := by decide +kernel
theorem dX5_against_49 : decode cX5_against 49 = .ok (.ireturn, 1) := by decide +kernel
theorem dX5_against_50 : decode cX5_against 50 = .ok (.aload_n 0, 1) := by decide +kernel
theorem dX5_against_51 : decode cX5_against 51 = .ok (.aload_n 0, 1) := by decide +kernel
theorem dX5_against_52 : decode cX5_against 52 = .ok (.invokevirtual 126, 3) := by decide +kernel
theorem dX5_against_55 : decode cX5_against 55 = .ok (.invokevirtual 129, 3) := by decide +kernel
theorem dX5_against_58 : decode cX5_against 58 = .ok (.aload_n 0, 1) := by decide +kernel
theorem dX5_against_59 : decode cX5_against 59 = .ok (.iload_n 1, 1) := by decide +kernel
theorem dX5_against_60 : decode cX5_against 60 = .ok (.invokevirtual 189, 3) := by decide +kernel
theorem dX5_against_63 : decode cX5_against 63 = .ok (.istore_n 3, 1) := by decide +kernel
theorem dX5_against_64 : decode cX5_against 64 = .ok (.iload_n 3, 1) := by decide +kernel
theorem dX5_against_65 : decode cX5_against 65 = .ok (.bipush (-4), 2) := by decide +kernel
theorem dX5_against_67 : decode cX5_against 67 = .ok (.if_icmp .ne 7, 3) := by decide +kernel
theorem dX5_against_70 : decode cX5_against 70 = .ok (.iconst 4, 1) := by decide +kernel
theorem dX5_against_71 : decode cX5_against 71 = .ok (.goto 17, 3) := by decide +kernel
theorem dX5_against_74 : decode cX5_against 74 = .ok (.aload_n 0, 1) := by decide +kernel
theorem dX5_against_75 : decode cX5_against 75 = .ok (.getfield 38, 3) := by decide +kernel
theorem dX5_against_78 : decode cX5_against 78 = .ok (.iload_n 3, 1) := by decide +kernel
theorem dX5_against_79 : decode cX5_against 79 = .ok (.baload, 1) := by decide +kernel
theorem dX5_against_80 : decode cX5_against 80 = .ok (.ifCond .eq 7, 3) := by decide +kernel
theorem dX5_against_83 : decode cX5_against 83 = .ok (.iconst 0, 1) := by decide +kernel
theorem dX5_against_84 : decode cX5_against 84 = .ok (.goto 4, 3) := by decide +kernel
theorem dX5_against_87 : decode cX5_against 87 = .ok (.iconst 5, 1) := by decide +kernel
theorem dX5_against_88 : decode cX5_against 88 = .ok (.ireturn, 1) := by decide +kernel
theorem dX5_canGo_0 : decode cX5_canGo 0 = .ok (.aload_n 0, 1) := by decide +kernel
theorem dX5_canGo_1 : decode cX5_canGo 1 = .ok (.aload_n 0, 1) := by decide +kernel
theorem dX5_canGo_2 : decode cX5_canGo 2 = .ok (.invokevirtual 126, 3) := by decide +kernel
theorem dX5_canGo_5 : decode cX5_canGo 5 = .ok (.invokevirtual 136, 3) := by decide +kernel
theorem dX5_canGo_8 : decode cX5_canGo 8 = .ok (.iconst 0, 1) := by decide +kernel
theorem dX5_canGo_9 : decode cX5_canGo 9 = .ok (.istore_n 1, 1) := by decide +kernel
theorem dX5_canGo_10 : decode cX5_canGo 10 = .ok (.iconst 0, 1) := by decide +kernel
theorem dX5_canGo_11 : decode cX5_canGo 11 = .ok (.istore_n 2, 1) := by decide +kernel
theorem dX5_canGo_12 : decode cX5_canGo 12 = .ok (.iload_n 2, 1) := by decide +kernel
theorem dX5_canGo_13 : decode cX5_canGo 13 = .ok (.aload_n 0, 1) := by decide +kernel
theorem dX5_canGo_14 : decode cX5_canGo 14 = .ok (.getfield 7, 3) := by decide +kernel
theorem dX5_canGo_17 : decode cX5_canGo 17 = .ok (.iconst 1, 1) := by decide +kernel
theorem dX5_canGo_18 : decode cX5_canGo 18 = .ok (.iaload, 1) := by decide +kernel
theorem dX5_canGo_19 : decode cX5_canGo 19 = .ok (.if_icmp .ge 28, 3) := by decide +kernel
theorem dX5_canGo_22 : decode cX5_canGo 22 = .ok (.iload_n 1, 1) := by decide +kernel
theorem dX5_canGo_23 : decode cX5_canGo 23 = .ok (.aload_n 0, 1) := by decide +kernel
theorem dX5_canGo_24 : decode cX5_canGo 24 = .ok (.iload_n 2, 1) := by decide +kernel
theorem dX5_canGo_25 : decode cX5_canGo 25 = .ok (.invokevirtual 207, 3) := by decide +kernel
theorem dX5_canGo_28 : decode cX5_canGo 28 = .ok (.ifCond .ne 7, 3) := by decide +kernel
theorem dX5_canGo_31 : decode cX5_canGo 31 = .ok (.iconst 1, 1) := by decide +kernel
theorem dX5_canGo_32 : decode cX5_canGo 32 = .ok (.goto 4, 3) := by decide +kernel
theorem dX5_canGo_35 : decode cX5_canGo 35 = .ok (.iconst 0, 1) := by decide +kernel
theorem dX5_canGo_36 : decode cX5_canGo 36 = .ok (.invokestatic 167, 3) := by decide +kernel
theorem dX5_canGo_39 : decode cX5_canGo 39 = .ok (.iadd, 1) := by decide +kernel
theorem dX5_canGo_40 : decode cX5_canGo 40 = .ok (.istore_n 1, 1) := by decide +kernel
theorem dX5_canGo_41 : decode cX5_canGo 41 = .ok (.iinc 2 1, 3) := by decide +kernel
theorem dX5_canGo_44 : decode cX5_canGo 44 = .ok (.goto (-32), 3) := by decide +kernel
theorem dX5_canGo_47 : decode cX5_canGo 47 = .ok (.iload_n 1, 1) := by decide +kernel
theorem dX5_canGo_48 : decode cX5_canGo 48 = .ok (.ireturn, 1) := by decide +kernel
theorem dX5_rule_0 : decode cX5_rule 0 = .ok (.iload_n 1, 1) := by decide +kernel
theorem dX5_rule_1 : decode cX5_rule 1 = .ok (.tableswitch 95 0 8 #[51, 51, 51, 58, 64, 70, 77, 85, 90], 51) := by decide +kernel
theorem dX5_rule_52 : decode cX5_rule 52 = .ok (.aload_n 0, 1) := by decide +kernel
theorem dX5_rule_53 : decode cX5_rule 53 = .ok (.getfield 7, 3) := by decide +kernel
theorem dX5_rule_56 : decode cX5_rule 56 = .ok (.iload_n 1, 1) := by decide +kernel
theorem dX5_rule_57 : decode cX5_rule 57 = .ok (.iaload, 1) := by decide +kernel
theorem dX5_rule_58 : decode cX5_rule 58 = .ok (.ireturn, 1) := by decide +kernel
theorem dX5_rule_59 : decode cX5_rule 59 = .ok (.aload_n 0, 1) := by decide +kernel
theorem dX5_rule_60 : decode cX5_rule 60 = .ok (.iconst 1, 1) := by decide +kernel
theorem dX5_rule_61 : decode cX5_rule 61 = .ok (.invokevirtual 210, 3) := by decide +kernel
theorem dX5_rule_64 : decode cX5_rule 64 = .ok (.ireturn, 1) := by decide +kernel
theorem dX5_rule_65 : decode cX5_rule 65 = .ok (.aload_n 0, 1) := by decide +kernel
theorem dX5_rule_66 : decode cX5_rule 66 = .ok (.iconst 2, 1) := by decide +kernel
theorem dX5_rule_67 : decode cX5_rule 67 = .ok (.invokevirtual 210, 3) := by decide +kernel
theorem dX5_rule_70 : decode cX5_rule 70 = .ok (.ireturn, 1) := by decide +kernel
theorem dX5_rule_71 : decode cX5_rule 71 = .ok (.aload_n 0, 1) := by decide +kernel
theorem dX5_rule_72 : decode cX5_rule 72 = .ok (.getfield 7, 3) := by decide +kernel
theorem dX5_rule_75 : decode cX5_rule 75 = .ok (.iconst 3, 1) := by decide +kernel
theorem dX5_rule_76 : decode cX5_rule 76 = .ok (.iaload, 1) := by decide +kernel
theorem dX5_rule_77 : decode cX5_rule 77 = .ok (.ireturn, 1) := by decide +kernel
theorem dX5_rule_78 : decode cX5_rule 78 = .ok (.aload_n 0, 1) := by decide +kernel
theorem dX5_rule_79 : decode cX5_rule 79 = .ok (.invokevirtual 213, 3) := by decide +kernel
theorem dX5_rule_82 : decode cX5_rule 82 = .ok (.invokestatic 167, 3) := by decide +kernel
theorem dX5_rule_85 : decode cX5_rule 85 = .ok (.ireturn, 1) := by decide +kernel
theorem dX5_rule_86 : decode cX5_rule 86 = .ok (.aload_n 0, 1) := by decide +kernel
theorem dX5_rule_87 : decode cX5_rule 87 = .ok (.invokevirtual 216, 3) := by decide +kernel
theorem dX5_rule_90 : decode cX5_rule 90 = .ok (.ireturn, 1) := by decide +kernel
theorem dX5_rule_91 : decode cX5_rule 91 = .ok (.aload_n 0, 1) := by decide +kernel
theorem dX5_rule_92 : decode cX5_rule 92 = .ok (.invokevirtual 219, 3) := by decide +kernel
theorem dX5_rule_95 : decode cX5_rule 95 = .ok (.ireturn, 1) := by decide +kernel
theorem dX5_rule_96 : decode cX5_rule 96 = .ok (.iconst (-1), 1) := by decide +kernel
theorem dX5_rule_97 : decode cX5_rule 97 = .ok (.ireturn, 1) := by decide +kernel
theorem dX5_trackOf_0 : decode cX5_trackOf 0 = .ok (.iconst 0, 1) := by decide +kernel
theorem dX5_trackOf_1 : decode cX5_trackOf 1 = .ok (.istore_n 3, 1) := by decide +kernel
theorem dX5_trackOf_2 : decode cX5_trackOf 2 = .ok (.iload_n 3, 1) := by decide +kernel
theorem dX5_trackOf_3 : decode cX5_trackOf 3 = .ok (.aload_n 0, 1) := by decide +kernel
theorem dX5_trackOf_4 : decode cX5_trackOf 4 = .ok (.iload_n 1, 1) := by decide +kernel
theorem dX5_trackOf_5 : decode cX5_trackOf 5 = .ok (.iconst 0, 1) := by decide +kernel
theorem dX5_trackOf_6 : decode cX5_trackOf 6 = .ok (.invokevirtual 158, 3) := by decide +kernel
theorem dX5_trackOf_9 : decode cX5_trackOf 9 = .ok (.if_icmp .ge 96, 3) := by decide +kernel
theorem dX5_trackOf_12 : decode cX5_trackOf 12 = .ok (.iconst 0, 1) := by decide +kernel
theorem dX5_trackOf_13 : decode cX5_trackOf 13 = .ok (.istore 4, 2) := by decide +kernel
theorem dX5_trackOf_15 : decode cX5_trackOf 15 = .ok (.iconst 0, 1) := by decide +kernel
theorem dX5_trackOf_16 : decode cX5_trackOf 16 = .ok (.istore 5, 2) := by decide +kernel
theorem dX5_trackOf_18 : decode cX5_trackOf 18 = .ok (.iload 5, 2) := by decide +kernel
theorem dX5_trackOf_20 : decode cX5_trackOf 20 = .ok (.aload_n 0, 1) := by decide +kernel
theorem dX5_trackOf_21 : decode cX5_trackOf 21 = .ok (.iload_n 1, 1) := by decide +kernel
theorem dX5_trackOf_22 : decode cX5_trackOf 22 = .ok (.iconst 0, 1) := by decide +kernel
theorem dX5_trackOf_23 : decode cX5_trackOf 23 = .ok (.invokevirtual 158, 3) := by decide +kernel
theorem dX5_trackOf_26 : decode cX5_trackOf 26 = .ok (.if_icmp .ge 58, 3) := by decide +kernel
theorem dX5_trackOf_29 : decode cX5_trackOf 29 = .ok (.aload_n 0, 1) := by decide +kernel
theorem dX5_trackOf_30 : decode cX5_trackOf 30 = .ok (.iload_n 1, 1) := by decide +kernel
theorem dX5_trackOf_31 : decode cX5_trackOf 31 = .ok (.iconst 1, 1) := by decide +kernel
theorem dX5_trackOf_32 : decode cX5_trackOf 32 = .ok (.iload 5, 2) := by decide +kernel
theorem dX5_trackOf_34 : decode cX5_trackOf 34 = .ok (.iadd, 1) := by decide +kernel
theorem dX5_trackOf_35 : decode cX5_trackOf 35 = .ok (.invokevirtual 158, 3) := by decide +kernel
theorem dX5_trackOf_38 : decode cX5_trackOf 38 = .ok (.aload_n 0, 1) := by decide +kernel
theorem dX5_trackOf_39 : decode cX5_trackOf 39 = .ok (.iload_n 1, 1) := by decide +kernel
theorem dX5_trackOf_40 : decode cX5_trackOf 40 = .ok (.iconst 1, 1) := by decide +kernel
theorem dX5_trackOf_41 : decode cX5_trackOf 41 = .ok (.iload_n 3, 1) := by decide +kernel
theorem dX5_trackOf_42 : decode cX5_trackOf 42 = .ok (.iadd, 1) := by decide +kernel
theorem dX5_trackOf_43 : decode cX5_trackOf 43 = .ok (.invokevirtual 158, 3) := by decide +kernel
theorem dX5_trackOf_46 : decode cX5_trackOf 46 = .ok (.isub, 1) := by decide +kernel
theorem dX5_trackOf_47 : decode cX5_trackOf 47 = .ok (.istore 6, 2) := by decide +kernel
theorem dX5_trackOf_49 : decode cX5_trackOf 49 = .ok (.iload 4, 2) := by decide +kernel
theorem dX5_trackOf_51 : decode cX5_trackOf 51 = .ok (.iload 6, 2) := by decide +kernel
theorem dX5_trackOf_53 : decode cX5_trackOf 53 = .ok (.ifCond .gt 14, 3) := by decide +kernel
theorem dX5_trackOf_56 : decode cX5_trackOf 56 = .ok (.iload 6, 2) := by decide +kernel
theorem dX5_trackOf_58 : decode cX5_trackOf 58 = .ok (.ifCond .ne 13, 3) := by decide +kernel
theorem dX5_trackOf_61 : decode cX5_trackOf 61 = .ok (.iload 5, 2) := by decide +kernel
theorem dX5_trackOf_63 : decode cX5_trackOf 63 = .ok (.iload_n 3, 1) := by decide +kernel
theorem dX5_trackOf_64 : decode cX5_trackOf 64 = .ok (.if_icmp .ge 7, 3) := by decide +kernel
theorem dX5_trackOf_67 : decode cX5_trackOf 67 = .ok (.iconst 1, 1) := by decide +kernel
theorem dX5_trackOf_68 : decode cX5_trackOf 68 = .ok (.goto 4, 3) := by decide +kernel
theorem dX5_trackOf_71 : decode cX5_trackOf 71 = .ok (.iconst 0, 1) := by decide +kernel
theorem dX5_trackOf_72 : decode cX5_trackOf 72 = .ok (.invokestatic 167, 3) := by decide +kernel
theorem dX5_trackOf_75 : decode cX5_trackOf 75 = .ok (.iadd, 1) := by decide +kernel
theorem dX5_trackOf_76 : decode cX5_trackOf 76 = .ok (.istore 4, 2) := by decide +kernel
theorem dX5_trackOf_78 : decode cX5_trackOf 78 = .ok (.iinc 5 1, 3) := by decide +kernel
theorem dX5_trackOf_81 : decode cX5_trackOf 81 = .ok (.goto (-63), 3) := by decide +kernel
theorem dX5_trackOf_84 : decode cX5_trackOf 84 = .ok (.iload 4, 2) := by decide +kernel
theorem dX5_trackOf_86 : decode cX5_trackOf 86 = .ok (.iload_n 2, 1) := by decide +kernel
theorem dX5_trackOf_87 : decode cX5_trackOf 87 = .ok (.if_icmp .ne 12, 3) := by decide +kernel
theorem dX5_trackOf_90 : decode cX5_trackOf 90 = .ok (.aload_n 0, 1) := by decide +kernel
theorem dX5_trackOf_91 : decode cX5_trackOf 91 = .ok (.iload_n 1, 1) := by decide +kernel
theorem dX5_trackOf_92 : decode cX5_trackOf 92 = .ok (.iconst 1, 1) := by decide +kernel
theorem dX5_trackOf_93 : decode cX5_trackOf 93 = .ok (.iload_n 3, 1) := by decide +kernel
theorem dX5_trackOf_94 : decode cX5_trackOf 94 = .ok (.iadd, 1) := by decide +kernel
theorem dX5_trackOf_95 : decode cX5_trackOf 95 = .ok (.invokevirtual 158, 3) := by decide +kernel
theorem dX5_trackOf_98 : decode cX5_trackOf 98 = .ok (.ireturn, 1) := by decide +kernel
theorem dX5_trackOf_99 : decode cX5_trackOf 99 = .ok (.iinc 3 1, 3) := by decide +kernel
theorem dX5_trackOf_102 : decode cX5_trackOf 102 = .ok (.goto (-100), 3) := by decide +kernel
theorem dX5_trackOf_105 : decode cX5_trackOf 105 = .ok (.bipush (-4), 2) := by decide +kernel
theorem dX5_trackOf_107 : decode cX5_trackOf 107 = .ok (.ireturn, 1) := by decide +kernel
theorem dX5_trainsAt_0 : decode cX5_trainsAt 0 = .ok (.iconst 0, 1) := by decide +kernel
theorem dX5_trainsAt_1 : decode cX5_trainsAt 1 = .ok (.istore_n 2, 1) := by decide +kernel
theorem dX5_trainsAt_2 : decode cX5_trainsAt 2 = .ok (.iconst 0, 1) := by decide +kernel
theorem dX5_trainsAt_3 : decode cX5_trainsAt 3 = .ok (.istore_n 3, 1) := by decide +kernel
theorem dX5_trainsAt_4 : decode cX5_trainsAt 4 = .ok (.iload_n 3, 1) := by decide +kernel
theorem dX5_trainsAt_5 : decode cX5_trainsAt 5 = .ok (.aload_n 0, 1) := by decide +kernel
theorem dX5_trainsAt_6 : decode cX5_trainsAt 6 = .ok (.getfield 7, 3) := by decide +kernel
theorem dX5_trainsAt_9 : decode cX5_trainsAt 9 = .ok (.iconst 1, 1) := by decide +kernel
theorem dX5_trainsAt_10 : decode cX5_trainsAt 10 = .ok (.iaload, 1) := by decide +kernel
theorem dX5_trainsAt_11 : decode cX5_trainsAt 11 = .ok (.if_icmp .ge 38, 3) := by decide +kernel
theorem dX5_trainsAt_14 : decode cX5_trainsAt 14 = .ok (.iload_n 2, 1) := by decide +kernel
theorem dX5_trainsAt_15 : decode cX5_trainsAt 15 = .ok (.aload_n 0, 1) := by decide +kernel
theorem dX5_trainsAt_16 : decode cX5_trainsAt 16 = .ok (.iload_n 3, 1) := by decide +kernel
theorem dX5_trainsAt_17 : decode cX5_trainsAt 17 = .ok (.invokevirtual 171, 3) := by decide +kernel
theorem dX5_trainsAt_20 : decode cX5_trainsAt 20 = .ok (.ifCond .ne 17, 3) := by decide +kernel
theorem dX5_trainsAt_23 : decode cX5_trainsAt 23 = .ok (.aload_n 0, 1) := by decide +kernel
theorem dX5_trainsAt_24 : decode cX5_trainsAt 24 = .ok (.iload_n 3, 1) := by decide +kernel
theorem dX5_trainsAt_25 : decode cX5_trainsAt 25 = .ok (.iconst 3, 1) := by decide +kernel
theorem dX5_trainsAt_26 : decode cX5_trainsAt 26 = .ok (.invokevirtual 122, 3) := by decide +kernel
theorem dX5_trainsAt_29 : decode cX5_trainsAt 29 = .ok (.iload_n 1, 1) := by decide +kernel
theorem dX5_trainsAt_30 : decode cX5_trainsAt 30 = .ok (.if_icmp .ne 7, 3) := by decide +kernel
theorem dX5_trainsAt_33 : decode cX5_trainsAt 33 = .ok (.iconst 1, 1) := by decide +kernel
theorem dX5_trainsAt_34 : decode cX5_trainsAt 34 = .ok (.goto 4, 3) := by decide +kernel
theorem dX5_trainsAt_37 : decode cX5_trainsAt 37 = .ok (.iconst 0, 1) := by decide +kernel
theorem dX5_trainsAt_38 : decode cX5_trainsAt 38 = .ok (.invokestatic 167, 3) := by decide +kernel
theorem dX5_trainsAt_41 : decode cX5_trainsAt 41 = .ok (.iadd, 1) := by decide +kernel
theorem dX5_trainsAt_42 : decode cX5_trainsAt 42 = .ok (.istore_n 2, 1) := by decide +kernel
theorem dX5_trainsAt_43 : decode cX5_trainsAt 43 = .ok (.iinc 3 1, 3) := by decide +kernel
theorem dX5_trainsAt_46 : decode cX5_trainsAt 46 = .ok (.goto (-42), 3) := by decide +kernel
theorem dX5_trainsAt_49 : decode cX5_trainsAt 49 = .ok (.iload_n 2, 1) := by decide +kernel
theorem dX5_trainsAt_50 : decode cX5_trainsAt 50 = .ok (.ireturn, 1) := by decide +kernel
theorem dX5_place_0 : decode cX5_place 0 = .ok (.aload_n 0, 1) := by decide +kernel
theorem dX5_place_1 : decode cX5_place 1 = .ok (.iload_n 1, 1) := by decide +kernel
theorem dX5_place_2 : decode cX5_place 2 = .ok (.invokevirtual 222, 3) := by decide +kernel
theorem dX5_place_5 : decode cX5_place 5 = .ok (.ifCond .ne 5, 3) := by decide +kernel
theorem dX5_place_8 : decode cX5_place 8 = .ok (.iconst (-1), 1) := by decide +kernel
theorem dX5_place_9 : decode cX5_place 9 = .ok (.ireturn, 1) := by decide +kernel
theorem dX5_place_10 : decode cX5_place 10 = .ok (.iload_n 2, 1) := by decide +kernel
theorem dX5_place_11 : decode cX5_place 11 = .ok (.tableswitch 83 0 5 #[37, 44, 44, 44, 53, 59], 37) := by decide +kernel
theorem dX5_place_48 : decode cX5_place 48 = .ok (.aload_n 0, 1) := by decide +kernel
theorem dX5_place_49 : decode cX5_place 49 = .ok (.iload_n 1, 1) := by decide +kernel
theorem dX5_place_50 : decode cX5_place 50 = .ok (.iconst 0, 1) := by decide +kernel
theorem dX5_place_51 : decode cX5_place 51 = .ok (.invokevirtual 158, 3) := by decide +kernel
theorem dX5_place_54 : decode cX5_place 54 = .ok (.ireturn, 1) := by decide +kernel
theorem dX5_place_55 : decode cX5_place 55 = .ok (.aload_n 0, 1) := by decide +kernel
theorem dX5_place_56 : decode cX5_place 56 = .ok (.iload_n 1, 1) := by decide +kernel
theorem dX5_place_57 : decode cX5_place 57 = .ok (.iload_n 2, 1) := by decide +kernel
theorem dX5_place_58 : decode cX5_place 58 = .ok (.iconst 1, 1) := by decide +kernel
theorem dX5_place_59 : decode cX5_place 59 = .ok (.isub, 1) := by decide +kernel
theorem dX5_place_60 : decode cX5_place 60 = .ok (.invokevirtual 225, 3) := by decide +kernel
theorem dX5_place_63 : decode cX5_place 63 = .ok (.ireturn, 1) := by decide +kernel
theorem dX5_place_64 : decode cX5_place 64 = .ok (.aload_n 0, 1) := by decide +kernel
theorem dX5_place_65 : decode cX5_place 65 = .ok (.iload_n 1, 1) := by decide +kernel
theorem dX5_place_66 : decode cX5_place 66 = .ok (.invokevirtual 228, 3) := by decide +kernel
theorem dX5_place_69 : decode cX5_place 69 = .ok (.ireturn, 1) := by decide +kernel
theorem dX5_place_70 : decode cX5_place 70 = .ok (.iload_n 1, 1) := by decide +kernel
theorem dX5_place_71 : decode cX5_place 71 = .ok (.aload_n 0, 1) := by decide +kernel
theorem dX5_place_72 : decode cX5_place 72 = .ok (.getfield 7, 3) := by decide +kernel
theorem dX5_place_75 : decode cX5_place 75 = .ok (.iconst 0, 1) := by decide +kernel
theorem dX5_place_76 : decode cX5_place 76 = .ok (.iaload, 1) := by decide +kernel
theorem dX5_place_77 : decode cX5_place 77 = .ok (.iconst 1, 1) := by decide +kernel
theorem dX5_place_78 : decode cX5_place 78 = .ok (.isub, 1) := by decide +kernel
theorem dX5_place_79 : decode cX5_place 79 = .ok (.if_icmp .ne 8, 3) := by decide +kernel
theorem dX5_place_82 : decode cX5_place 82 = .ok (.bipush (-4), 2) := by decide +kernel
theorem dX5_place_84 : decode cX5_place 84 = .ok (.goto 9, 3) := by decide +kernel
theorem dX5_place_87 : decode cX5_place 87 = .ok (.aload_n 0, 1) := by decide +kernel
theorem dX5_place_88 : decode cX5_place 88 = .ok (.iload_n 1, 1) := by decide +kernel
theorem dX5_place_89 : decode cX5_place 89 = .ok (.iconst 4, 1) := by decide +kernel
theorem dX5_place_90 : decode cX5_place 90 = .ok (.invokevirtual 158, 3) := by decide +kernel
theorem dX5_place_93 : decode cX5_place 93 = .ok (.ireturn, 1) := by decide +kernel
theorem dX5_place_94 : decode cX5_place 94 = .ok (.iconst (-1), 1) := by decide +kernel
theorem dX5_place_95 : decode cX5_place 95 = .ok (.ireturn, 1) := by decide +kernel
theorem dX5_train_0 : decode cX5_train 0 = .ok (.aload_n 0, 1) := by decide +kernel
theorem dX5_train_1 : decode cX5_train 1 = .ok (.iload_n 1, 1) := by decide +kernel
theorem dX5_train_2 : decode cX5_train 2 = .ok (.invokevirtual 231, 3) := by decide +kernel
theorem dX5_train_5 : decode cX5_train 5 = .ok (.ifCond .ne 5, 3) := by decide +kernel
theorem dX5_train_8 : decode cX5_train 8 = .ok (.iconst (-1), 1) := by decide +kernel
theorem dX5_train_9 : decode cX5_train 9 = .ok (.ireturn, 1) := by decide +kernel
theorem dX5_train_10 : decode cX5_train 10 = .ok (.iload_n 2, 1) := by decide +kernel
theorem dX5_train_11 : decode cX5_train 11 = .ok (.tableswitch 74 0 6 #[41, 41, 41, 48, 41, 41, 68], 41) := by decide +kernel
theorem dX5_train_52 : decode cX5_train 52 = .ok (.aload_n 0, 1) := by decide +kernel
theorem dX5_train_53 : decode cX5_train 53 = .ok (.iload_n 1, 1) := by decide +kernel
theorem dX5_train_54 : decode cX5_train 54 = .ok (.iload_n 2, 1) := by decide +kernel
theorem dX5_train_55 : decode cX5_train 55 = .ok (.invokevirtual 122, 3) := by decide +kernel
theorem dX5_train_58 : decode cX5_train 58 = .ok (.ireturn, 1) := by decide +kernel
theorem dX5_train_59 : decode cX5_train 59 = .ok (.aload_n 0, 1) := by decide +kernel
theorem dX5_train_60 : decode cX5_train 60 = .ok (.iload_n 1, 1) := by decide +kernel
theorem dX5_train_61 : decode cX5_train 61 = .ok (.invokevirtual 171, 3) := by decide +kernel
theorem dX5_train_64 : decode cX5_train 64 = .ok (.ifCond .eq 8, 3) := by decide +kernel
theorem dX5_train_67 : decode cX5_train 67 = .ok (.bipush (-4), 2) := by decide +kernel
theorem dX5_train_69 : decode cX5_train 69 = .ok (.goto 9, 3) := by decide +kernel
theorem dX5_train_72 : decode cX5_train 72 = .ok (.aload_n 0, 1) := by decide +kernel
theorem dX5_train_73 : decode cX5_train 73 = .ok (.iload_n 1, 1) := by decide +kernel
theorem dX5_train_74 : decode cX5_train 74 = .ok (.iconst 3, 1) := by decide +kernel
theorem dX5_train_75 : decode cX5_train 75 = .ok (.invokevirtual 122, 3) := by decide +kernel
theorem dX5_train_78 : decode cX5_train 78 = .ok (.ireturn, 1) := by decide +kernel
theorem dX5_train_79 : decode cX5_train 79 = .ok (.aload_n 0, 1) := by decide +kernel
theorem dX5_train_80 : decode cX5_train 80 = .ok (.iload_n 1, 1) := by decide +kernel
theorem dX5_train_81 : decode cX5_train 81 = .ok (.invokevirtual 234, 3) := by decide +kernel
theorem dX5_train_84 : decode cX5_train 84 = .ok (.ireturn, 1) := by decide +kernel
theorem dX5_train_85 : decode cX5_train 85 = .ok (.iconst (-1), 1) := by decide +kernel
theorem dX5_train_86 : decode cX5_train 86 = .ok (.ireturn, 1) := by decide +kernel
theorem dX5_why_0 : decode cX5_why 0 = .ok (.aload_n 0, 1) := by decide +kernel
theorem dX5_why_1 : decode cX5_why 1 = .ok (.iload_n 1, 1) := by decide +kernel
theorem dX5_why_2 : decode cX5_why 2 = .ok (.invokevirtual 231, 3) := by decide +kernel
theorem dX5_why_5 : decode cX5_why 5 = .ok (.ifCond .ne 5, 3) := by decide +kernel
theorem dX5_why_8 : decode cX5_why 8 = .ok (.iconst (-1), 1) := by decide +kernel
theorem dX5_why_9 : decode cX5_why 9 = .ok (.ireturn, 1) := by decide +kernel
theorem dX5_why_10 : decode cX5_why 10 = .ok (.aload_n 0, 1) := by decide +kernel
theorem dX5_why_11 : decode cX5_why 11 = .ok (.aload_n 0, 1) := by decide +kernel
theorem dX5_why_12 : decode cX5_why 12 = .ok (.invokevirtual 126, 3) := by decide +kernel
theorem dX5_why_15 : decode cX5_why 15 = .ok (.invokevirtual 136, 3) := by decide +kernel
theorem dX5_why_18 : decode cX5_why 18 = .ok (.aload_n 0, 1) := by decide +kernel
theorem dX5_why_19 : decode cX5_why 19 = .ok (.iload_n 1, 1) := by decide +kernel
theorem dX5_why_20 : decode cX5_why 20 = .ok (.invokevirtual 207, 3) := by decide +kernel
theorem dX5_why_23 : decode cX5_why 23 = .ok (.ireturn, 1) := by decide +kernel
theorem dX5_firstAt_0 : decode cX5_firstAt 0 = .ok (.aload_n 0, 1) := by decide +kernel
theorem dX5_firstAt_1 : decode cX5_firstAt 1 = .ok (.aload_n 0, 1) := by decide +kernel
theorem dX5_firstAt_2 : decode cX5_firstAt 2 = .ok (.invokevirtual 126, 3) := by decide +kernel
theorem dX5_firstAt_5 : decode cX5_firstAt 5 = .ok (.invokevirtual 129, 3) := by decide +kernel
theorem dX5_firstAt_8 : decode cX5_firstAt 8 = .ok (.iconst 0, 1) := by decide +kernel
theorem dX5_firstAt_9 : decode cX5_firstAt 9 = .ok (.istore_n 2, 1) := by decide +kernel
theorem dX5_firstAt_10 : decode cX5_firstAt 10 = .ok (.iload_n 2, 1) := by decide +kernel
theorem dX5_firstAt_11 : decode cX5_firstAt 11 = .ok (.aload_n 0, 1) := by decide +kernel
theorem dX5_firstAt_12 : decode cX5_firstAt 12 = .ok (.getfield 7, 3) := by decide +kernel
theorem dX5_firstAt_15 : decode cX5_firstAt 15 = .ok (.iconst 1, 1) := by decide +kernel
theorem dX5_firstAt_16 : decode cX5_firstAt 16 = .ok (.iaload, 1) := by decide +kernel
theorem dX5_firstAt_17 : decode cX5_firstAt 17 = .ok (.if_icmp .ge 23, 3) := by decide +kernel
theorem dX5_firstAt_20 : decode cX5_firstAt 20 = .ok (.aload_n 0, 1) := by decide +kernel
theorem dX5_firstAt_21 : decode cX5_firstAt 21 = .ok (.getfield 29, 3) := by decide +kernel
theorem dX5_firstAt_24 : decode cX5_firstAt 24 = .ok (.iload_n 2, 1) := by decide +kernel
theorem dX5_firstAt_25 : decode cX5_firstAt 25 = .ok (.iaload, 1) := by decide +kernel
theorem dX5_firstAt_26 : decode cX5_firstAt 26 = .ok (.iload_n 1, 1) := by decide +kernel
theorem dX5_firstAt_27 : decode cX5_firstAt 27 = .ok (.iconst 1, 1) := by decide +kernel
theorem dX5_firstAt_28 : decode cX5_firstAt 28 = .ok (.iadd, 1) := by decide +kernel
theorem dX5_firstAt_29 : decode cX5_firstAt 29 = .ok (.if_icmp .ne 5, 3) := by decide +kernel
theorem dX5_firstAt_32 : decode cX5_firstAt 32 = .ok (.iload_n 2, 1) := by decide +kernel
theorem dX5_firstAt_33 : decode cX5_firstAt 33 = .ok (.ireturn, 1) := by decide +kernel
theorem dX5_firstAt_34 : decode cX5_firstAt 34 = .ok (.iinc 2 1, 3) := by decide +kernel
theorem dX5_firstAt_37 : decode cX5_firstAt 37 = .ok (.goto (-27), 3) := by decide +kernel
theorem dX5_firstAt_40 : decode cX5_firstAt 40 = .ok (.bipush (-4), 2) := by decide +kernel
theorem dX5_firstAt_42 : decode cX5_firstAt 42 = .ok (.ireturn, 1) := by decide +kernel
theorem dX5_isEverDone_0 : decode cX5_isEverDone 0 = .ok (.iconst 0, 1) := by decide +kernel
theorem dX5_isEverDone_1 : decode cX5_isEverDone 1 = .ok (.istore_n 2, 1) := by decide +kernel
theorem dX5_isEverDone_2 : decode cX5_isEverDone 2 = .ok (.iconst 0, 1) := by decide +kernel
theorem dX5_isEverDone_3 : decode cX5_isEverDone 3 = .ok (.istore_n 3, 1) := by decide +kernel
theorem dX5_isEverDone_4 : decode cX5_isEverDone 4 = .ok (.iload_n 3, 1) := by decide +kernel
theorem dX5_isEverDone_5 : decode cX5_isEverDone 5 = .ok (.aload_n 0, 1) := by decide +kernel
theorem dX5_isEverDone_6 : decode cX5_isEverDone 6 = .ok (.getfield 186, 3) := by decide +kernel
theorem dX5_isEverDone_9 : decode cX5_isEverDone 9 = .ok (.if_icmp .ge 36, 3) := by decide +kernel
theorem dX5_isEverDone_12 : decode cX5_isEverDone 12 = .ok (.iload_n 2, 1) := by decide +kernel
theorem dX5_isEverDone_13 : decode cX5_isEverDone 13 = .ok (.ifCond .ne 20, 3) := by decide +kernel
theorem dX5_isEverDone_16 : decode cX5_isEverDone 16 = .ok (.aload_n 0, 1) := by decide +kernel
theorem dX5_isEverDone_17 : decode cX5_isEverDone 17 = .ok (.getfield 32, 3) := by decide +kernel
theorem dX5_isEverDone_20 : decode cX5_isEverDone 20 = .ok (.iload_n 3, 1) := by decide +kernel
theorem dX5_isEverDone_21 : decode cX5_isEverDone 21 = .ok (.iaload, 1) := by decide +kernel
theorem dX5_isEverDone_22 : decode cX5_isEverDone 22 = .ok (.iload_n 1, 1) := by decide +kernel
theorem dX5_isEverDone_23 : decode cX5_isEverDone 23 = .ok (.invokestatic 174, 3) := by decide +kernel
theorem dX5_isEverDone_26 : decode cX5_isEverDone 26 = .ok (.idiv, 1) := by decide +kernel
theorem dX5_isEverDone_27 : decode cX5_isEverDone 27 = .ok (.bipush 7, 2) := by decide +kernel
theorem dX5_isEverDone_29 : decode cX5_isEverDone 29 = .ok (.irem, 1) := by decide +kernel
theorem dX5_isEverDone_30 : decode cX5_isEverDone 30 = .ok (.ifCond .ne 7, 3) := by decide +kernel
theorem dX5_isEverDone_33 : decode cX5_isEverDone 33 = .ok (.iconst 1, 1) := by decide +kernel
theorem dX5_isEverDone_34 : decode cX5_isEverDone 34 = .ok (.goto 4, 3) := by decide +kernel
theorem dX5_isEverDone_37 : decode cX5_isEverDone 37 = .ok (.iconst 0, 1) := by decide +kernel
theorem dX5_isEverDone_38 : decode cX5_isEverDone 38 = .ok (.istore_n 2, 1) := by decide +kernel
theorem dX5_isEverDone_39 : decode cX5_isEverDone 39 = .ok (.iinc 3 1, 3) := by decide +kernel
theorem dX5_isEverDone_42 : decode cX5_isEverDone 42 = .ok (.goto (-38), 3) := by decide +kernel
theorem dX5_isEverDone_45 : decode cX5_isEverDone 45 = .ok (.iload_n 2, 1) := by decide +kernel
theorem dX5_isEverDone_46 : decode cX5_isEverDone 46 = .ok (.ireturn, 1) := by decide +kernel
theorem dX5_firstStuck_0 : decode cX5_firstStuck 0 = .ok (.aload_n 0, 1) := by decide +kernel
theorem dX5_firstStuck_1 : decode cX5_firstStuck 1 = .ok (.aload_n 0, 1) := by decide +kernel
theorem dX5_firstStuck_2 : decode cX5_firstStuck 2 = .ok (.invokevirtual 126, 3) := by decide +kernel
theorem dX5_firstStuck_5 : decode cX5_firstStuck 5 = .ok (.invokevirtual 129, 3) := by decide +kernel
theorem dX5_firstStuck_8 : decode cX5_firstStuck 8 = .ok (.aload_n 0, 1) := by decide +kernel
theorem dX5_firstStuck_9 : decode cX5_firstStuck 9 = .ok (.aload_n 0, 1) := by decide +kernel
theorem dX5_firstStuck_10 : decode cX5_firstStuck 10 = .ok (.iload_n 1, 1) := by decide +kernel
theorem dX5_firstStuck_11 : decode cX5_firstStuck 11 = .ok (.invokevirtual 189, 3) := by decide +kernel
theorem dX5_firstStuck_14 : decode cX5_firstStuck 14 = .ok (.invokevirtual 136, 3) := by decide +kernel
theorem dX5_firstStuck_17 : decode cX5_firstStuck 17 = .ok (.iconst 0, 1) := by decide +kernel
theorem dX5_firstStuck_18 : decode cX5_firstStuck 18 = .ok (.istore_n 2, 1) := by decide +kernel
theorem dX5_firstStuck_19 : decode cX5_firstStuck 19 = .ok (.iload_n 2, 1) := by decide +kernel
theorem dX5_firstStuck_20 : decode cX5_firstStuck 20 = .ok (.aload_n 0, 1) := by decide +kernel
theorem dX5_firstStuck_21 : decode cX5_firstStuck 21 = .ok (.getfield 7, 3) := by decide +kernel
theorem dX5_firstStuck_24 : decode cX5_firstStuck 24 = .ok (.iconst 1, 1) := by decide +kernel
theorem dX5_firstStuck_25 : decode cX5_firstStuck 25 = .ok (.iaload, 1) := by decide +kernel
theorem dX5_firstStuck_26 : decode cX5_firstStuck 26 = .ok (.if_icmp .ge 19, 3) := by decide +kernel
theorem dX5_firstStuck_29 : decode cX5_firstStuck 29 = .ok (.aload_n 0, 1) := by decide +kernel
theorem dX5_firstStuck_30 : decode cX5_firstStuck 30 = .ok (.iload_n 2, 1) := by decide +kernel
theorem dX5_firstStuck_31 : decode cX5_firstStuck 31 = .ok (.invokevirtual 237, 3) := by decide +kernel
theorem dX5_firstStuck_34 : decode cX5_firstStuck 34 = .ok (.ifCond .ne 5, 3) := by decide +kernel
theorem dX5_firstStuck_37 : decode cX5_firstStuck 37 = .ok (.iload_n 2, 1) := by decide +kernel
theorem dX5_firstStuck_38 : decode cX5_firstStuck 38 = .ok (.ireturn, 1) := by decide +kernel
theorem dX5_firstStuck_39 : decode cX5_firstStuck 39 = .ok (.iinc 2 1, 3) := by decide +kernel
theorem dX5_firstStuck_42 : decode cX5_firstStuck 42 = .ok (.goto (-23), 3) := by decide +kernel
theorem dX5_firstStuck_45 : decode cX5_firstStuck 45 = .ok (.bipush (-4), 2) := by decide +kernel
theorem dX5_firstStuck_47 : decode cX5_firstStuck 47 = .ok (.ireturn, 1) := by decide +kernel
theorem dX5_who_0 : decode cX5_who 0 = .ok (.aload_n 0, 1) := by decide +kernel
theorem dX5_who_1 : decode cX5_who 1 = .ok (.iload_n 1, 1) := by decide +kernel
theorem dX5_who_2 : decode cX5_who 2 = .ok (.invokevirtual 231, 3) := by decide +kernel
theorem dX5_who_5 : decode cX5_who 5 = .ok (.ifCond .ne 5, 3) := by decide +kernel
theorem dX5_who_8 : decode cX5_who 8 = .ok (.iconst (-1), 1) := by decide +kernel
theorem dX5_who_9 : decode cX5_who 9 = .ok (.ireturn, 1) := by decide +kernel
theorem dX5_who_10 : decode cX5_who 10 = .ok (.aload_n 0, 1) := by decide +kernel
theorem dX5_who_11 : decode cX5_who 11 = .ok (.aload_n 0, 1) := by decide +kernel
theorem dX5_who_12 : decode cX5_who 12 = .ok (.invokevirtual 126, 3) := by decide +kernel
theorem dX5_who_15 : decode cX5_who 15 = .ok (.invokevirtual 136, 3) := by decide +kernel
theorem dX5_who_18 : decode cX5_who 18 = .ok (.aload_n 0, 1) := by decide +kernel
theorem dX5_who_19 : decode cX5_who 19 = .ok (.iload_n 1, 1) := by decide +kernel
theorem dX5_who_20 : decode cX5_who 20 = .ok (.iconst 3, 1) := by decide +kernel
theorem dX5_who_21 : decode cX5_who 21 = .ok (.invokevirtual 122, 3) := by decide +kernel
theorem dX5_who_24 : decode cX5_who 24 = .ok (.istore_n 2, 1) := by decide +kernel
theorem dX5_who_25 : decode cX5_who 25 = .ok (.aload_n 0, 1) := by decide +kernel
theorem dX5_who_26 : decode cX5_who 26 = .ok (.iload_n 1, 1) := by decide +kernel
theorem dX5_who_27 : decode cX5_who 27 = .ok (.invokevirtual 207, 3) := by decide +kernel
theorem dX5_who_30 : decode cX5_who 30 = .ok (.tableswitch 55 3 5 #[26, 38, 49], 26) := by decide +kernel
theorem dX5_who_56 : decode cX5_who 56 = .ok (.aload_n 0, 1) := by decide +kernel
theorem dX5_who_57 : decode cX5_who 57 = .ok (.iload_n 2, 1) := by decide +kernel
theorem dX5_who_58 : decode cX5_who 58 = .ok (.aload_n 0, 1) := by decide +kernel
theorem dX5_who_59 : decode cX5_who 59 = .ok (.iload_n 1, 1) := by decide +kernel
theorem dX5_who_60 : decode cX5_who 60 = .ok (.iload_n 2, 1) := by decide +kernel
theorem dX5_who_61 : decode cX5_who 61 = .ok (.invokevirtual 161, 3) := by decide +kernel
theorem dX5_who_64 : decode cX5_who 64 = .ok (.invokevirtual 204, 3) := by decide +kernel
theorem dX5_who_67 : decode cX5_who 67 = .ok (.ireturn, 1) := by decide +kernel
theorem dX5_who_68 : decode cX5_who 68 = .ok (.aload_n 0, 1) := by decide +kernel
theorem dX5_who_69 : decode cX5_who 69 = .ok (.aload_n 0, 1) := by decide +kernel
theorem dX5_who_70 : decode cX5_who 70 = .ok (.iload_n 1, 1) := by decide +kernel
theorem dX5_who_71 : decode cX5_who 71 = .ok (.iload_n 2, 1) := by decide +kernel
theorem dX5_who_72 : decode cX5_who 72 = .ok (.invokevirtual 161, 3) := by decide +kernel
theorem dX5_who_75 : decode cX5_who 75 = .ok (.invokevirtual 240, 3) := by decide +kernel
theorem dX5_who_78 : decode cX5_who 78 = .ok (.ireturn, 1) := by decide +kernel
theorem dX5_who_79 : decode cX5_who 79 = .ok (.aload_n 0, 1) := by decide +kernel
theorem dX5_who_80 : decode cX5_who 80 = .ok (.iload_n 1, 1) := by decide +kernel
theorem dX5_who_81 : decode cX5_who 81 = .ok (.invokevirtual 243, 3) := by decide +kernel
theorem dX5_who_84 : decode cX5_who 84 = .ok (.ireturn, 1) := by decide +kernel
theorem dX5_who_85 : decode cX5_who 85 = .ok (.bipush (-4), 2) := by decide +kernel
theorem dX5_who_87 : decode cX5_who 87 = .ok (.ireturn, 1) := by decide +kernel
theorem dX5_order_0 : decode cX5_order 0 = .ok (.iload_n 1, 1) := by decide +kernel
theorem dX5_order_1 : decode cX5_order 1 = .ok (.ifCond .ge 5, 3) := by decide +kernel
theorem dX5_order_4 : decode cX5_order 4 = .ok (.iconst (-1), 1) := by decide +kernel
theorem dX5_order_5 : decode cX5_order 5 = .ok (.ireturn, 1) := by decide +kernel
theorem dX5_order_6 : decode cX5_order 6 = .ok (.aload_n 0, 1) := by decide +kernel
theorem dX5_order_7 : decode cX5_order 7 = .ok (.invokevirtual 198, 3) := by decide +kernel
theorem dX5_order_10 : decode cX5_order 10 = .ok (.iload_n 1, 1) := by decide +kernel
theorem dX5_order_11 : decode cX5_order 11 = .ok (.aload_n 0, 1) := by decide +kernel
theorem dX5_order_12 : decode cX5_order 12 = .ok (.getfield 192, 3) := by decide +kernel
theorem dX5_order_15 : decode cX5_order 15 = .ok (.if_icmp .ge 12, 3) := by decide +kernel
theorem dX5_order_18 : decode cX5_order 18 = .ok (.aload_n 0, 1) := by decide +kernel
theorem dX5_order_19 : decode cX5_order 19 = .ok (.getfield 41, 3) := by decide +kernel
theorem dX5_order_22 : decode cX5_order 22 = .ok (.iload_n 1, 1) := by decide +kernel
theorem dX5_order_23 : decode cX5_order 23 = .ok (.iaload, 1) := by decide +kernel
theorem dX5_order_24 : decode cX5_order 24 = .ok (.goto 5, 3) := by decide +kernel
theorem dX5_order_27 : decode cX5_order 27 = .ok (.bipush (-4), 2) := by decide +kernel
theorem dX5_order_29 : decode cX5_order 29 = .ok (.ireturn, 1) := by decide +kernel
theorem dX5_reach_0 : decode cX5_reach 0 = .ok (.iload_n 1, 1) := by decide +kernel
theorem dX5_reach_1 : decode cX5_reach 1 = .ok (.i2l, 1) := by decide +kernel
theorem dX5_reach_2 : decode cX5_reach 2 = .ok (.lconst 0, 1) := by decide +kernel
theorem dX5_reach_3 : decode cX5_reach 3 = .ok (.lconst 1, 1) := by decide +kernel
theorem dX5_reach_4 : decode cX5_reach 4 = .ok (.invokestatic 55, 3) := by decide +kernel
theorem dX5_reach_7 : decode cX5_reach 7 = .ok (.ifCond .ne 5, 3) := by decide +kernel
theorem dX5_reach_10 : decode cX5_reach 10 = .ok (.iconst (-1), 1) := by decide +kernel
theorem dX5_reach_11 : decode cX5_reach 11 = .ok (.ireturn, 1) := by decide +kernel
theorem dX5_reach_12 : decode cX5_reach 12 = .ok (.aload_n 0, 1) := by decide +kernel
theorem dX5_reach_13 : decode cX5_reach 13 = .ok (.aload_n 0, 1) := by decide +kernel
theorem dX5_reach_14 : decode cX5_reach 14 = .ok (.invokevirtual 126, 3) := by decide +kernel
theorem dX5_reach_17 : decode cX5_reach 17 = .ok (.invokevirtual 136, 3) := by decide +kernel
theorem dX5_reach_20 : decode cX5_reach 20 = .ok (.iconst 0, 1) := by decide +kernel
theorem dX5_reach_21 : decode cX5_reach 21 = .ok (.istore_n 2, 1) := by decide +kernel
theorem dX5_reach_22 : decode cX5_reach 22 = .ok (.iconst 0, 1) := by decide +kernel
theorem dX5_reach_23 : decode cX5_reach 23 = .ok (.istore_n 3, 1) := by decide +kernel
theorem dX5_reach_24 : decode cX5_reach 24 = .ok (.iload_n 3, 1) := by decide +kernel
theorem dX5_reach_25 : decode cX5_reach 25 = .ok (.aload_n 0, 1) := by decide +kernel
theorem dX5_reach_26 : decode cX5_reach 26 = .ok (.getfield 186, 3) := by decide +kernel
theorem dX5_reach_29 : decode cX5_reach 29 = .ok (.if_icmp .ge 38, 3) := by decide +kernel
theorem dX5_reach_32 : decode cX5_reach 32 = .ok (.iload_n 2, 1) := by decide +kernel
theorem dX5_reach_33 : decode cX5_reach 33 = .ok (.iload_n 1, 1) := by decide +kernel
theorem dX5_reach_34 : decode cX5_reach 34 = .ok (.ifCond .eq 17, 3) := by decide +kernel
theorem dX5_reach_37 : decode cX5_reach 37 = .ok (.aload_n 0, 1) := by decide +kernel
theorem dX5_reach_38 : decode cX5_reach 38 = .ok (.getfield 38, 3) := by decide +kernel
theorem dX5_reach_41 : decode cX5_reach 41 = .ok (.aload_n 0, 1) := by decide +kernel
theorem dX5_reach_42 : decode cX5_reach 42 = .ok (.getfield 32, 3) := by decide +kernel
theorem dX5_reach_45 : decode cX5_reach 45 = .ok (.iload_n 3, 1) := by decide +kernel
theorem dX5_reach_46 : decode cX5_reach 46 = .ok (.iaload, 1) := by decide +kernel
theorem dX5_reach_47 : decode cX5_reach 47 = .ok (.baload, 1) := by decide +kernel
theorem dX5_reach_48 : decode cX5_reach 48 = .ok (.ifCond .eq 7, 3) := by decide +kernel
theorem dX5_reach_51 : decode cX5_reach 51 = .ok (.iconst 1, 1) := by decide +kernel
theorem dX5_reach_52 : decode cX5_reach 52 = .ok (.goto 4, 3) := by decide +kernel
theorem dX5_reach_55 : decode cX5_reach 55 = .ok (.iconst 0, 1) := by decide +kernel
theorem dX5_reach_56 : decode cX5_reach 56 = .ok (.invokestatic 167, 3) := by decide +kernel
theorem dX5_reach_59 : decode cX5_reach 59 = .ok (.iadd, 1) := by decide +kernel
theorem dX5_reach_60 : decode cX5_reach 60 = .ok (.istore_n 2, 1) := by decide +kernel
theorem dX5_reach_61 : decode cX5_reach 61 = .ok (.iinc 3 1, 3) := by decide +kernel
theorem dX5_reach_64 : decode cX5_reach 64 = .ok (.goto (-40), 3) := by decide +kernel
theorem dX5_reach_67 : decode cX5_reach 67 = .ok (.iload_n 2, 1) := by decide +kernel
theorem dX5_reach_68 : decode cX5_reach 68 = .ok (.ireturn, 1) := by decide +kernel
theorem dX5_enters_0 : decode cX5_enters 0 = .ok (.aload_n 0, 1) := by decide +kernel
theorem dX5_enters_1 : decode cX5_enters 1 = .ok (.getfield 7, 3) := by decide +kernel
theorem dX5_enters_4 : decode cX5_enters 4 = .ok (.iconst 3, 1) := by decide +kernel
theorem dX5_enters_5 : decode cX5_enters 5 = .ok (.iaload, 1) := by decide +kernel
theorem dX5_enters_6 : decode cX5_enters 6 = .ok (.bipush 60, 2) := by decide +kernel
theorem dX5_enters_8 : decode cX5_enters 8 = .ok (.if_icmp .ne 43, 3) := by decide +kernel
theorem dX5_enters_11 : decode cX5_enters 11 = .ok (.bipush 58, 2) := by decide +kernel
theorem dX5_enters_13 : decode cX5_enters 13 = .ok (.istore_n 3, 1) := by decide +kernel
theorem dX5_enters_14 : decode cX5_enters 14 = .ok (.iload_n 3, 1) := by decide +kernel
theorem dX5_enters_15 : decode cX5_enters 15 = .ok (.sipush 235, 3) := by decide +kernel
theorem dX5_enters_18 : decode cX5_enters 18 = .ok (.if_icmp .ge 23, 3) := by decide +kernel
theorem dX5_enters_21 : decode cX5_enters 21 = .ok (.aload_n 0, 1) := by decide +kernel
theorem dX5_enters_22 : decode cX5_enters 22 = .ok (.getfield 7, 3) := by decide +kernel
theorem dX5_enters_25 : decode cX5_enters 25 = .ok (.iload_n 3, 1) := by decide +kernel
theorem dX5_enters_26 : decode cX5_enters 26 = .ok (.aload_n 0, 1) := by decide +kernel
theorem dX5_enters_27 : decode cX5_enters 27 = .ok (.getfield 7, 3) := by decide +kernel
theorem dX5_enters_30 : decode cX5_enters 30 = .ok (.iload_n 3, 1) := by decide +kernel
theorem dX5_enters_31 : decode cX5_enters 31 = .ok (.iconst 3, 1) := by decide +kernel
theorem dX5_enters_32 : decode cX5_enters 32 = .ok (.iadd, 1) := by decide +kernel
theorem dX5_enters_33 : decode cX5_enters 33 = .ok (.iaload, 1) := by decide +kernel
theorem dX5_enters_34 : decode cX5_enters 34 = .ok (.iastore, 1) := by decide +kernel
theorem dX5_enters_35 : decode cX5_enters 35 = .ok (.iinc 3 1, 3) := by decide +kernel
theorem dX5_enters_38 : decode cX5_enters 38 = .ok (.goto (-24), 3) := by decide +kernel
theorem dX5_enters_41 : decode cX5_enters 41 = .ok (.aload_n 0, 1) := by decide +kernel
theorem dX5_enters_42 : decode cX5_enters 42 = .ok (.getfield 7, 3) := by decide +kernel
theorem dX5_enters_45 : decode cX5_enters 45 = .ok (.iconst 3, 1) := by decide +kernel
theorem dX5_enters_46 : decode cX5_enters 46 = .ok (.dup2, 1) := by decide +kernel
theorem dX5_enters_47 : decode cX5_enters 47 = .ok (.iaload, 1) := by decide +kernel
theorem dX5_enters_48 : decode cX5_enters 48 = .ok (.iconst 1, 1) := by decide +kernel
theorem dX5_enters_49 : decode cX5_enters 49 = .ok (.isub, 1) := by decide +kernel
theorem dX5_enters_50 : decode cX5_enters 50 = .ok (.iastore, 1) := by decide +kernel
theorem dX5_enters_51 : decode cX5_enters 51 = .ok (.aload_n 0, 1) := by decide +kernel
theorem dX5_enters_52 : decode cX5_enters 52 = .ok (.getfield 7, 3) := by decide +kernel
theorem dX5_enters_55 : decode cX5_enters 55 = .ok (.iconst 3, 1) := by decide +kernel
theorem dX5_enters_56 : decode cX5_enters 56 = .ok (.iaload, 1) := by decide +kernel
theorem dX5_enters_57 : decode cX5_enters 57 = .ok (.istore_n 3, 1) := by decide +kernel
theorem dX5_enters_58 : decode cX5_enters 58 = .ok (.iload_n 3, 1) := by decide +kernel
theorem dX5_enters_59 : decode cX5_enters 59 = .ok (.ifCond .le 76, 3) := by decide +kernel
theorem dX5_enters_62 : decode cX5_enters 62 = .ok (.aload_n 0, 1) := by decide +kernel
theorem dX5_enters_63 : decode cX5_enters 63 = .ok (.iload_n 3, 1) := by decide +kernel
theorem dX5_enters_64 : decode cX5_enters 64 = .ok (.iconst 1, 1) := by decide +kernel
theorem dX5_enters_65 : decode cX5_enters 65 = .ok (.isub, 1) := by decide +kernel
theorem dX5_enters_66 : decode cX5_enters 66 = .ok (.iconst 0, 1) := by decide +kernel
theorem dX5_enters_67 : decode cX5_enters 67 = .ok (.invokevirtual 246, 3) := by decide +kernel
theorem dX5_enters_70 : decode cX5_enters 70 = .ok (.aload_n 0, 1) := by decide +kernel
theorem dX5_enters_71 : decode cX5_enters 71 = .ok (.getfield 7, 3) := by decide +kernel
theorem dX5_enters_74 : decode cX5_enters 74 = .ok (.iconst 2, 1) := by decide +kernel
theorem dX5_enters_75 : decode cX5_enters 75 = .ok (.iaload, 1) := by decide +kernel
theorem dX5_enters_76 : decode cX5_enters 76 = .ok (.if_icmp .ne 59, 3) := by decide +kernel
theorem dX5_enters_79 : decode cX5_enters 79 = .ok (.aload_n 0, 1) := by decide +kernel
theorem dX5_enters_80 : decode cX5_enters 80 = .ok (.iload_n 3, 1) := by decide +kernel
theorem dX5_enters_81 : decode cX5_enters 81 = .ok (.iconst 1, 1) := by decide +kernel
theorem dX5_enters_82 : decode cX5_enters 82 = .ok (.isub, 1) := by decide +kernel
theorem dX5_enters_83 : decode cX5_enters 83 = .ok (.iconst 1, 1) := by decide +kernel
theorem dX5_enters_84 : decode cX5_enters 84 = .ok (.invokevirtual 246, 3) := by decide +kernel
theorem dX5_enters_87 : decode cX5_enters 87 = .ok (.iload_n 1, 1) := by decide +kernel
theorem dX5_enters_88 : decode cX5_enters 88 = .ok (.if_icmp .le 47, 3) := by decide +kernel
theorem dX5_enters_91 : decode cX5_enters 91 = .ok (.iconst 0, 1) := by decide +kernel
theorem dX5_enters_92 : decode cX5_enters 92 = .ok (.istore 4, 2) := by decide +kernel
theorem dX5_enters_94 : decode cX5_enters 94 = .ok (.iload 4, 2) := by decide +kernel
theorem dX5_enters_96 : decode cX5_enters 96 = .ok (.iconst 3, 1) := by decide +kernel
theorem dX5_enters_97 : decode cX5_enters 97 = .ok (.if_icmp .ge 32, 3) := by decide +kernel
theorem dX5_enters_100 : decode cX5_enters 100 = .ok (.aload_n 0, 1) := by decide +kernel
theorem dX5_enters_101 : decode cX5_enters 101 = .ok (.getfield 7, 3) := by decide +kernel
theorem dX5_enters_104 : decode cX5_enters 104 = .ok (.bipush 58, 2) := by decide +kernel
theorem dX5_enters_106 : decode cX5_enters 106 = .ok (.iconst 3, 1) := by decide +kernel
theorem dX5_enters_107 : decode cX5_enters 107 = .ok (.iload_n 3, 1) := by decide +kernel
theorem dX5_enters_108 : decode cX5_enters 108 = .ok (.imul, 1) := by decide +kernel
theorem dX5_enters_109 : decode cX5_enters 109 = .ok (.iadd, 1) := by decide +kernel
theorem dX5_enters_110 : decode cX5_enters 110 = .ok (.iload 4, 2) := by decide +kernel
theorem dX5_enters_112 : decode cX5_enters 112 = .ok (.iadd, 1) := by decide +kernel
theorem dX5_enters_113 : decode cX5_enters 113 = .ok (.aload_n 0, 1) := by decide +kernel
theorem dX5_enters_114 : decode cX5_enters 114 = .ok (.iload_n 3, 1) := by decide +kernel
theorem dX5_enters_115 : decode cX5_enters 115 = .ok (.iconst 1, 1) := by decide +kernel
theorem dX5_enters_116 : decode cX5_enters 116 = .ok (.isub, 1) := by decide +kernel
theorem dX5_enters_117 : decode cX5_enters 117 = .ok (.iload 4, 2) := by decide +kernel
theorem dX5_enters_119 : decode cX5_enters 119 = .ok (.invokevirtual 246, 3) := by decide +kernel
theorem dX5_enters_122 : decode cX5_enters 122 = .ok (.iastore, 1) := by decide +kernel
theorem dX5_enters_123 : decode cX5_enters 123 = .ok (.iinc 4 1, 3) := by decide +kernel
theorem dX5_enters_126 : decode cX5_enters 126 = .ok (.goto (-32), 3) := by decide +kernel
theorem dX5_enters_129 : decode cX5_enters 129 = .ok (.iinc 3 (-1), 3) := by decide +kernel
theorem dX5_enters_132 : decode cX5_enters 132 = .ok (.goto (-74), 3) := by decide +kernel
theorem dX5_enters_135 : decode cX5_enters 135 = .ok (.aload_n 0, 1) := by decide +kernel
theorem dX5_enters_136 : decode cX5_enters 136 = .ok (.getfield 7, 3) := by decide +kernel
theorem dX5_enters_139 : decode cX5_enters 139 = .ok (.bipush 58, 2) := by decide +kernel
theorem dX5_enters_141 : decode cX5_enters 141 = .ok (.iconst 3, 1) := by decide +kernel
theorem dX5_enters_142 : decode cX5_enters 142 = .ok (.iload_n 3, 1) := by decide +kernel
theorem dX5_enters_143 : decode cX5_enters 143 = .ok (.imul, 1) := by decide +kernel
theorem dX5_enters_144 : decode cX5_enters 144 = .ok (.iadd, 1) := by decide +kernel
theorem dX5_enters_145 : decode cX5_enters 145 = .ok (.iconst 0, 1) := by decide +kernel
theorem dX5_enters_146 : decode cX5_enters 146 = .ok (.iadd, 1) := by decide +kernel
theorem dX5_enters_147 : decode cX5_enters 147 = .ok (.aload_n 0, 1) := by decide +kernel
theorem dX5_enters_148 : decode cX5_enters 148 = .ok (.getfield 7, 3) := by decide +kernel
theorem dX5_enters_151 : decode cX5_enters 151 = .ok (.iconst 2, 1) := by decide +kernel
theorem dX5_enters_152 : decode cX5_enters 152 = .ok (.iaload, 1) := by decide +kernel
theorem dX5_enters_153 : decode cX5_enters 153 = .ok (.iastore, 1) := by decide +kernel
theorem dX5_enters_154 : decode cX5_enters 154 = .ok (.aload_n 0, 1) := by decide +kernel
theorem dX5_enters_155 : decode cX5_enters 155 = .ok (.getfield 7, 3) := by decide +kernel
theorem dX5_enters_158 : decode cX5_enters 158 = .ok (.bipush 58, 2) := by decide +kernel
theorem dX5_enters_160 : decode cX5_enters 160 = .ok (.iconst 3, 1) := by decide +kernel
theorem dX5_enters_161 : decode cX5_enters 161 = .ok (.iload_n 3, 1) := by decide +kernel
theorem dX5_enters_162 : decode cX5_enters 162 = .ok (.imul, 1) := by decide +kernel
theorem dX5_enters_163 : decode cX5_enters 163 = .ok (.iadd, 1) := by decide +kernel
theorem dX5_enters_164 : decode cX5_enters 164 = .ok (.iconst 1, 1) := by decide +kernel
theorem dX5_enters_165 : decode cX5_enters 165 = .ok (.iadd, 1) := by decide +kernel
theorem dX5_enters_166 : decode cX5_enters 166 = .ok (.iload_n 1, 1) := by decide +kernel
theorem dX5_enters_167 : decode cX5_enters 167 = .ok (.iastore, 1) := by decide +kernel
theorem dX5_enters_168 : decode cX5_enters 168 = .ok (.aload_n 0, 1) := by decide +kernel
theorem dX5_enters_169 : decode cX5_enters 169 = .ok (.getfield 7, 3) := by decide +kernel
theorem dX5_enters_172 : decode cX5_enters 172 = .ok (.bipush 58, 2) := by decide +kernel
theorem dX5_enters_174 : decode cX5_enters 174 = .ok (.iconst 3, 1) := by decide +kernel
theorem dX5_enters_175 : decode cX5_enters 175 = .ok (.iload_n 3, 1) := by decide +kernel
theorem dX5_enters_176 : decode cX5_enters 176 = .ok (.imul, 1) := by decide +kernel
theorem dX5_enters_177 : decode cX5_enters 177 = .ok (.iadd, 1) := by decide +kernel
theorem dX5_enters_178 : decode cX5_enters 178 = .ok (.iconst 2, 1) := by decide +kernel
theorem dX5_enters_179 : decode cX5_enters 179 = .ok (.iadd, 1) := by decide +kernel
theorem dX5_enters_180 : decode cX5_enters 180 = .ok (.iload_n 2, 1) := by decide +kernel
theorem dX5_enters_181 : decode cX5_enters 181 = .ok (.iastore, 1) := by decide +kernel
theorem dX5_enters_182 : decode cX5_enters 182 = .ok (.aload_n 0, 1) := by decide +kernel
theorem dX5_enters_183 : decode cX5_enters 183 = .ok (.getfield 7, 3) := by decide +kernel
theorem dX5_enters_186 : decode cX5_enters 186 = .ok (.iconst 3, 1) := by decide +kernel
theorem dX5_enters_187 : decode cX5_enters 187 = .ok (.dup2, 1) := by decide +kernel
theorem dX5_enters_188 : decode cX5_enters 188 = .ok (.iaload, 1) := by decide +kernel
theorem dX5_enters_189 : decode cX5_enters 189 = .ok (.iconst 1, 1) := by decide +kernel
theorem dX5_enters_190 : decode cX5_enters 190 = .ok (.iadd, 1) := by decide +kernel
theorem dX5_enters_191 : decode cX5_enters 191 = .ok (.iastore, 1) := by decide +kernel
theorem dX5_enters_192 : decode cX5_enters 192 = .ok (.return_, 1) := by decide +kernel
theorem dX5_entry_0 : decode cX5_entry 0 = .ok (.aload_n 0, 1) := by decide +kernel
theorem dX5_entry_1 : decode cX5_entry 1 = .ok (.getfield 7, 3) := by decide +kernel
theorem dX5_entry_4 : decode cX5_entry 4 = .ok (.bipush 58, 2) := by decide +kernel
theorem dX5_entry_6 : decode cX5_entry 6 = .ok (.iconst 3, 1) := by decide +kernel
theorem dX5_entry_7 : decode cX5_entry 7 = .ok (.iload_n 1, 1) := by decide +kernel
theorem dX5_entry_8 : decode cX5_entry 8 = .ok (.imul, 1) := by decide +kernel
theorem dX5_entry_9 : decode cX5_entry 9 = .ok (.iadd, 1) := by decide +kernel
theorem dX5_entry_10 : decode cX5_entry 10 = .ok (.iload_n 2, 1) := by decide +kernel
theorem dX5_entry_11 : decode cX5_entry 11 = .ok (.iadd, 1) := by decide +kernel
theorem dX5_entry_12 : decode cX5_entry 12 = .ok (.iaload, 1) := by decide +kernel
theorem dX5_entry_13 : decode cX5_entry 13 = .ok (.ireturn, 1) := by decide +kernel
theorem dX5_goes_0 : decode cX5_goes 0 = .ok (.bipush 34, 2) := by decide +kernel
theorem dX5_goes_2 : decode cX5_goes 2 = .ok (.bipush 6, 2) := by decide +kernel
theorem dX5_goes_4 : decode cX5_goes 4 = .ok (.iload_n 1, 1) := by decide +kernel
theorem dX5_goes_5 : decode cX5_goes 5 = .ok (.imul, 1) := by decide +kernel
theorem dX5_goes_6 : decode cX5_goes 6 = .ok (.iadd, 1) := by decide +kernel
theorem dX5_goes_7 : decode cX5_goes 7 = .ok (.istore_n 2, 1) := by decide +kernel
theorem dX5_goes_8 : decode cX5_goes 8 = .ok (.aload_n 0, 1) := by decide +kernel
theorem dX5_goes_9 : decode cX5_goes 9 = .ok (.iload_n 1, 1) := by decide +kernel
theorem dX5_goes_10 : decode cX5_goes 10 = .ok (.iconst 3, 1) := by decide +kernel
theorem dX5_goes_11 : decode cX5_goes 11 = .ok (.invokevirtual 122, 3) := by decide +kernel
theorem dX5_goes_14 : decode cX5_goes 14 = .ok (.istore_n 3, 1) := by decide +kernel
theorem dX5_goes_15 : decode cX5_goes 15 = .ok (.aload_n 0, 1) := by decide +kernel
theorem dX5_goes_16 : decode cX5_goes 16 = .ok (.iload_n 1, 1) := by decide +kernel
theorem dX5_goes_17 : decode cX5_goes 17 = .ok (.iload_n 3, 1) := by decide +kernel
theorem dX5_goes_18 : decode cX5_goes 18 = .ok (.invokevirtual 161, 3) := by decide +kernel
theorem dX5_goes_21 : decode cX5_goes 21 = .ok (.istore 4, 2) := by decide +kernel
theorem dX5_goes_23 : decode cX5_goes 23 = .ok (.aload_n 0, 1) := by decide +kernel
theorem dX5_goes_24 : decode cX5_goes 24 = .ok (.getfield 7, 3) := by decide +kernel
theorem dX5_goes_27 : decode cX5_goes 27 = .ok (.iload_n 2, 1) := by decide +kernel
theorem dX5_goes_28 : decode cX5_goes 28 = .ok (.iconst 3, 1) := by decide +kernel
theorem dX5_goes_29 : decode cX5_goes 29 = .ok (.iadd, 1) := by decide +kernel
theorem dX5_goes_30 : decode cX5_goes 30 = .ok (.iload 4, 2) := by decide +kernel
theorem dX5_goes_32 : decode cX5_goes 32 = .ok (.iastore, 1) := by decide +kernel
theorem dX5_goes_33 : decode cX5_goes 33 = .ok (.aload_n 0, 1) := by decide +kernel
theorem dX5_goes_34 : decode cX5_goes 34 = .ok (.getfield 7, 3) := by decide +kernel
theorem dX5_goes_37 : decode cX5_goes 37 = .ok (.iload_n 2, 1) := by decide +kernel
theorem dX5_goes_38 : decode cX5_goes 38 = .ok (.iconst 4, 1) := by decide +kernel
theorem dX5_goes_39 : decode cX5_goes 39 = .ok (.iadd, 1) := by decide +kernel
theorem dX5_goes_40 : decode cX5_goes 40 = .ok (.iconst 1, 1) := by decide +kernel
theorem dX5_goes_41 : decode cX5_goes 41 = .ok (.iastore, 1) := by decide +kernel
theorem dX5_goes_42 : decode cX5_goes 42 = .ok (.aload_n 0, 1) := by decide +kernel
theorem dX5_goes_43 : decode cX5_goes 43 = .ok (.getfield 7, 3) := by decide +kernel
theorem dX5_goes_46 : decode cX5_goes 46 = .ok (.iload_n 2, 1) := by decide +kernel
theorem dX5_goes_47 : decode cX5_goes 47 = .ok (.iconst 5, 1) := by decide +kernel
theorem dX5_goes_48 : decode cX5_goes 48 = .ok (.iadd, 1) := by decide +kernel
theorem dX5_goes_49 : decode cX5_goes 49 = .ok (.aload_n 0, 1) := by decide +kernel
theorem dX5_goes_50 : decode cX5_goes 50 = .ok (.getfield 7, 3) := by decide +kernel
theorem dX5_goes_53 : decode cX5_goes 53 = .ok (.iconst 2, 1) := by decide +kernel
theorem dX5_goes_54 : decode cX5_goes 54 = .ok (.iaload, 1) := by decide +kernel
theorem dX5_goes_55 : decode cX5_goes 55 = .ok (.aload_n 0, 1) := by decide +kernel
theorem dX5_goes_56 : decode cX5_goes 56 = .ok (.iload_n 3, 1) := by decide +kernel
theorem dX5_goes_57 : decode cX5_goes 57 = .ok (.iload 4, 2) := by decide +kernel
theorem dX5_goes_59 : decode cX5_goes 59 = .ok (.invokevirtual 164, 3) := by decide +kernel
theorem dX5_goes_62 : decode cX5_goes 62 = .ok (.iadd, 1) := by decide +kernel
theorem dX5_goes_63 : decode cX5_goes 63 = .ok (.iastore, 1) := by decide +kernel
theorem dX5_goes_64 : decode cX5_goes 64 = .ok (.aload_n 0, 1) := by decide +kernel
theorem dX5_goes_65 : decode cX5_goes 65 = .ok (.iload_n 1, 1) := by decide +kernel
theorem dX5_goes_66 : decode cX5_goes 66 = .ok (.iload_n 3, 1) := by decide +kernel
theorem dX5_goes_67 : decode cX5_goes 67 = .ok (.invokevirtual 249, 3) := by decide +kernel
theorem dX5_goes_70 : decode cX5_goes 70 = .ok (.return_, 1) := by decide +kernel
theorem dX5_goesOn_0 : decode cX5_goesOn 0 = .ok (.aload_n 0, 1) := by decide +kernel
theorem dX5_goesOn_1 : decode cX5_goesOn 1 = .ok (.getfield 7, 3) := by decide +kernel
theorem dX5_goesOn_4 : decode cX5_goesOn 4 = .ok (.iconst 2, 1) := by decide +kernel
theorem dX5_goesOn_5 : decode cX5_goesOn 5 = .ok (.dup2, 1) := by decide +kernel
theorem dX5_goesOn_6 : decode cX5_goesOn 6 = .ok (.iaload, 1) := by decide +kernel
theorem dX5_goesOn_7 : decode cX5_goesOn 7 = .ok (.iload_n 1, 1) := by decide +kernel
theorem dX5_goesOn_8 : decode cX5_goesOn 8 = .ok (.iadd, 1) := by decide +kernel
theorem dX5_goesOn_9 : decode cX5_goesOn 9 = .ok (.iastore, 1) := by decide +kernel
theorem dX5_goesOn_10 : decode cX5_goesOn 10 = .ok (.iconst 0, 1) := by decide +kernel
theorem dX5_goesOn_11 : decode cX5_goesOn 11 = .ok (.istore_n 2, 1) := by decide +kernel
theorem dX5_goesOn_12 : decode cX5_goesOn 12 = .ok (.iconst 0, 1) := by decide +kernel
theorem dX5_goesOn_13 : decode cX5_goesOn 13 = .ok (.istore_n 3, 1) := by decide +kernel
theorem dX5_goesOn_14 : decode cX5_goesOn 14 = .ok (.iload_n 3, 1) := by decide +kernel
theorem dX5_goesOn_15 : decode cX5_goesOn 15 = .ok (.aload_n 0, 1) := by decide +kernel
theorem dX5_goesOn_16 : decode cX5_goesOn 16 = .ok (.getfield 7, 3) := by decide +kernel
theorem dX5_goesOn_19 : decode cX5_goesOn 19 = .ok (.iconst 1, 1) := by decide +kernel
theorem dX5_goesOn_20 : decode cX5_goesOn 20 = .ok (.iaload, 1) := by decide +kernel
theorem dX5_goesOn_21 : decode cX5_goesOn 21 = .ok (.if_icmp .ge 127, 3) := by decide +kernel
theorem dX5_goesOn_24 : decode cX5_goesOn 24 = .ok (.bipush 34, 2) := by decide +kernel
theorem dX5_goesOn_26 : decode cX5_goesOn 26 = .ok (.bipush 6, 2) := by decide +kernel
theorem dX5_goesOn_28 : decode cX5_goesOn 28 = .ok (.iload_n 3, 1) := by decide +kernel
theorem dX5_goesOn_29 : decode cX5_goesOn 29 = .ok (.imul, 1) := by decide +kernel
theorem dX5_goesOn_30 : decode cX5_goesOn 30 = .ok (.iadd, 1) := by decide +kernel
theorem dX5_goesOn_31 : decode cX5_goesOn 31 = .ok (.istore 4, 2) := by decide +kernel
theorem dX5_goesOn_33 : decode cX5_goesOn 33 = .ok (.aload_n 0, 1) := by decide +kernel
theorem dX5_goesOn_34 : decode cX5_goesOn 34 = .ok (.getfield 7, 3) := by decide +kernel
theorem dX5_goesOn_37 : decode cX5_goesOn 37 = .ok (.iload 4, 2) := by decide +kernel
theorem dX5_goesOn_39 : decode cX5_goesOn 39 = .ok (.iconst 4, 1) := by decide +kernel
theorem dX5_goesOn_40 : decode cX5_goesOn 40 = .ok (.iadd, 1) := by decide +kernel
theorem dX5_goesOn_41 : decode cX5_goesOn 41 = .ok (.iaload, 1) := by decide +kernel
theorem dX5_goesOn_42 : decode cX5_goesOn 42 = .ok (.iconst 1, 1) := by decide +kernel
theorem dX5_goesOn_43 : decode cX5_goesOn 43 = .ok (.if_icmp .ne 99, 3) := by decide +kernel
theorem dX5_goesOn_46 : decode cX5_goesOn 46 = .ok (.aload_n 0, 1) := by decide +kernel
theorem dX5_goesOn_47 : decode cX5_goesOn 47 = .ok (.getfield 7, 3) := by decide +kernel
theorem dX5_goesOn_50 : decode cX5_goesOn 50 = .ok (.iload 4, 2) := by decide +kernel
theorem dX5_goesOn_52 : decode cX5_goesOn 52 = .ok (.iconst 5, 1) := by decide +kernel
theorem dX5_goesOn_53 : decode cX5_goesOn 53 = .ok (.iadd, 1) := by decide +kernel
theorem dX5_goesOn_54 : decode cX5_goesOn 54 = .ok (.iaload, 1) := by decide +kernel
theorem dX5_goesOn_55 : decode cX5_goesOn 55 = .ok (.aload_n 0, 1) := by decide +kernel
theorem dX5_goesOn_56 : decode cX5_goesOn 56 = .ok (.getfield 7, 3) := by decide +kernel
theorem dX5_goesOn_59 : decode cX5_goesOn 59 = .ok (.iconst 2, 1) := by decide +kernel
theorem dX5_goesOn_60 : decode cX5_goesOn 60 = .ok (.iaload, 1) := by decide +kernel
theorem dX5_goesOn_61 : decode cX5_goesOn 61 = .ok (.if_icmp .gt 81, 3) := by decide +kernel
theorem dX5_goesOn_64 : decode cX5_goesOn 64 = .ok (.aload_n 0, 1) := by decide +kernel
theorem dX5_goesOn_65 : decode cX5_goesOn 65 = .ok (.getfield 7, 3) := by decide +kernel
theorem dX5_goesOn_68 : decode cX5_goesOn 68 = .ok (.iload 4, 2) := by decide +kernel
theorem dX5_goesOn_70 : decode cX5_goesOn 70 = .ok (.iconst 3, 1) := by decide +kernel
theorem dX5_goesOn_71 : decode cX5_goesOn 71 = .ok (.iadd, 1) := by decide +kernel
theorem dX5_goesOn_72 : decode cX5_goesOn 72 = .ok (.iaload, 1) := by decide +kernel
theorem dX5_goesOn_73 : decode cX5_goesOn 73 = .ok (.aload_n 0, 1) := by decide +kernel
theorem dX5_goesOn_74 : decode cX5_goesOn 74 = .ok (.getfield 7, 3) := by decide +kernel
theorem dX5_goesOn_77 : decode cX5_goesOn 77 = .ok (.iload 4, 2) := by decide +kernel
theorem dX5_goesOn_79 : decode cX5_goesOn 79 = .ok (.iconst 1, 1) := by decide +kernel
theorem dX5_goesOn_80 : decode cX5_goesOn 80 = .ok (.iadd, 1) := by decide +kernel
theorem dX5_goesOn_81 : decode cX5_goesOn 81 = .ok (.iaload, 1) := by decide +kernel
theorem dX5_goesOn_82 : decode cX5_goesOn 82 = .ok (.if_icmp .ne 7, 3) := by decide +kernel
theorem dX5_goesOn_85 : decode cX5_goesOn 85 = .ok (.iconst 1, 1) := by decide +kernel
theorem dX5_goesOn_86 : decode cX5_goesOn 86 = .ok (.goto 4, 3) := by decide +kernel
theorem dX5_goesOn_89 : decode cX5_goesOn 89 = .ok (.iconst 0, 1) := by decide +kernel
theorem dX5_goesOn_90 : decode cX5_goesOn 90 = .ok (.istore 5, 2) := by decide +kernel
theorem dX5_goesOn_92 : decode cX5_goesOn 92 = .ok (.aload_n 0, 1) := by decide +kernel
theorem dX5_goesOn_93 : decode cX5_goesOn 93 = .ok (.getfield 7, 3) := by decide +kernel
theorem dX5_goesOn_96 : decode cX5_goesOn 96 = .ok (.iload 4, 2) := by decide +kernel
theorem dX5_goesOn_98 : decode cX5_goesOn 98 = .ok (.iconst 4, 1) := by decide +kernel
theorem dX5_goesOn_99 : decode cX5_goesOn 99 = .ok (.iadd, 1) := by decide +kernel
theorem dX5_goesOn_100 : decode cX5_goesOn 100 = .ok (.iload 5, 2) := by decide +kernel
theorem dX5_goesOn_102 : decode cX5_goesOn 102 = .ok (.ifCond .eq 7, 3) := by decide +kernel
theorem dX5_goesOn_105 : decode cX5_goesOn 105 = .ok (.iconst 2, 1) := by decide +kernel
theorem dX5_goesOn_106 : decode cX5_goesOn 106 = .ok (.goto 4, 3) := by decide +kernel
theorem dX5_goesOn_109 : decode cX5_goesOn 109 = .ok (.iconst 0, 1) := by decide +kernel
theorem dX5_goesOn_110 : decode cX5_goesOn 110 = .ok (.iastore, 1) := by decide +kernel
theorem dX5_goesOn_111 : decode cX5_goesOn 111 = .ok (.aload_n 0, 1) := by decide +kernel
theorem dX5_goesOn_112 : decode cX5_goesOn 112 = .ok (.getfield 7, 3) := by decide +kernel
theorem dX5_goesOn_115 : decode cX5_goesOn 115 = .ok (.iload 4, 2) := by decide +kernel
theorem dX5_goesOn_117 : decode cX5_goesOn 117 = .ok (.iconst 5, 1) := by decide +kernel
theorem dX5_goesOn_118 : decode cX5_goesOn 118 = .ok (.iadd, 1) := by decide +kernel
theorem dX5_goesOn_119 : decode cX5_goesOn 119 = .ok (.iload 5, 2) := by decide +kernel
theorem dX5_goesOn_121 : decode cX5_goesOn 121 = .ok (.ifCond .eq 15, 3) := by decide +kernel
theorem dX5_goesOn_124 : decode cX5_goesOn 124 = .ok (.aload_n 0, 1) := by decide +kernel
theorem dX5_goesOn_125 : decode cX5_goesOn 125 = .ok (.getfield 7, 3) := by decide +kernel
theorem dX5_goesOn_128 : decode cX5_goesOn 128 = .ok (.iload 4, 2) := by decide +kernel
theorem dX5_goesOn_130 : decode cX5_goesOn 130 = .ok (.iconst 5, 1) := by decide +kernel
theorem dX5_goesOn_131 : decode cX5_goesOn 131 = .ok (.iadd, 1) := by decide +kernel
theorem dX5_goesOn_132 : decode cX5_goesOn 132 = .ok (.iaload, 1) := by decide +kernel
theorem dX5_goesOn_133 : decode cX5_goesOn 133 = .ok (.goto 5, 3) := by decide +kernel
theorem dX5_goesOn_136 : decode cX5_goesOn 136 = .ok (.bipush (-4), 2) := by decide +kernel
theorem dX5_goesOn_138 : decode cX5_goesOn 138 = .ok (.iastore, 1) := by decide +kernel
theorem dX5_goesOn_139 : decode cX5_goesOn 139 = .ok (.iinc 2 1, 3) := by decide +kernel
theorem dX5_goesOn_142 : decode cX5_goesOn 142 = .ok (.iinc 3 1, 3) := by decide +kernel
theorem dX5_goesOn_145 : decode cX5_goesOn 145 = .ok (.goto (-131), 3) := by decide +kernel
theorem dX5_goesOn_148 : decode cX5_goesOn 148 = .ok (.iload_n 2, 1) := by decide +kernel
theorem dX5_goesOn_149 : decode cX5_goesOn 149 = .ok (.ireturn, 1) := by decide +kernel
theorem dX5_isAhead_0 : decode cX5_isAhead 0 = .ok (.aload_n 0, 1) := by decide +kernel
theorem dX5_isAhead_1 : decode cX5_isAhead 1 = .ok (.iload_n 2, 1) := by decide +kernel
theorem dX5_isAhead_2 : decode cX5_isAhead 2 = .ok (.invokevirtual 234, 3) := by decide +kernel
theorem dX5_isAhead_5 : decode cX5_isAhead 5 = .ok (.aload_n 0, 1) := by decide +kernel
theorem dX5_isAhead_6 : decode cX5_isAhead 6 = .ok (.iload_n 3, 1) := by decide +kernel
theorem dX5_isAhead_7 : decode cX5_isAhead 7 = .ok (.invokevirtual 234, 3) := by decide +kernel
theorem dX5_isAhead_10 : decode cX5_isAhead 10 = .ok (.isub, 1) := by decide +kernel
theorem dX5_isAhead_11 : decode cX5_isAhead 11 = .ok (.istore 4, 2) := by decide +kernel
theorem dX5_isAhead_13 : decode cX5_isAhead 13 = .ok (.iload_n 1, 1) := by decide +kernel
theorem dX5_isAhead_14 : decode cX5_isAhead 14 = .ok (.iconst 1, 1) := by decide +kernel
theorem dX5_isAhead_15 : decode cX5_isAhead 15 = .ok (.if_icmp .ne 16, 3) := by decide +kernel
theorem dX5_isAhead_18 : decode cX5_isAhead 18 = .ok (.iload 4, 2) := by decide +kernel
theorem dX5_isAhead_20 : decode cX5_isAhead 20 = .ok (.ifCond .ge 7, 3) := by decide +kernel
theorem dX5_isAhead_23 : decode cX5_isAhead 23 = .ok (.iconst 1, 1) := by decide +kernel
theorem dX5_isAhead_24 : decode cX5_isAhead 24 = .ok (.goto 22, 3) := by decide +kernel
theorem dX5_isAhead_27 : decode cX5_isAhead 27 = .ok (.iconst 0, 1) := by decide +kernel
theorem dX5_isAhead_28 : decode cX5_isAhead 28 = .ok (.goto 18, 3) := by decide +kernel
theorem dX5_isAhead_31 : decode cX5_isAhead 31 = .ok (.iload_n 1, 1) := by decide +kernel
theorem dX5_isAhead_32 : decode cX5_isAhead 32 = .ok (.iconst 2, 1) := by decide +kernel
theorem dX5_isAhead_33 : decode cX5_isAhead 33 = .ok (.if_icmp .ne 12, 3) := by decide +kernel
theorem dX5_isAhead_36 : decode cX5_isAhead 36 = .ok (.iload 4, 2) := by decide +kernel
theorem dX5_isAhead_38 : decode cX5_isAhead 38 = .ok (.ifCond .le 7, 3) := by decide +kernel
theorem dX5_isAhead_41 : decode cX5_isAhead 41 = .ok (.iconst 1, 1) := by decide +kernel
theorem dX5_isAhead_42 : decode cX5_isAhead 42 = .ok (.goto 4, 3) := by decide +kernel
theorem dX5_isAhead_45 : decode cX5_isAhead 45 = .ok (.iconst 0, 1) := by decide +kernel
theorem dX5_isAhead_46 : decode cX5_isAhead 46 = .ok (.ireturn, 1) := by decide +kernel
theorem dX5_firstBy_0 : decode cX5_firstBy 0 = .ok (.bipush (-4), 2) := by decide +kernel
theorem dX5_firstBy_2 : decode cX5_firstBy 2 = .ok (.istore_n 2, 1) := by decide +kernel
theorem dX5_firstBy_3 : decode cX5_firstBy 3 = .ok (.iconst 0, 1) := by decide +kernel
theorem dX5_firstBy_4 : decode cX5_firstBy 4 = .ok (.istore_n 3, 1) := by decide +kernel
theorem dX5_firstBy_5 : decode cX5_firstBy 5 = .ok (.iload_n 3, 1) := by decide +kernel
theorem dX5_firstBy_6 : decode cX5_firstBy 6 = .ok (.aload_n 0, 1) := by decide +kernel
theorem dX5_firstBy_7 : decode cX5_firstBy 7 = .ok (.getfield 7, 3) := by decide +kernel
theorem dX5_firstBy_10 : decode cX5_firstBy 10 = .ok (.iconst 1, 1) := by decide +kernel
theorem dX5_firstBy_11 : decode cX5_firstBy 11 = .ok (.iaload, 1) := by decide +kernel
theorem dX5_firstBy_12 : decode cX5_firstBy 12 = .ok (.if_icmp .ge 35, 3) := by decide +kernel
theorem dX5_firstBy_15 : decode cX5_firstBy 15 = .ok (.aload_n 0, 1) := by decide +kernel
theorem dX5_firstBy_16 : decode cX5_firstBy 16 = .ok (.iload_n 3, 1) := by decide +kernel
theorem dX5_firstBy_17 : decode cX5_firstBy 17 = .ok (.invokevirtual 207, 3) := by decide +kernel
theorem dX5_firstBy_20 : decode cX5_firstBy 20 = .ok (.ifCond .ne 21, 3) := by decide +kernel
theorem dX5_firstBy_23 : decode cX5_firstBy 23 = .ok (.iload_n 2, 1) := by decide +kernel
theorem dX5_firstBy_24 : decode cX5_firstBy 24 = .ok (.bipush (-4), 2) := by decide +kernel
theorem dX5_firstBy_26 : decode cX5_firstBy 26 = .ok (.if_icmp .eq 13, 3) := by decide +kernel
theorem dX5_firstBy_29 : decode cX5_firstBy 29 = .ok (.aload_n 0, 1) := by decide +kernel
theorem dX5_firstBy_30 : decode cX5_firstBy 30 = .ok (.iload_n 1, 1) := by decide +kernel
theorem dX5_firstBy_31 : decode cX5_firstBy 31 = .ok (.iload_n 3, 1) := by decide +kernel
theorem dX5_firstBy_32 : decode cX5_firstBy 32 = .ok (.iload_n 2, 1) := by decide +kernel
theorem dX5_firstBy_33 : decode cX5_firstBy 33 = .ok (.invokevirtual 253, 3) := by decide +kernel
theorem dX5_firstBy_36 : decode cX5_firstBy 36 = .ok (.ifCond .eq 5, 3) := by decide +kernel
theorem dX5_firstBy_39 : decode cX5_firstBy 39 = .ok (.iload_n 3, 1) := by decide +kernel
theorem dX5_firstBy_40 : decode cX5_firstBy 40 = .ok (.istore_n 2, 1) := by decide +kernel
theorem dX5_firstBy_41 : decode cX5_firstBy 41 = .ok (.iinc 3 1, 3) := by decide +kernel
theorem dX5_firstBy_44 : decode cX5_firstBy 44 = .ok (.goto (-39), 3) := by decide +kernel
theorem dX5_firstBy_47 : decode cX5_firstBy 47 = .ok (.iload_n 2, 1) := by decide +kernel
theorem dX5_firstBy_48 : decode cX5_firstBy 48 = .ok (.ireturn, 1) := by decide +kernel
theorem dX5_sends_0 : decode cX5_sends 0 = .ok (.iconst 0, 1) := by decide +kernel
theorem dX5_sends_1 : decode cX5_sends 1 = .ok (.istore_n 2, 1) := by decide +kernel
theorem dX5_sends_2 : decode cX5_sends 2 = .ok (.aload_n 0, 1) := by decide +kernel
theorem dX5_sends_3 : decode cX5_sends 3 = .ok (.iload_n 1, 1) := by decide +kernel
theorem dX5_sends_4 : decode cX5_sends 4 = .ok (.invokevirtual 257, 3) := by decide +kernel
theorem dX5_sends_7 : decode cX5_sends 7 = .ok (.istore_n 3, 1) := by decide +kernel
theorem dX5_sends_8 : decode cX5_sends 8 = .ok (.iload_n 3, 1) := by decide +kernel
theorem dX5_sends_9 : decode cX5_sends 9 = .ok (.bipush (-4), 2) := by decide +kernel
theorem dX5_sends_11 : decode cX5_sends 11 = .ok (.if_icmp .eq 20, 3) := by decide +kernel
theorem dX5_sends_14 : decode cX5_sends 14 = .ok (.aload_n 0, 1) := by decide +kernel
theorem dX5_sends_15 : decode cX5_sends 15 = .ok (.iload_n 3, 1) := by decide +kernel
theorem dX5_sends_16 : decode cX5_sends 16 = .ok (.invokevirtual 260, 3) := by decide +kernel
theorem dX5_sends_19 : decode cX5_sends 19 = .ok (.iinc 2 1, 3) := by decide +kernel
theorem dX5_sends_22 : decode cX5_sends 22 = .ok (.aload_n 0, 1) := by decide +kernel
theorem dX5_sends_23 : decode cX5_sends 23 = .ok (.iload_n 1, 1) := by decide +kernel
theorem dX5_sends_24 : decode cX5_sends 24 = .ok (.invokevirtual 257, 3) := by decide +kernel
theorem dX5_sends_27 : decode cX5_sends 27 = .ok (.istore_n 3, 1) := by decide +kernel
theorem dX5_sends_28 : decode cX5_sends 28 = .ok (.goto (-20), 3) := by decide +kernel
theorem dX5_sends_31 : decode cX5_sends 31 = .ok (.iload_n 2, 1) := by decide +kernel
theorem dX5_sends_32 : decode cX5_sends 32 = .ok (.ireturn, 1) := by decide +kernel
theorem dX5_planned_0 : decode cX5_planned 0 = .ok (.aload_n 0, 1) := by decide +kernel
theorem dX5_planned_1 : decode cX5_planned 1 = .ok (.invokevirtual 142, 3) := by decide +kernel
theorem dX5_planned_4 : decode cX5_planned 4 = .ok (.aload_n 0, 1) := by decide +kernel
theorem dX5_planned_5 : decode cX5_planned 5 = .ok (.aload_n 0, 1) := by decide +kernel
theorem dX5_planned_6 : decode cX5_planned 6 = .ok (.invokevirtual 126, 3) := by decide +kernel
theorem dX5_planned_9 : decode cX5_planned 9 = .ok (.invokevirtual 136, 3) := by decide +kernel
theorem dX5_planned_12 : decode cX5_planned 12 = .ok (.aload_n 0, 1) := by decide +kernel
theorem dX5_planned_13 : decode cX5_planned 13 = .ok (.iload_n 1, 1) := by decide +kernel
theorem dX5_planned_14 : decode cX5_planned 14 = .ok (.invokevirtual 263, 3) := by decide +kernel
theorem dX5_planned_17 : decode cX5_planned 17 = .ok (.pop, 1) := by decide +kernel
theorem dX5_planned_18 : decode cX5_planned 18 = .ok (.iconst 0, 1) := by decide +kernel
theorem dX5_planned_19 : decode cX5_planned 19 = .ok (.istore_n 3, 1) := by decide +kernel
theorem dX5_planned_20 : decode cX5_planned 20 = .ok (.iload_n 3, 1) := by decide +kernel
theorem dX5_planned_21 : decode cX5_planned 21 = .ok (.sipush 2000, 3) := by decide +kernel
theorem dX5_planned_24 : decode cX5_planned 24 = .ok (.if_icmp .ge 35, 3) := by decide +kernel
theorem dX5_planned_27 : decode cX5_planned 27 = .ok (.aload_n 0, 1) := by decide +kernel
theorem dX5_planned_28 : decode cX5_planned 28 = .ok (.iconst 2, 1) := by decide +kernel
theorem dX5_planned_29 : decode cX5_planned 29 = .ok (.invokevirtual 210, 3) := by decide +kernel
theorem dX5_planned_32 : decode cX5_planned 32 = .ok (.aload_n 0, 1) := by decide +kernel
theorem dX5_planned_33 : decode cX5_planned 33 = .ok (.getfield 7, 3) := by decide +kernel
theorem dX5_planned_36 : decode cX5_planned 36 = .ok (.iconst 1, 1) := by decide +kernel
theorem dX5_planned_37 : decode cX5_planned 37 = .ok (.iaload, 1) := by decide +kernel
theorem dX5_planned_38 : decode cX5_planned 38 = .ok (.if_icmp .ge 21, 3) := by decide +kernel
theorem dX5_planned_41 : decode cX5_planned 41 = .ok (.aload_n 0, 1) := by decide +kernel
theorem dX5_planned_42 : decode cX5_planned 42 = .ok (.iconst 1, 1) := by decide +kernel
theorem dX5_planned_43 : decode cX5_planned 43 = .ok (.invokevirtual 266, 3) := by decide +kernel
theorem dX5_planned_46 : decode cX5_planned 46 = .ok (.pop, 1) := by decide +kernel
theorem dX5_planned_47 : decode cX5_planned 47 = .ok (.aload_n 0, 1) := by decide +kernel
theorem dX5_planned_48 : decode cX5_planned 48 = .ok (.iload_n 1, 1) := by decide +kernel
theorem dX5_planned_49 : decode cX5_planned 49 = .ok (.invokevirtual 263, 3) := by decide +kernel
theorem dX5_planned_52 : decode cX5_planned 52 = .ok (.pop, 1) := by decide +kernel
theorem dX5_planned_53 : decode cX5_planned 53 = .ok (.iinc 3 1, 3) := by decide +kernel
theorem dX5_planned_56 : decode cX5_planned 56 = .ok (.goto (-36), 3) := by decide +kernel
theorem dX5_planned_59 : decode cX5_planned 59 = .ok (.iconst 0, 1) := by decide +kernel
theorem dX5_planned_60 : decode cX5_planned 60 = .ok (.istore_n 3, 1) := by decide +kernel
theorem dX5_planned_61 : decode cX5_planned 61 = .ok (.iconst 0, 1) := by decide +kernel
theorem dX5_planned_62 : decode cX5_planned 62 = .ok (.istore 4, 2) := by decide +kernel
theorem dX5_planned_64 : decode cX5_planned 64 = .ok (.iconst 0, 1) := by decide +kernel
theorem dX5_planned_65 : decode cX5_planned 65 = .ok (.istore 5, 2) := by decide +kernel
theorem dX5_planned_67 : decode cX5_planned 67 = .ok (.iload 5, 2) := by decide +kernel
theorem dX5_planned_69 : decode cX5_planned 69 = .ok (.aload_n 0, 1) := by decide +kernel
theorem dX5_planned_70 : decode cX5_planned 70 = .ok (.getfield 7, 3) := by decide +kernel
theorem dX5_planned_73 : decode cX5_planned 73 = .ok (.iconst 1, 1) := by decide +kernel
theorem dX5_planned_74 : decode cX5_planned 74 = .ok (.iaload, 1) := by decide +kernel
theorem dX5_planned_75 : decode cX5_planned 75 = .ok (.if_icmp .ge 44, 3) := by decide +kernel
theorem dX5_planned_78 : decode cX5_planned 78 = .ok (.iload 4, 2) := by decide +kernel
theorem dX5_planned_80 : decode cX5_planned 80 = .ok (.aload_n 0, 1) := by decide +kernel
theorem dX5_planned_81 : decode cX5_planned 81 = .ok (.iload 5, 2) := by decide +kernel
theorem dX5_planned_83 : decode cX5_planned 83 = .ok (.iconst 5, 1) := by decide +kernel
theorem dX5_planned_84 : decode cX5_planned 84 = .ok (.invokevirtual 122, 3) := by decide +kernel
theorem dX5_planned_87 : decode cX5_planned 87 = .ok (.iadd, 1) := by decide +kernel
theorem dX5_planned_88 : decode cX5_planned 88 = .ok (.istore 4, 2) := by decide +kernel
theorem dX5_planned_90 : decode cX5_planned 90 = .ok (.aload_n 0, 1) := by decide +kernel
theorem dX5_planned_91 : decode cX5_planned 91 = .ok (.iload 5, 2) := by decide +kernel
theorem dX5_planned_93 : decode cX5_planned 93 = .ok (.iconst 5, 1) := by decide +kernel
theorem dX5_planned_94 : decode cX5_planned 94 = .ok (.invokevirtual 122, 3) := by decide +kernel
theorem dX5_planned_97 : decode cX5_planned 97 = .ok (.iload_n 3, 1) := by decide +kernel
theorem dX5_planned_98 : decode cX5_planned 98 = .ok (.if_icmp .le 13, 3) := by decide +kernel
theorem dX5_planned_101 : decode cX5_planned 101 = .ok (.aload_n 0, 1) := by decide +kernel
theorem dX5_planned_102 : decode cX5_planned 102 = .ok (.iload 5, 2) := by decide +kernel
theorem dX5_planned_104 : decode cX5_planned 104 = .ok (.iconst 5, 1) := by decide +kernel
theorem dX5_planned_105 : decode cX5_planned 105 = .ok (.invokevirtual 122, 3) := by decide +kernel
theorem dX5_planned_108 : decode cX5_planned 108 = .ok (.goto 4, 3) := by decide +kernel
theorem dX5_planned_111 : decode cX5_planned 111 = .ok (.iload_n 3, 1) := by decide +kernel
theorem dX5_planned_112 : decode cX5_planned 112 = .ok (.istore_n 3, 1) := by decide +kernel
theorem dX5_planned_113 : decode cX5_planned 113 = .ok (.iinc 5 1, 3) := by decide +kernel
theorem dX5_planned_116 : decode cX5_planned 116 = .ok (.goto (-49), 3) := by decide +kernel
theorem dX5_planned_119 : decode cX5_planned 119 = .ok (.aload_n 0, 1) := by decide +kernel
theorem dX5_planned_120 : decode cX5_planned 120 = .ok (.invokevirtual 155, 3) := by decide +kernel
theorem dX5_planned_123 : decode cX5_planned 123 = .ok (.iload_n 2, 1) := by decide +kernel
theorem dX5_planned_124 : decode cX5_planned 124 = .ok (.ifCond .ne 7, 3) := by decide +kernel
theorem dX5_planned_127 : decode cX5_planned 127 = .ok (.iload_n 3, 1) := by decide +kernel
theorem dX5_planned_128 : decode cX5_planned 128 = .ok (.goto 5, 3) := by decide +kernel
theorem dX5_planned_131 : decode cX5_planned 131 = .ok (.iload 4, 2) := by decide +kernel
theorem dX5_planned_133 : decode cX5_planned 133 = .ok (.ireturn, 1) := by decide +kernel
theorem dX5_plan_0 : decode cX5_plan 0 = .ok (.iload_n 1, 1) := by decide +kernel
theorem dX5_plan_1 : decode cX5_plan 1 = .ok (.i2l, 1) := by decide +kernel
theorem dX5_plan_2 : decode cX5_plan 2 = .ok (.lconst 0, 1) := by decide +kernel
theorem dX5_plan_3 : decode cX5_plan 3 = .ok (.ldc2_w 269, 3) := by decide +kernel
theorem dX5_plan_6 : decode cX5_plan 6 = .ok (.invokestatic 55, 3) := by decide +kernel
theorem dX5_plan_9 : decode cX5_plan 9 = .ok (.ifCond .eq 22, 3) := by decide +kernel
theorem dX5_plan_12 : decode cX5_plan 12 = .ok (.iload_n 2, 1) := by decide +kernel
theorem dX5_plan_13 : decode cX5_plan 13 = .ok (.i2l, 1) := by decide +kernel
theorem dX5_plan_14 : decode cX5_plan 14 = .ok (.lconst 0, 1) := by decide +kernel
theorem dX5_plan_15 : decode cX5_plan 15 = .ok (.lconst 1, 1) := by decide +kernel
theorem dX5_plan_16 : decode cX5_plan 16 = .ok (.invokestatic 55, 3) := by decide +kernel
theorem dX5_plan_19 : decode cX5_plan 19 = .ok (.ifCond .eq 12, 3) := by decide +kernel
theorem dX5_plan_22 : decode cX5_plan 22 = .ok (.aload_n 0, 1) := by decide +kernel
theorem dX5_plan_23 : decode cX5_plan 23 = .ok (.iload_n 1, 1) := by decide +kernel
theorem dX5_plan_24 : decode cX5_plan 24 = .ok (.iload_n 2, 1) := by decide +kernel
theorem dX5_plan_25 : decode cX5_plan 25 = .ok (.invokevirtual 271, 3) := by decide +kernel
theorem dX5_plan_28 : decode cX5_plan 28 = .ok (.goto 4, 3) := by decide +kernel
theorem dX5_plan_31 : decode cX5_plan 31 = .ok (.iconst (-1), 1) := by decide +kernel
theorem dX5_plan_32 : decode cX5_plan 32 = .ok (.ireturn, 1) := by decide +kernel
theorem dX5_best_0 : decode cX5_best 0 = .ok (.aload_n 0, 1) := by decide +kernel
theorem dX5_best_1 : decode cX5_best 1 = .ok (.getfield 7, 3) := by decide +kernel
theorem dX5_best_4 : decode cX5_best 4 = .ok (.iconst 1, 1) := by decide +kernel
theorem dX5_best_5 : decode cX5_best 5 = .ok (.iaload, 1) := by decide +kernel
theorem dX5_best_6 : decode cX5_best 6 = .ok (.ifCond .ne 6, 3) := by decide +kernel
theorem dX5_best_9 : decode cX5_best 9 = .ok (.bipush (-4), 2) := by decide +kernel
theorem dX5_best_11 : decode cX5_best 11 = .ok (.ireturn, 1) := by decide +kernel
theorem dX5_best_12 : decode cX5_best 12 = .ok (.iconst 0, 1) := by decide +kernel
theorem dX5_best_13 : decode cX5_best 13 = .ok (.istore_n 1, 1) := by decide +kernel
theorem dX5_best_14 : decode cX5_best 14 = .ok (.aload_n 0, 1) := by decide +kernel
theorem dX5_best_15 : decode cX5_best 15 = .ok (.iconst 0, 1) := by decide +kernel
theorem dX5_best_16 : decode cX5_best 16 = .ok (.iconst 1, 1) := by decide +kernel
theorem dX5_best_17 : decode cX5_best 17 = .ok (.invokevirtual 271, 3) := by decide +kernel
theorem dX5_best_20 : decode cX5_best 20 = .ok (.istore_n 2, 1) := by decide +kernel
theorem dX5_best_21 : decode cX5_best 21 = .ok (.iconst 1, 1) := by decide +kernel
theorem dX5_best_22 : decode cX5_best 22 = .ok (.istore_n 3, 1) := by decide +kernel
theorem dX5_best_23 : decode cX5_best 23 = .ok (.iload_n 3, 1) := by decide +kernel
theorem dX5_best_24 : decode cX5_best 24 = .ok (.iconst 3, 1) := by decide +kernel
theorem dX5_best_25 : decode cX5_best 25 = .ok (.if_icmp .ge 28, 3) := by decide +kernel
theorem dX5_best_28 : decode cX5_best 28 = .ok (.aload_n 0, 1) := by decide +kernel
theorem dX5_best_29 : decode cX5_best 29 = .ok (.iload_n 3, 1) := by decide +kernel
theorem dX5_best_30 : decode cX5_best 30 = .ok (.iconst 1, 1) := by decide +kernel
theorem dX5_best_31 : decode cX5_best 31 = .ok (.invokevirtual 271, 3) := by decide +kernel
theorem dX5_best_34 : decode cX5_best 34 = .ok (.istore 4, 2) := by decide +kernel
theorem dX5_best_36 : decode cX5_best 36 = .ok (.iload 4, 2) := by decide +kernel
theorem dX5_best_38 : decode cX5_best 38 = .ok (.iload_n 2, 1) := by decide +kernel
theorem dX5_best_39 : decode cX5_best 39 = .ok (.if_icmp .ge 8, 3) := by decide +kernel
theorem dX5_best_42 : decode cX5_best 42 = .ok (.iload_n 3, 1) := by decide +kernel
theorem dX5_best_43 : decode cX5_best 43 = .ok (.istore_n 1, 1) := by decide +kernel
theorem dX5_best_44 : decode cX5_best 44 = .ok (.iload 4, 2) := by decide +kernel
theorem dX5_best_46 : decode cX5_best 46 = .ok (.istore_n 2, 1) := by decide +kernel
theorem dX5_best_47 : decode cX5_best 47 = .ok (.iinc 3 1, 3) := by decide +kernel
theorem dX5_best_50 : decode cX5_best 50 = .ok (.goto (-27), 3) := by decide +kernel
theorem dX5_best_53 : decode cX5_best 53 = .ok (.iload_n 1, 1) := by decide +kernel
theorem dX5_best_54 : decode cX5_best 54 = .ok (.ireturn, 1) := by decide +kernel
theorem dX5_let_0 : decode cX5_let 0 = .ok (.aload_n 0, 1) := by decide +kernel
theorem dX5_let_1 : decode cX5_let 1 = .ok (.iload_n 1, 1) := by decide +kernel
theorem dX5_let_2 : decode cX5_let 2 = .ok (.invokevirtual 231, 3) := by decide +kernel
theorem dX5_let_5 : decode cX5_let 5 = .ok (.ifCond .ne 5, 3) := by decide +kernel
theorem dX5_let_8 : decode cX5_let 8 = .ok (.iconst (-1), 1) := by decide +kernel
theorem dX5_let_9 : decode cX5_let 9 = .ok (.ireturn, 1) := by decide +kernel
theorem dX5_let_10 : decode cX5_let 10 = .ok (.aload_n 0, 1) := by decide +kernel
theorem dX5_let_11 : decode cX5_let 11 = .ok (.aload_n 0, 1) := by decide +kernel
theorem dX5_let_12 : decode cX5_let 12 = .ok (.invokevirtual 126, 3) := by decide +kernel
theorem dX5_let_15 : decode cX5_let 15 = .ok (.invokevirtual 136, 3) := by decide +kernel
theorem dX5_let_18 : decode cX5_let 18 = .ok (.aload_n 0, 1) := by decide +kernel
theorem dX5_let_19 : decode cX5_let 19 = .ok (.iload_n 1, 1) := by decide +kernel
theorem dX5_let_20 : decode cX5_let 20 = .ok (.invokevirtual 207, 3) := by decide +kernel
theorem dX5_let_23 : decode cX5_let 23 = .ok (.ifCond .eq 6, 3) := by decide +kernel
theorem dX5_let_26 : decode cX5_let 26 = .ok (.bipush (-2), 2) := by decide +kernel
theorem dX5_let_28 : decode cX5_let 28 = .ok (.ireturn, 1) := by decide +kernel
theorem dX5_let_29 : decode cX5_let 29 = .ok (.aload_n 0, 1) := by decide +kernel
theorem dX5_let_30 : decode cX5_let 30 = .ok (.iload_n 1, 1) := by decide +kernel
theorem dX5_let_31 : decode cX5_let 31 = .ok (.invokevirtual 260, 3) := by decide +kernel
theorem dX5_let_34 : decode cX5_let 34 = .ok (.aload_n 0, 1) := by decide +kernel
theorem dX5_let_35 : decode cX5_let 35 = .ok (.iload_n 1, 1) := by decide +kernel
theorem dX5_let_36 : decode cX5_let 36 = .ok (.iconst 5, 1) := by decide +kernel
theorem dX5_let_37 : decode cX5_let 37 = .ok (.invokevirtual 122, 3) := by decide +kernel
theorem dX5_let_40 : decode cX5_let 40 = .ok (.ireturn, 1) := by decide +kernel
theorem dX5_tick_0 : decode cX5_tick 0 = .ok (.iload_n 1, 1) := by decide +kernel
theorem dX5_tick_1 : decode cX5_tick 1 = .ok (.i2l, 1) := by decide +kernel
theorem dX5_tick_2 : decode cX5_tick 2 = .ok (.lconst 1, 1) := by decide +kernel
theorem dX5_tick_3 : decode cX5_tick 3 = .ok (.ldc2_w 274, 3) := by decide +kernel
theorem dX5_tick_6 : decode cX5_tick 6 = .ok (.invokestatic 55, 3) := by decide +kernel
theorem dX5_tick_9 : decode cX5_tick 9 = .ok (.ifCond .eq 11, 3) := by decide +kernel
theorem dX5_tick_12 : decode cX5_tick 12 = .ok (.aload_n 0, 1) := by decide +kernel
theorem dX5_tick_13 : decode cX5_tick 13 = .ok (.iload_n 1, 1) := by decide +kernel
theorem dX5_tick_14 : decode cX5_tick 14 = .ok (.invokevirtual 266, 3) := by decide +kernel
theorem dX5_tick_17 : decode cX5_tick 17 = .ok (.goto 4, 3) := by decide +kernel
theorem dX5_tick_20 : decode cX5_tick 20 = .ok (.iconst (-1), 1) := by decide +kernel
theorem dX5_tick_21 : decode cX5_tick 21 = .ok (.ireturn, 1) := by decide +kernel
theorem dX5_send_0 : decode cX5_send 0 = .ok (.iload_n 1, 1) := by decide +kernel
theorem dX5_send_1 : decode cX5_send 1 = .ok (.i2l, 1) := by decide +kernel
theorem dX5_send_2 : decode cX5_send 2 = .ok (.lconst 0, 1) := by decide +kernel
theorem dX5_send_3 : decode cX5_send 3 = .ok (.ldc2_w 269, 3) := by decide +kernel
theorem dX5_send_6 : decode cX5_send 6 = .ok (.invokestatic 55, 3) := by decide +kernel
theorem dX5_send_9 : decode cX5_send 9 = .ok (.ifCond .ne 5, 3) := by decide +kernel
theorem dX5_send_12 : decode cX5_send 12 = .ok (.iconst (-1), 1) := by decide +kernel
theorem dX5_send_13 : decode cX5_send 13 = .ok (.ireturn, 1) := by decide +kernel
theorem dX5_send_14 : decode cX5_send 14 = .ok (.aload_n 0, 1) := by decide +kernel
theorem dX5_send_15 : decode cX5_send 15 = .ok (.aload_n 0, 1) := by decide +kernel
theorem dX5_send_16 : decode cX5_send 16 = .ok (.invokevirtual 126, 3) := by decide +kernel
theorem dX5_send_19 : decode cX5_send 19 = .ok (.invokevirtual 136, 3) := by decide +kernel
theorem dX5_send_22 : decode cX5_send 22 = .ok (.aload_n 0, 1) := by decide +kernel
theorem dX5_send_23 : decode cX5_send 23 = .ok (.iload_n 1, 1) := by decide +kernel
theorem dX5_send_24 : decode cX5_send 24 = .ok (.invokevirtual 263, 3) := by decide +kernel
theorem dX5_send_27 : decode cX5_send 27 = .ok (.ireturn, 1) := by decide +kernel
theorem dX5_journal_0 : decode cX5_journal 0 = .ok (.iload_n 1, 1) := by decide +kernel
theorem dX5_journal_1 : decode cX5_journal 1 = .ok (.ifCond .lt 15, 3) := by decide +kernel
theorem dX5_journal_4 : decode cX5_journal 4 = .ok (.iload_n 2, 1) := by decide +kernel
theorem dX5_journal_5 : decode cX5_journal 5 = .ok (.i2l, 1) := by decide +kernel
theorem dX5_journal_6 : decode cX5_journal 6 = .ok (.lconst 0, 1) := by decide +kernel
theorem dX5_journal_7 : decode cX5_journal 7 = .ok (.ldc2_w 269, 3) := by decide +kernel
theorem dX5_journal_10 : decode cX5_journal 10 = .ok (.invokestatic 55, 3) := by decide +kernel
theorem dX5_journal_13 : decode cX5_journal 13 = .ok (.ifCond .ne 5, 3) := by decide +kernel
theorem dX5_journal_16 : decode cX5_journal 16 = .ok (.iconst (-1), 1) := by decide +kernel
theorem dX5_journal_17 : decode cX5_journal 17 = .ok (.ireturn, 1) := by decide +kernel
theorem dX5_journal_18 : decode cX5_journal 18 = .ok (.iload_n 1, 1) := by decide +kernel
theorem dX5_journal_19 : decode cX5_journal 19 = .ok (.aload_n 0, 1) := by decide +kernel
theorem dX5_journal_20 : decode cX5_journal 20 = .ok (.getfield 7, 3) := by decide +kernel
theorem dX5_journal_23 : decode cX5_journal 23 = .ok (.iconst 3, 1) := by decide +kernel
theorem dX5_journal_24 : decode cX5_journal 24 = .ok (.iaload, 1) := by decide +kernel
theorem dX5_journal_25 : decode cX5_journal 25 = .ok (.if_icmp .ge 12, 3) := by decide +kernel
theorem dX5_journal_28 : decode cX5_journal 28 = .ok (.aload_n 0, 1) := by decide +kernel
theorem dX5_journal_29 : decode cX5_journal 29 = .ok (.iload_n 1, 1) := by decide +kernel
theorem dX5_journal_30 : decode cX5_journal 30 = .ok (.iload_n 2, 1) := by decide +kernel
theorem dX5_journal_31 : decode cX5_journal 31 = .ok (.invokevirtual 246, 3) := by decide +kernel
theorem dX5_journal_34 : decode cX5_journal 34 = .ok (.goto 5, 3) := by decide +kernel
theorem dX5_journal_37 : decode cX5_journal 37 = .ok (.bipush (-4), 2) := by decide +kernel
theorem dX5_journal_39 : decode cX5_journal 39 = .ok (.ireturn, 1) := by decide +kernel
theorem dX5_isGood_0 : decode cX5_isGood 0 = .ok (.aload_n 0, 1) := by decide +kernel
theorem dX5_isGood_1 : decode cX5_isGood 1 = .ok (.iload_n 1, 1) := by decide +kernel
theorem dX5_isGood_2 : decode cX5_isGood 2 = .ok (.invokevirtual 222, 3) := by decide +kernel
theorem dX5_isGood_5 : decode cX5_isGood 5 = .ok (.ifCond .eq 32, 3) := by decide +kernel
theorem dX5_isGood_8 : decode cX5_isGood 8 = .ok (.aload_n 0, 1) := by decide +kernel
theorem dX5_isGood_9 : decode cX5_isGood 9 = .ok (.iload_n 2, 1) := by decide +kernel
theorem dX5_isGood_10 : decode cX5_isGood 10 = .ok (.invokevirtual 222, 3) := by decide +kernel
theorem dX5_isGood_13 : decode cX5_isGood 13 = .ok (.ifCond .eq 24, 3) := by decide +kernel
theorem dX5_isGood_16 : decode cX5_isGood 16 = .ok (.iload_n 1, 1) := by decide +kernel
theorem dX5_isGood_17 : decode cX5_isGood 17 = .ok (.iload_n 2, 1) := by decide +kernel
theorem dX5_isGood_18 : decode cX5_isGood 18 = .ok (.if_icmp .eq 19, 3) := by decide +kernel
theorem dX5_isGood_21 : decode cX5_isGood 21 = .ok (.iload_n 3, 1) := by decide +kernel
theorem dX5_isGood_22 : decode cX5_isGood 22 = .ok (.i2l, 1) := by decide +kernel
theorem dX5_isGood_23 : decode cX5_isGood 23 = .ok (.lconst 1, 1) := by decide +kernel
theorem dX5_isGood_24 : decode cX5_isGood 24 = .ok (.ldc2_w 276, 3) := by decide +kernel
theorem dX5_isGood_27 : decode cX5_isGood 27 = .ok (.invokestatic 55, 3) := by decide +kernel
theorem dX5_isGood_30 : decode cX5_isGood 30 = .ok (.ifCond .eq 7, 3) := by decide +kernel
theorem dX5_isGood_33 : decode cX5_isGood 33 = .ok (.iconst 1, 1) := by decide +kernel
theorem dX5_isGood_34 : decode cX5_isGood 34 = .ok (.goto 4, 3) := by decide +kernel
theorem dX5_isGood_37 : decode cX5_isGood 37 = .ok (.iconst 0, 1) := by decide +kernel
theorem dX5_isGood_38 : decode cX5_isGood 38 = .ok (.ireturn, 1) := by decide +kernel
theorem dX5_add_0 : decode cX5_add 0 = .ok (.aload_n 0, 1) := by decide +kernel
theorem dX5_add_1 : decode cX5_add 1 = .ok (.iload_n 1, 1) := by decide +kernel
theorem dX5_add_2 : decode cX5_add 2 = .ok (.iload_n 2, 1) := by decide +kernel
theorem dX5_add_3 : decode cX5_add 3 = .ok (.iload_n 3, 1) := by decide +kernel
theorem dX5_add_4 : decode cX5_add 4 = .ok (.invokevirtual 278, 3) := by decide +kernel
theorem dX5_add_7 : decode cX5_add 7 = .ok (.ifCond .ne 5, 3) := by decide +kernel
theorem dX5_add_10 : decode cX5_add 10 = .ok (.iconst (-1), 1) := by decide +kernel
theorem dX5_add_11 : decode cX5_add 11 = .ok (.ireturn, 1) := by decide +kernel
theorem dX5_add_12 : decode cX5_add 12 = .ok (.aload_n 0, 1) := by decide +kernel
theorem dX5_add_13 : decode cX5_add 13 = .ok (.getfield 7, 3) := by decide +kernel
theorem dX5_add_16 : decode cX5_add 16 = .ok (.iconst 1, 1) := by decide +kernel
theorem dX5_add_17 : decode cX5_add 17 = .ok (.iaload, 1) := by decide +kernel
theorem dX5_add_18 : decode cX5_add 18 = .ok (.iconst 4, 1) := by decide +kernel
theorem dX5_add_19 : decode cX5_add 19 = .ok (.if_icmp .ne 6, 3) := by decide +kernel
theorem dX5_add_22 : decode cX5_add 22 = .ok (.bipush (-3), 2) := by decide +kernel
theorem dX5_add_24 : decode cX5_add 24 = .ok (.ireturn, 1) := by decide +kernel
theorem dX5_add_25 : decode cX5_add 25 = .ok (.bipush 34, 2) := by decide +kernel
theorem dX5_add_27 : decode cX5_add 27 = .ok (.bipush 6, 2) := by decide +kernel
theorem dX5_add_29 : decode cX5_add 29 = .ok (.aload_n 0, 1) := by decide +kernel
theorem dX5_add_30 : decode cX5_add 30 = .ok (.getfield 7, 3) := by decide +kernel
theorem dX5_add_33 : decode cX5_add 33 = .ok (.iconst 1, 1) := by decide +kernel
theorem dX5_add_34 : decode cX5_add 34 = .ok (.iaload, 1) := by decide +kernel
theorem dX5_add_35 : decode cX5_add 35 = .ok (.imul, 1) := by decide +kernel
theorem dX5_add_36 : decode cX5_add 36 = .ok (.iadd, 1) := by decide +kernel
theorem dX5_add_37 : decode cX5_add 37 = .ok (.istore 4, 2) := by decide +kernel
theorem dX5_add_39 : decode cX5_add 39 = .ok (.aload_n 0, 1) := by decide +kernel
theorem dX5_add_40 : decode cX5_add 40 = .ok (.getfield 7, 3) := by decide +kernel
theorem dX5_add_43 : decode cX5_add 43 = .ok (.iload 4, 2) := by decide +kernel
theorem dX5_add_45 : decode cX5_add 45 = .ok (.iconst 0, 1) := by decide +kernel
theorem dX5_add_46 : decode cX5_add 46 = .ok (.iadd, 1) := by decide +kernel
theorem dX5_add_47 : decode cX5_add 47 = .ok (.iload_n 1, 1) := by decide +kernel
theorem dX5_add_48 : decode cX5_add 48 = .ok (.iastore, 1) := by decide +kernel
theorem dX5_add_49 : decode cX5_add 49 = .ok (.aload_n 0, 1) := by decide +kernel
theorem dX5_add_50 : decode cX5_add 50 = .ok (.getfield 7, 3) := by decide +kernel
theorem dX5_add_53 : decode cX5_add 53 = .ok (.iload 4, 2) := by decide +kernel
theorem dX5_add_55 : decode cX5_add 55 = .ok (.iconst 1, 1) := by decide +kernel
theorem dX5_add_56 : decode cX5_add 56 = .ok (.iadd, 1) := by decide +kernel
theorem dX5_add_57 : decode cX5_add 57 = .ok (.iload_n 2, 1) := by decide +kernel
theorem dX5_add_58 : decode cX5_add 58 = .ok (.iastore, 1) := by decide +kernel
theorem dX5_add_59 : decode cX5_add 59 = .ok (.aload_n 0, 1) := by decide +kernel
theorem dX5_add_60 : decode cX5_add 60 = .ok (.getfield 7, 3) := by decide +kernel
theorem dX5_add_63 : decode cX5_add 63 = .ok (.iload 4, 2) := by decide +kernel
theorem dX5_add_65 : decode cX5_add 65 = .ok (.iconst 2, 1) := by decide +kernel
theorem dX5_add_66 : decode cX5_add 66 = .ok (.iadd, 1) := by decide +kernel
theorem dX5_add_67 : decode cX5_add 67 = .ok (.iload_n 3, 1) := by decide +kernel
theorem dX5_add_68 : decode cX5_add 68 = .ok (.iastore, 1) := by decide +kernel
theorem dX5_add_69 : decode cX5_add 69 = .ok (.aload_n 0, 1) := by decide +kernel
theorem dX5_add_70 : decode cX5_add 70 = .ok (.getfield 7, 3) := by decide +kernel
theorem dX5_add_73 : decode cX5_add 73 = .ok (.iload 4, 2) := by decide +kernel
theorem dX5_add_75 : decode cX5_add 75 = .ok (.iconst 3, 1) := by decide +kernel
theorem dX5_add_76 : decode cX5_add 76 = .ok (.iadd, 1) := by decide +kernel
theorem dX5_add_77 : decode cX5_add 77 = .ok (.iload_n 1, 1) := by decide +kernel
theorem dX5_add_78 : decode cX5_add 78 = .ok (.iastore, 1) := by decide +kernel
theorem dX5_add_79 : decode cX5_add 79 = .ok (.aload_n 0, 1) := by decide +kernel
theorem dX5_add_80 : decode cX5_add 80 = .ok (.getfield 7, 3) := by decide +kernel
theorem dX5_add_83 : decode cX5_add 83 = .ok (.iload 4, 2) := by decide +kernel
theorem dX5_add_85 : decode cX5_add 85 = .ok (.iconst 4, 1) := by decide +kernel
theorem dX5_add_86 : decode cX5_add 86 = .ok (.iadd, 1) := by decide +kernel
theorem dX5_add_87 : decode cX5_add 87 = .ok (.iconst 0, 1) := by decide +kernel
theorem dX5_add_88 : decode cX5_add 88 = .ok (.iastore, 1) := by decide +kernel
theorem dX5_add_89 : decode cX5_add 89 = .ok (.aload_n 0, 1) := by decide +kernel
theorem dX5_add_90 : decode cX5_add 90 = .ok (.getfield 7, 3) := by decide +kernel
theorem dX5_add_93 : decode cX5_add 93 = .ok (.iload 4, 2) := by decide +kernel
theorem dX5_add_95 : decode cX5_add 95 = .ok (.iconst 5, 1) := by decide +kernel
theorem dX5_add_96 : decode cX5_add 96 = .ok (.iadd, 1) := by decide +kernel
theorem dX5_add_97 : decode cX5_add 97 = .ok (.bipush (-4), 2) := by decide +kernel
theorem dX5_add_99 : decode cX5_add 99 = .ok (.iastore, 1) := by decide +kernel
theorem dX5_add_100 : decode cX5_add 100 = .ok (.aload_n 0, 1) := by decide +kernel
theorem dX5_add_101 : decode cX5_add 101 = .ok (.getfield 7, 3) := by decide +kernel
theorem dX5_add_104 : decode cX5_add 104 = .ok (.iconst 1, 1) := by decide +kernel
theorem dX5_add_105 : decode cX5_add 105 = .ok (.dup2, 1) := by decide +kernel
theorem dX5_add_106 : decode cX5_add 106 = .ok (.iaload, 1) := by decide +kernel
theorem dX5_add_107 : decode cX5_add 107 = .ok (.iconst 1, 1) := by decide +kernel
theorem dX5_add_108 : decode cX5_add 108 = .ok (.iadd, 1) := by decide +kernel
theorem dX5_add_109 : decode cX5_add 109 = .ok (.iastore, 1) := by decide +kernel
theorem dX5_add_110 : decode cX5_add 110 = .ok (.aload_n 0, 1) := by decide +kernel
theorem dX5_add_111 : decode cX5_add 111 = .ok (.invokevirtual 149, 3) := by decide +kernel
theorem dX5_add_114 : decode cX5_add 114 = .ok (.ifCond .eq 10, 3) := by decide +kernel
theorem dX5_add_117 : decode cX5_add 117 = .ok (.aload_n 0, 1) := by decide +kernel
theorem dX5_add_118 : decode cX5_add 118 = .ok (.invokevirtual 152, 3) := by decide +kernel
theorem dX5_add_121 : decode cX5_add 121 = .ok (.ifCond .ne 16, 3) := by decide +kernel
theorem dX5_add_124 : decode cX5_add 124 = .ok (.aload_n 0, 1) := by decide +kernel
theorem dX5_add_125 : decode cX5_add 125 = .ok (.getfield 7, 3) := by decide +kernel
theorem dX5_add_128 : decode cX5_add 128 = .ok (.iconst 1, 1) := by decide +kernel
theorem dX5_add_129 : decode cX5_add 129 = .ok (.dup2, 1) := by decide +kernel
theorem dX5_add_130 : decode cX5_add 130 = .ok (.iaload, 1) := by decide +kernel
theorem dX5_add_131 : decode cX5_add 131 = .ok (.iconst 1, 1) := by decide +kernel
theorem dX5_add_132 : decode cX5_add 132 = .ok (.isub, 1) := by decide +kernel
theorem dX5_add_133 : decode cX5_add 133 = .ok (.iastore, 1) := by decide +kernel
theorem dX5_add_134 : decode cX5_add 134 = .ok (.bipush (-2), 2) := by decide +kernel
theorem dX5_add_136 : decode cX5_add 136 = .ok (.ireturn, 1) := by decide +kernel
theorem dX5_add_137 : decode cX5_add 137 = .ok (.aload_n 0, 1) := by decide +kernel
theorem dX5_add_138 : decode cX5_add 138 = .ok (.getfield 7, 3) := by decide +kernel
theorem dX5_add_141 : decode cX5_add 141 = .ok (.iconst 1, 1) := by decide +kernel
theorem dX5_add_142 : decode cX5_add 142 = .ok (.iaload, 1) := by decide +kernel
theorem dX5_add_143 : decode cX5_add 143 = .ok (.ireturn, 1) := by decide +kernel
theorem dX5_leavesJournal_0 : decode cX5_leavesJournal 0 = .ok (.iconst 0, 1) := by decide +kernel
theorem dX5_leavesJournal_1 : decode cX5_leavesJournal 1 = .ok (.istore_n 2, 1) := by decide +kernel
theorem dX5_leavesJournal_2 : decode cX5_leavesJournal 2 = .ok (.iconst 0, 1) := by decide +kernel
theorem dX5_leavesJournal_3 : decode cX5_leavesJournal 3 = .ok (.istore_n 3, 1) := by decide +kernel
theorem dX5_leavesJournal_4 : decode cX5_leavesJournal 4 = .ok (.iload_n 3, 1) := by decide +kernel
theorem dX5_leavesJournal_5 : decode cX5_leavesJournal 5 = .ok (.aload_n 0, 1) := by decide +kernel
theorem dX5_leavesJournal_6 : decode cX5_leavesJournal 6 = .ok (.getfield 7, 3) := by decide +kernel
theorem dX5_leavesJournal_9 : decode cX5_leavesJournal 9 = .ok (.iconst 3, 1) := by decide +kernel
theorem dX5_leavesJournal_10 : decode cX5_leavesJournal 10 = .ok (.iaload, 1) := by decide +kernel
theorem dX5_leavesJournal_11 : decode cX5_leavesJournal 11 = .ok (.if_icmp .ge 100, 3) := by decide +kernel
theorem dX5_leavesJournal_14 : decode cX5_leavesJournal 14 = .ok (.aload_n 0, 1) := by decide +kernel
theorem dX5_leavesJournal_15 : decode cX5_leavesJournal 15 = .ok (.iload_n 3, 1) := by decide +kernel
theorem dX5_leavesJournal_16 : decode cX5_leavesJournal 16 = .ok (.iconst 1, 1) := by decide +kernel
theorem dX5_leavesJournal_17 : decode cX5_leavesJournal 17 = .ok (.invokevirtual 246, 3) := by decide +kernel
theorem dX5_leavesJournal_20 : decode cX5_leavesJournal 20 = .ok (.istore 4, 2) := by decide +kernel
theorem dX5_leavesJournal_22 : decode cX5_leavesJournal 22 = .ok (.iload 4, 2) := by decide +kernel
theorem dX5_leavesJournal_24 : decode cX5_leavesJournal 24 = .ok (.iload_n 1, 1) := by decide +kernel
theorem dX5_leavesJournal_25 : decode cX5_leavesJournal 25 = .ok (.if_icmp .eq 80, 3) := by decide +kernel
theorem dX5_leavesJournal_28 : decode cX5_leavesJournal 28 = .ok (.aload_n 0, 1) := by decide +kernel
theorem dX5_leavesJournal_29 : decode cX5_leavesJournal 29 = .ok (.iload_n 3, 1) := by decide +kernel
theorem dX5_leavesJournal_30 : decode cX5_leavesJournal 30 = .ok (.iconst 0, 1) := by decide +kernel
theorem dX5_leavesJournal_31 : decode cX5_leavesJournal 31 = .ok (.invokevirtual 246, 3) := by decide +kernel
theorem dX5_leavesJournal_34 : decode cX5_leavesJournal 34 = .ok (.istore 5, 2) := by decide +kernel
theorem dX5_leavesJournal_36 : decode cX5_leavesJournal 36 = .ok (.aload_n 0, 1) := by decide +kernel
theorem dX5_leavesJournal_37 : decode cX5_leavesJournal 37 = .ok (.iload_n 3, 1) := by decide +kernel
theorem dX5_leavesJournal_38 : decode cX5_leavesJournal 38 = .ok (.iconst 2, 1) := by decide +kernel
theorem dX5_leavesJournal_39 : decode cX5_leavesJournal 39 = .ok (.invokevirtual 246, 3) := by decide +kernel
theorem dX5_leavesJournal_42 : decode cX5_leavesJournal 42 = .ok (.istore 6, 2) := by decide +kernel
theorem dX5_leavesJournal_44 : decode cX5_leavesJournal 44 = .ok (.aload_n 0, 1) := by decide +kernel
theorem dX5_leavesJournal_45 : decode cX5_leavesJournal 45 = .ok (.getfield 7, 3) := by decide +kernel
theorem dX5_leavesJournal_48 : decode cX5_leavesJournal 48 = .ok (.bipush 58, 2) := by decide +kernel
theorem dX5_leavesJournal_50 : decode cX5_leavesJournal 50 = .ok (.iconst 3, 1) := by decide +kernel
theorem dX5_leavesJournal_51 : decode cX5_leavesJournal 51 = .ok (.iload_n 2, 1) := by decide +kernel
theorem dX5_leavesJournal_52 : decode cX5_leavesJournal 52 = .ok (.imul, 1) := by decide +kernel
theorem dX5_leavesJournal_53 : decode cX5_leavesJournal 53 = .ok (.iadd, 1) := by decide +kernel
theorem dX5_leavesJournal_54 : decode cX5_leavesJournal 54 = .ok (.iconst 0, 1) := by decide +kernel
theorem dX5_leavesJournal_55 : decode cX5_leavesJournal 55 = .ok (.iadd, 1) := by decide +kernel
theorem dX5_leavesJournal_56 : decode cX5_leavesJournal 56 = .ok (.iload 5, 2) := by decide +kernel
theorem dX5_leavesJournal_58 : decode cX5_leavesJournal 58 = .ok (.iastore, 1) := by decide +kernel
theorem dX5_leavesJournal_59 : decode cX5_leavesJournal 59 = .ok (.aload_n 0, 1) := by decide +kernel
theorem dX5_leavesJournal_60 : decode cX5_leavesJournal 60 = .ok (.getfield 7, 3) := by decide +kernel
theorem dX5_leavesJournal_63 : decode cX5_leavesJournal 63 = .ok (.bipush 58, 2) := by decide +kernel
theorem dX5_leavesJournal_65 : decode cX5_leavesJournal 65 = .ok (.iconst 3, 1) := by decide +kernel
theorem dX5_leavesJournal_66 : decode cX5_leavesJournal 66 = .ok (.iload_n 2, 1) := by decide +kernel
theorem dX5_leavesJournal_67 : decode cX5_leavesJournal 67 = .ok (.imul, 1) := by decide +kernel
theorem dX5_leavesJournal_68 : decode cX5_leavesJournal 68 = .ok (.iadd, 1) := by decide +kernel
theorem dX5_leavesJournal_69 : decode cX5_leavesJournal 69 = .ok (.iconst 1, 1) := by decide +kernel
theorem dX5_leavesJournal_70 : decode cX5_leavesJournal 70 = .ok (.iadd, 1) := by decide +kernel
theorem dX5_leavesJournal_71 : decode cX5_leavesJournal 71 = .ok (.iload 4, 2) := by decide +kernel
theorem dX5_leavesJournal_73 : decode cX5_leavesJournal 73 = .ok (.iload_n 1, 1) := by decide +kernel
theorem dX5_leavesJournal_74 : decode cX5_leavesJournal 74 = .ok (.if_icmp .le 10, 3) := by decide +kernel
theorem dX5_leavesJournal_77 : decode cX5_leavesJournal 77 = .ok (.iload 4, 2) := by decide +kernel
theorem dX5_leavesJournal_79 : decode cX5_leavesJournal 79 = .ok (.iconst 1, 1) := by decide +kernel
theorem dX5_leavesJournal_80 : decode cX5_leavesJournal 80 = .ok (.isub, 1) := by decide +kernel
theorem dX5_leavesJournal_81 : decode cX5_leavesJournal 81 = .ok (.goto 5, 3) := by decide +kernel
theorem dX5_leavesJournal_84 : decode cX5_leavesJournal 84 = .ok (.iload 4, 2) := by decide +kernel
theorem dX5_leavesJournal_86 : decode cX5_leavesJournal 86 = .ok (.iastore, 1) := by decide +kernel
theorem dX5_leavesJournal_87 : decode cX5_leavesJournal 87 = .ok (.aload_n 0, 1) := by decide +kernel
theorem dX5_leavesJournal_88 : decode cX5_leavesJournal 88 = .ok (.getfield 7, 3) := by decide +kernel
theorem dX5_leavesJournal_91 : decode cX5_leavesJournal 91 = .ok (.bipush 58, 2) := by decide +kernel
theorem dX5_leavesJournal_93 : decode cX5_leavesJournal 93 = .ok (.iconst 3, 1) := by decide +kernel
theorem dX5_leavesJournal_94 : decode cX5_leavesJournal 94 = .ok (.iload_n 2, 1) := by decide +kernel
theorem dX5_leavesJournal_95 : decode cX5_leavesJournal 95 = .ok (.imul, 1) := by decide +kernel
theorem dX5_leavesJournal_96 : decode cX5_leavesJournal 96 = .ok (.iadd, 1) := by decide +kernel
theorem dX5_leavesJournal_97 : decode cX5_leavesJournal 97 = .ok (.iconst 2, 1) := by decide +kernel
theorem dX5_leavesJournal_98 : decode cX5_leavesJournal 98 = .ok (.iadd, 1) := by decide +kernel
theorem dX5_leavesJournal_99 : decode cX5_leavesJournal 99 = .ok (.iload 6, 2) := by decide +kernel
theorem dX5_leavesJournal_101 : decode cX5_leavesJournal 101 = .ok (.iastore, 1) := by decide +kernel
theorem dX5_leavesJournal_102 : decode cX5_leavesJournal 102 = .ok (.iinc 2 1, 3) := by decide +kernel
theorem dX5_leavesJournal_105 : decode cX5_leavesJournal 105 = .ok (.iinc 3 1, 3) := by decide +kernel
theorem dX5_leavesJournal_108 : decode cX5_leavesJournal 108 = .ok (.goto (-104), 3) := by decide +kernel
theorem dX5_leavesJournal_111 : decode cX5_leavesJournal 111 = .ok (.aload_n 0, 1) := by decide +kernel
theorem dX5_leavesJournal_112 : decode cX5_leavesJournal 112 = .ok (.getfield 7, 3) := by decide +kernel
theorem dX5_leavesJournal_115 : decode cX5_leavesJournal 115 = .ok (.iconst 3, 1) := by decide +kernel
theorem dX5_leavesJournal_116 : decode cX5_leavesJournal 116 = .ok (.iload_n 2, 1) := by decide +kernel
theorem dX5_leavesJournal_117 : decode cX5_leavesJournal 117 = .ok (.iastore, 1) := by decide +kernel
theorem dX5_leavesJournal_118 : decode cX5_leavesJournal 118 = .ok (.return_, 1) := by decide +kernel
theorem dX5_drop_0 : decode cX5_drop 0 = .ok (.aload_n 0, 1) := by decide +kernel
theorem dX5_drop_1 : decode cX5_drop 1 = .ok (.iload_n 1, 1) := by decide +kernel
theorem dX5_drop_2 : decode cX5_drop 2 = .ok (.invokevirtual 231, 3) := by decide +kernel
theorem dX5_drop_5 : decode cX5_drop 5 = .ok (.ifCond .ne 5, 3) := by decide +kernel
theorem dX5_drop_8 : decode cX5_drop 8 = .ok (.iconst (-1), 1) := by decide +kernel
theorem dX5_drop_9 : decode cX5_drop 9 = .ok (.ireturn, 1) := by decide +kernel
theorem dX5_drop_10 : decode cX5_drop 10 = .ok (.aload_n 0, 1) := by decide +kernel
theorem dX5_drop_11 : decode cX5_drop 11 = .ok (.iload_n 1, 1) := by decide +kernel
theorem dX5_drop_12 : decode cX5_drop 12 = .ok (.iconst 4, 1) := by decide +kernel
theorem dX5_drop_13 : decode cX5_drop 13 = .ok (.invokevirtual 122, 3) := by decide +kernel
theorem dX5_drop_16 : decode cX5_drop 16 = .ok (.iconst 1, 1) := by decide +kernel
theorem dX5_drop_17 : decode cX5_drop 17 = .ok (.if_icmp .ne 6, 3) := by decide +kernel
theorem dX5_drop_20 : decode cX5_drop 20 = .ok (.bipush (-2), 2) := by decide +kernel
theorem dX5_drop_22 : decode cX5_drop 22 = .ok (.ireturn, 1) := by decide +kernel
theorem dX5_drop_23 : decode cX5_drop 23 = .ok (.bipush 34, 2) := by decide +kernel
theorem dX5_drop_25 : decode cX5_drop 25 = .ok (.bipush 6, 2) := by decide +kernel
theorem dX5_drop_27 : decode cX5_drop 27 = .ok (.iload_n 1, 1) := by decide +kernel
theorem dX5_drop_28 : decode cX5_drop 28 = .ok (.imul, 1) := by decide +kernel
theorem dX5_drop_29 : decode cX5_drop 29 = .ok (.iadd, 1) := by decide +kernel
theorem dX5_drop_30 : decode cX5_drop 30 = .ok (.istore_n 2, 1) := by decide +kernel
theorem dX5_drop_31 : decode cX5_drop 31 = .ok (.iload_n 2, 1) := by decide +kernel
theorem dX5_drop_32 : decode cX5_drop 32 = .ok (.bipush 34, 2) := by decide +kernel
theorem dX5_drop_34 : decode cX5_drop 34 = .ok (.bipush 6, 2) := by decide +kernel
theorem dX5_drop_36 : decode cX5_drop 36 = .ok (.aload_n 0, 1) := by decide +kernel
theorem dX5_drop_37 : decode cX5_drop 37 = .ok (.getfield 7, 3) := by decide +kernel
theorem dX5_drop_40 : decode cX5_drop 40 = .ok (.iconst 1, 1) := by decide +kernel
theorem dX5_drop_41 : decode cX5_drop 41 = .ok (.iaload, 1) := by decide +kernel
theorem dX5_drop_42 : decode cX5_drop 42 = .ok (.iconst 1, 1) := by decide +kernel
theorem dX5_drop_43 : decode cX5_drop 43 = .ok (.isub, 1) := by decide +kernel
theorem dX5_drop_44 : decode cX5_drop 44 = .ok (.imul, 1) := by decide +kernel
theorem dX5_drop_45 : decode cX5_drop 45 = .ok (.iadd, 1) := by decide +kernel
theorem dX5_drop_46 : decode cX5_drop 46 = .ok (.if_icmp .ge 24, 3) := by decide +kernel
theorem dX5_drop_49 : decode cX5_drop 49 = .ok (.aload_n 0, 1) := by decide +kernel
theorem dX5_drop_50 : decode cX5_drop 50 = .ok (.getfield 7, 3) := by decide +kernel
theorem dX5_drop_53 : decode cX5_drop 53 = .ok (.iload_n 2, 1) := by decide +kernel
theorem dX5_drop_54 : decode cX5_drop 54 = .ok (.aload_n 0, 1) := by decide +kernel
theorem dX5_drop_55 : decode cX5_drop 55 = .ok (.getfield 7, 3) := by decide +kernel
theorem dX5_drop_58 : decode cX5_drop 58 = .ok (.iload_n 2, 1) := by decide +kernel
theorem dX5_drop_59 : decode cX5_drop 59 = .ok (.bipush 6, 2) := by decide +kernel
theorem dX5_drop_61 : decode cX5_drop 61 = .ok (.iadd, 1) := by decide +kernel
theorem dX5_drop_62 : decode cX5_drop 62 = .ok (.iaload, 1) := by decide +kernel
theorem dX5_drop_63 : decode cX5_drop 63 = .ok (.iastore, 1) := by decide +kernel
theorem dX5_drop_64 : decode cX5_drop 64 = .ok (.iinc 2 1, 3) := by decide +kernel
theorem dX5_drop_67 : decode cX5_drop 67 = .ok (.goto (-36), 3) := by decide +kernel
theorem dX5_drop_70 : decode cX5_drop 70 = .ok (.aload_n 0, 1) := by decide +kernel
theorem dX5_drop_71 : decode cX5_drop 71 = .ok (.getfield 7, 3) := by decide +kernel
theorem dX5_drop_74 : decode cX5_drop 74 = .ok (.iconst 1, 1) := by decide +kernel
theorem dX5_drop_75 : decode cX5_drop 75 = .ok (.dup2, 1) := by decide +kernel
theorem dX5_drop_76 : decode cX5_drop 76 = .ok (.iaload, 1) := by decide +kernel
theorem dX5_drop_77 : decode cX5_drop 77 = .ok (.iconst 1, 1) := by decide +kernel
theorem dX5_drop_78 : decode cX5_drop 78 = .ok (.isub, 1) := by decide +kernel
theorem dX5_drop_79 : decode cX5_drop 79 = .ok (.iastore, 1) := by decide +kernel
theorem dX5_drop_80 : decode cX5_drop 80 = .ok (.aload_n 0, 1) := by decide +kernel
theorem dX5_drop_81 : decode cX5_drop 81 = .ok (.iload_n 1, 1) := by decide +kernel
theorem dX5_drop_82 : decode cX5_drop 82 = .ok (.invokevirtual 281, 3) := by decide +kernel
theorem dX5_drop_85 : decode cX5_drop 85 = .ok (.aload_n 0, 1) := by decide +kernel
theorem dX5_drop_86 : decode cX5_drop 86 = .ok (.getfield 7, 3) := by decide +kernel
theorem dX5_drop_89 : decode cX5_drop 89 = .ok (.iconst 1, 1) := by decide +kernel
theorem dX5_drop_90 : decode cX5_drop 90 = .ok (.iaload, 1) := by decide +kernel
theorem dX5_drop_91 : decode cX5_drop 91 = .ok (.ireturn, 1) := by decide +kernel
theorem dX5_draw_0 : decode cX5_draw 0 = .ok (.iload_n 2, 1) := by decide +kernel
theorem dX5_draw_1 : decode cX5_draw 1 = .ok (.i2l, 1) := by decide +kernel
theorem dX5_draw_2 : decode cX5_draw 2 = .ok (.lconst 1, 1) := by decide +kernel
theorem dX5_draw_3 : decode cX5_draw 3 = .ok (.ldc2_w 284, 3) := by decide +kernel
theorem dX5_draw_6 : decode cX5_draw 6 = .ok (.invokestatic 55, 3) := by decide +kernel
theorem dX5_draw_9 : decode cX5_draw 9 = .ok (.ifCond .ne 5, 3) := by decide +kernel
theorem dX5_draw_12 : decode cX5_draw 12 = .ok (.iconst (-1), 1) := by decide +kernel
theorem dX5_draw_13 : decode cX5_draw 13 = .ok (.ireturn, 1) := by decide +kernel
theorem dX5_draw_14 : decode cX5_draw 14 = .ok (.aload_n 0, 1) := by decide +kernel
theorem dX5_draw_15 : decode cX5_draw 15 = .ok (.getfield 7, 3) := by decide +kernel
theorem dX5_draw_18 : decode cX5_draw 18 = .ok (.iconst 0, 1) := by decide +kernel
theorem dX5_draw_19 : decode cX5_draw 19 = .ok (.iaload, 1) := by decide +kernel
theorem dX5_draw_20 : decode cX5_draw 20 = .ok (.ifCond .ne 6, 3) := by decide +kernel
theorem dX5_draw_23 : decode cX5_draw 23 = .ok (.bipush (-2), 2) := by decide +kernel
theorem dX5_draw_25 : decode cX5_draw 25 = .ok (.ireturn, 1) := by decide +kernel
theorem dX5_draw_26 : decode cX5_draw 26 = .ok (.iload_n 1, 1) := by decide +kernel
theorem dX5_draw_27 : decode cX5_draw 27 = .ok (.istore_n 3, 1) := by decide +kernel
theorem dX5_draw_28 : decode cX5_draw 28 = .ok (.iconst 0, 1) := by decide +kernel
theorem dX5_draw_29 : decode cX5_draw 29 = .ok (.istore 4, 2) := by decide +kernel
theorem dX5_draw_31 : decode cX5_draw 31 = .ok (.iconst 0, 1) := by decide +kernel
theorem dX5_draw_32 : decode cX5_draw 32 = .ok (.istore 5, 2) := by decide +kernel
theorem dX5_draw_34 : decode cX5_draw 34 = .ok (.iload 5, 2) := by decide +kernel
theorem dX5_draw_36 : decode cX5_draw 36 = .ok (.iload_n 2, 1) := by decide +kernel
theorem dX5_draw_37 : decode cX5_draw 37 = .ok (.if_icmp .ge 80, 3) := by decide +kernel
theorem dX5_draw_40 : decode cX5_draw 40 = .ok (.iload_n 3, 1) := by decide +kernel
theorem dX5_draw_41 : decode cX5_draw 41 = .ok (.ldc_w 286, 3) := by decide +kernel
theorem dX5_draw_44 : decode cX5_draw 44 = .ok (.imul, 1) := by decide +kernel
theorem dX5_draw_45 : decode cX5_draw 45 = .ok (.sipush 12345, 3) := by decide +kernel
theorem dX5_draw_48 : decode cX5_draw 48 = .ok (.iadd, 1) := by decide +kernel
theorem dX5_draw_49 : decode cX5_draw 49 = .ok (.istore_n 3, 1) := by decide +kernel
theorem dX5_draw_50 : decode cX5_draw 50 = .ok (.iload_n 3, 1) := by decide +kernel
theorem dX5_draw_51 : decode cX5_draw 51 = .ok (.bipush 16, 2) := by decide +kernel
theorem dX5_draw_53 : decode cX5_draw 53 = .ok (.ishr, 1) := by decide +kernel
theorem dX5_draw_54 : decode cX5_draw 54 = .ok (.sipush 32767, 3) := by decide +kernel
theorem dX5_draw_57 : decode cX5_draw 57 = .ok (.iand, 1) := by decide +kernel
theorem dX5_draw_58 : decode cX5_draw 58 = .ok (.istore 6, 2) := by decide +kernel
theorem dX5_draw_60 : decode cX5_draw 60 = .ok (.iload 4, 2) := by decide +kernel
theorem dX5_draw_62 : decode cX5_draw 62 = .ok (.aload_n 0, 1) := by decide +kernel
theorem dX5_draw_63 : decode cX5_draw 63 = .ok (.iload 6, 2) := by decide +kernel
theorem dX5_draw_65 : decode cX5_draw 65 = .ok (.aload_n 0, 1) := by decide +kernel
theorem dX5_draw_66 : decode cX5_draw 66 = .ok (.getfield 7, 3) := by decide +kernel
theorem dX5_draw_69 : decode cX5_draw 69 = .ok (.iconst 0, 1) := by decide +kernel
theorem dX5_draw_70 : decode cX5_draw 70 = .ok (.iaload, 1) := by decide +kernel
theorem dX5_draw_71 : decode cX5_draw 71 = .ok (.irem, 1) := by decide +kernel
theorem dX5_draw_72 : decode cX5_draw 72 = .ok (.iload 6, 2) := by decide +kernel
theorem dX5_draw_74 : decode cX5_draw 74 = .ok (.bipush 8, 2) := by decide +kernel
theorem dX5_draw_76 : decode cX5_draw 76 = .ok (.idiv, 1) := by decide +kernel
theorem dX5_draw_77 : decode cX5_draw 77 = .ok (.aload_n 0, 1) := by decide +kernel
theorem dX5_draw_78 : decode cX5_draw 78 = .ok (.getfield 7, 3) := by decide +kernel
theorem dX5_draw_81 : decode cX5_draw 81 = .ok (.iconst 0, 1) := by decide +kernel
theorem dX5_draw_82 : decode cX5_draw 82 = .ok (.iaload, 1) := by decide +kernel
theorem dX5_draw_83 : decode cX5_draw 83 = .ok (.irem, 1) := by decide +kernel
theorem dX5_draw_84 : decode cX5_draw 84 = .ok (.iload 6, 2) := by decide +kernel
theorem dX5_draw_86 : decode cX5_draw 86 = .ok (.bipush 64, 2) := by decide +kernel
theorem dX5_draw_88 : decode cX5_draw 88 = .ok (.idiv, 1) := by decide +kernel
theorem dX5_draw_89 : decode cX5_draw 89 = .ok (.bipush 6, 2) := by decide +kernel
theorem dX5_draw_91 : decode cX5_draw 91 = .ok (.irem, 1) := by decide +kernel
theorem dX5_draw_92 : decode cX5_draw 92 = .ok (.iconst 1, 1) := by decide +kernel
theorem dX5_draw_93 : decode cX5_draw 93 = .ok (.iadd, 1) := by decide +kernel
theorem dX5_draw_94 : decode cX5_draw 94 = .ok (.invokevirtual 287, 3) := by decide +kernel
theorem dX5_draw_97 : decode cX5_draw 97 = .ok (.ifCond .le 7, 3) := by decide +kernel
theorem dX5_draw_100 : decode cX5_draw 100 = .ok (.iconst 1, 1) := by decide +kernel
theorem dX5_draw_101 : decode cX5_draw 101 = .ok (.goto 4, 3) := by decide +kernel
theorem dX5_draw_104 : decode cX5_draw 104 = .ok (.iconst 0, 1) := by decide +kernel
theorem dX5_draw_105 : decode cX5_draw 105 = .ok (.invokestatic 167, 3) := by decide +kernel
theorem dX5_draw_108 : decode cX5_draw 108 = .ok (.iadd, 1) := by decide +kernel
theorem dX5_draw_109 : decode cX5_draw 109 = .ok (.istore 4, 2) := by decide +kernel
theorem dX5_draw_111 : decode cX5_draw 111 = .ok (.iinc 5 1, 3) := by decide +kernel
theorem dX5_draw_114 : decode cX5_draw 114 = .ok (.goto (-80), 3) := by decide +kernel
theorem dX5_draw_117 : decode cX5_draw 117 = .ok (.iload 4, 2) := by decide +kernel
theorem dX5_draw_119 : decode cX5_draw 119 = .ok (.ireturn, 1) := by decide +kernel
theorem dX5_keep_0 : decode cX5_keep 0 = .ok (.iload_n 1, 1) := by decide +kernel
theorem dX5_keep_1 : decode cX5_keep 1 = .ok (.i2l, 1) := by decide +kernel
theorem dX5_keep_2 : decode cX5_keep 2 = .ok (.lconst 0, 1) := by decide +kernel
theorem dX5_keep_3 : decode cX5_keep 3 = .ok (.lconst 1, 1) := by decide +kernel
theorem dX5_keep_4 : decode cX5_keep 4 = .ok (.invokestatic 55, 3) := by decide +kernel
theorem dX5_keep_7 : decode cX5_keep 7 = .ok (.ifCond .ne 5, 3) := by decide +kernel
theorem dX5_keep_10 : decode cX5_keep 10 = .ok (.iconst (-1), 1) := by decide +kernel
theorem dX5_keep_11 : decode cX5_keep 11 = .ok (.ireturn, 1) := by decide +kernel
theorem dX5_keep_12 : decode cX5_keep 12 = .ok (.aload_n 0, 1) := by decide +kernel
theorem dX5_keep_13 : decode cX5_keep 13 = .ok (.getfield 22, 3) := by decide +kernel
theorem dX5_keep_16 : decode cX5_keep 16 = .ok (.iload_n 1, 1) := by decide +kernel
theorem dX5_keep_17 : decode cX5_keep 17 = .ok (.baload, 1) := by decide +kernel
theorem dX5_keep_18 : decode cX5_keep 18 = .ok (.invokestatic 167, 3) := by decide +kernel
theorem dX5_keep_21 : decode cX5_keep 21 = .ok (.istore_n 2, 1) := by decide +kernel
theorem dX5_keep_22 : decode cX5_keep 22 = .ok (.aload_n 0, 1) := by decide +kernel
theorem dX5_keep_23 : decode cX5_keep 23 = .ok (.getfield 22, 3) := by decide +kernel
theorem dX5_keep_26 : decode cX5_keep 26 = .ok (.iload_n 1, 1) := by decide +kernel
theorem dX5_keep_27 : decode cX5_keep 27 = .ok (.iconst 1, 1) := by decide +kernel
theorem dX5_keep_28 : decode cX5_keep 28 = .ok (.bastore, 1) := by decide +kernel
theorem dX5_keep_29 : decode cX5_keep 29 = .ok (.iconst 0, 1) := by decide +kernel
theorem dX5_keep_30 : decode cX5_keep 30 = .ok (.istore_n 3, 1) := by decide +kernel
theorem dX5_keep_31 : decode cX5_keep 31 = .ok (.iload_n 3, 1) := by decide +kernel
theorem dX5_keep_32 : decode cX5_keep 32 = .ok (.sipush 238, 3) := by decide +kernel
theorem dX5_keep_35 : decode cX5_keep 35 = .ok (.if_icmp .ge 27, 3) := by decide +kernel
theorem dX5_keep_38 : decode cX5_keep 38 = .ok (.aload_n 0, 1) := by decide +kernel
theorem dX5_keep_39 : decode cX5_keep 39 = .ok (.getfield 19, 3) := by decide +kernel
theorem dX5_keep_42 : decode cX5_keep 42 = .ok (.sipush 238, 3) := by decide +kernel
theorem dX5_keep_45 : decode cX5_keep 45 = .ok (.iload_n 1, 1) := by decide +kernel
theorem dX5_keep_46 : decode cX5_keep 46 = .ok (.imul, 1) := by decide +kernel
theorem dX5_keep_47 : decode cX5_keep 47 = .ok (.iload_n 3, 1) := by decide +kernel
theorem dX5_keep_48 : decode cX5_keep 48 = .ok (.iadd, 1) := by decide +kernel
theorem dX5_keep_49 : decode cX5_keep 49 = .ok (.aload_n 0, 1) := by decide +kernel
theorem dX5_keep_50 : decode cX5_keep 50 = .ok (.getfield 7, 3) := by decide +kernel
theorem dX5_keep_53 : decode cX5_keep 53 = .ok (.iload_n 3, 1) := by decide +kernel
theorem dX5_keep_54 : decode cX5_keep 54 = .ok (.iaload, 1) := by decide +kernel
theorem dX5_keep_55 : decode cX5_keep 55 = .ok (.iastore, 1) := by decide +kernel
theorem dX5_keep_56 : decode cX5_keep 56 = .ok (.iinc 3 1, 3) := by decide +kernel
theorem dX5_keep_59 : decode cX5_keep 59 = .ok (.goto (-28), 3) := by decide +kernel
theorem dX5_keep_62 : decode cX5_keep 62 = .ok (.iload_n 2, 1) := by decide +kernel
theorem dX5_keep_63 : decode cX5_keep 63 = .ok (.ireturn, 1) := by decide +kernel
theorem dX5_back_0 : decode cX5_back 0 = .ok (.iload_n 1, 1) := by decide +kernel
theorem dX5_back_1 : decode cX5_back 1 = .ok (.i2l, 1) := by decide +kernel
theorem dX5_back_2 : decode cX5_back 2 = .ok (.lconst 0, 1) := by decide +kernel
theorem dX5_back_3 : decode cX5_back 3 = .ok (.lconst 1, 1) := by decide +kernel
theorem dX5_back_4 : decode cX5_back 4 = .ok (.invokestatic 55, 3) := by decide +kernel
theorem dX5_back_7 : decode cX5_back 7 = .ok (.ifCond .ne 5, 3) := by decide +kernel
theorem dX5_back_10 : decode cX5_back 10 = .ok (.iconst (-1), 1) := by decide +kernel
theorem dX5_back_11 : decode cX5_back 11 = .ok (.ireturn, 1) := by decide +kernel
theorem dX5_back_12 : decode cX5_back 12 = .ok (.aload_n 0, 1) := by decide +kernel
theorem dX5_back_13 : decode cX5_back 13 = .ok (.getfield 22, 3) := by decide +kernel
theorem dX5_back_16 : decode cX5_back 16 = .ok (.iload_n 1, 1) := by decide +kernel
theorem dX5_back_17 : decode cX5_back 17 = .ok (.baload, 1) := by decide +kernel
theorem dX5_back_18 : decode cX5_back 18 = .ok (.ifCond .ne 6, 3) := by decide +kernel
theorem dX5_back_21 : decode cX5_back 21 = .ok (.bipush (-2), 2) := by decide +kernel
theorem dX5_back_23 : decode cX5_back 23 = .ok (.ireturn, 1) := by decide +kernel
theorem dX5_back_24 : decode cX5_back 24 = .ok (.iconst 0, 1) := by decide +kernel
theorem dX5_back_25 : decode cX5_back 25 = .ok (.istore_n 2, 1) := by decide +kernel
theorem dX5_back_26 : decode cX5_back 26 = .ok (.iload_n 2, 1) := by decide +kernel
theorem dX5_back_27 : decode cX5_back 27 = .ok (.sipush 238, 3) := by decide +kernel
theorem dX5_back_30 : decode cX5_back 30 = .ok (.if_icmp .ge 27, 3) := by decide +kernel
theorem dX5_back_33 : decode cX5_back 33 = .ok (.aload_n 0, 1) := by decide +kernel
theorem dX5_back_34 : decode cX5_back 34 = .ok (.getfield 7, 3) := by decide +kernel
theorem dX5_back_37 : decode cX5_back 37 = .ok (.iload_n 2, 1) := by decide +kernel
theorem dX5_back_38 : decode cX5_back 38 = .ok (.aload_n 0, 1) := by decide +kernel
theorem dX5_back_39 : decode cX5_back 39 = .ok (.getfield 19, 3) := by decide +kernel
theorem dX5_back_42 : decode cX5_back 42 = .ok (.sipush 238, 3) := by decide +kernel
theorem dX5_back_45 : decode cX5_back 45 = .ok (.iload_n 1, 1) := by decide +kernel
theorem dX5_back_46 : decode cX5_back 46 = .ok (.imul, 1) := by decide +kernel
theorem dX5_back_47 : decode cX5_back 47 = .ok (.iload_n 2, 1) := by decide +kernel
theorem dX5_back_48 : decode cX5_back 48 = .ok (.iadd, 1) := by decide +kernel
theorem dX5_back_49 : decode cX5_back 49 = .ok (.iaload, 1) := by decide +kernel
theorem dX5_back_50 : decode cX5_back 50 = .ok (.iastore, 1) := by decide +kernel
theorem dX5_back_51 : decode cX5_back 51 = .ok (.iinc 2 1, 3) := by decide +kernel
theorem dX5_back_54 : decode cX5_back 54 = .ok (.goto (-28), 3) := by decide +kernel
theorem dX5_back_57 : decode cX5_back 57 = .ok (.aload_n 0, 1) := by decide +kernel
theorem dX5_back_58 : decode cX5_back 58 = .ok (.getfield 7, 3) := by decide +kernel
theorem dX5_back_61 : decode cX5_back 61 = .ok (.iconst 1, 1) := by decide +kernel
theorem dX5_back_62 : decode cX5_back 62 = .ok (.iaload, 1) := by decide +kernel
theorem dX5_back_63 : decode cX5_back 63 = .ok (.ireturn, 1) := by decide +kernel
theorem dX5_isSheet_0 : decode cX5_isSheet 0 = .ok (.iload_n 0, 1) := by decide +kernel
theorem dX5_isSheet_1 : decode cX5_isSheet 1 = .ok (.i2l, 1) := by decide +kernel
theorem dX5_isSheet_2 : decode cX5_isSheet 2 = .ok (.lconst 0, 1) := by decide +kernel
theorem dX5_isSheet_3 : decode cX5_isSheet 3 = .ok (.ldc2_w 290, 3) := by decide +kernel
theorem dX5_isSheet_6 : decode cX5_isSheet 6 = .ok (.invokestatic 55, 3) := by decide +kernel
theorem dX5_isSheet_9 : decode cX5_isSheet 9 = .ok (.ifCond .eq 19, 3) := by decide +kernel
theorem dX5_isSheet_12 : decode cX5_isSheet 12 = .ok (.iload_n 1, 1) := by decide +kernel
theorem dX5_isSheet_13 : decode cX5_isSheet 13 = .ok (.i2l, 1) := by decide +kernel
theorem dX5_isSheet_14 : decode cX5_isSheet 14 = .ok (.lconst 0, 1) := by decide +kernel
theorem dX5_isSheet_15 : decode cX5_isSheet 15 = .ok (.ldc2_w 269, 3) := by decide +kernel
theorem dX5_isSheet_18 : decode cX5_isSheet 18 = .ok (.invokestatic 55, 3) := by decide +kernel
theorem dX5_isSheet_21 : decode cX5_isSheet 21 = .ok (.ifCond .eq 7, 3) := by decide +kernel
theorem dX5_isSheet_24 : decode cX5_isSheet 24 = .ok (.iconst 1, 1) := by decide +kernel
theorem dX5_isSheet_25 : decode cX5_isSheet 25 = .ok (.goto 4, 3) := by decide +kernel
theorem dX5_isSheet_28 : decode cX5_isSheet 28 = .ok (.iconst 0, 1) := by decide +kernel
theorem dX5_isSheet_29 : decode cX5_isSheet 29 = .ok (.ireturn, 1) := by decide +kernel
theorem dX5_sheet_0 : decode cX5_sheet 0 = .ok (.iload_n 1, 1) := by decide +kernel
theorem dX5_sheet_1 : decode cX5_sheet 1 = .ok (.iload_n 2, 1) := by decide +kernel
theorem dX5_sheet_2 : decode cX5_sheet 2 = .ok (.invokestatic 292, 3) := by decide +kernel
theorem dX5_sheet_5 : decode cX5_sheet 5 = .ok (.ifCond .eq 9, 3) := by decide +kernel
theorem dX5_sheet_8 : decode cX5_sheet 8 = .ok (.iload_n 3, 1) := by decide +kernel
theorem dX5_sheet_9 : decode cX5_sheet 9 = .ok (.bipush 40, 2) := by decide +kernel
theorem dX5_sheet_11 : decode cX5_sheet 11 = .ok (.if_icmp .le 5, 3) := by decide +kernel
theorem dX5_sheet_14 : decode cX5_sheet 14 = .ok (.iconst (-1), 1) := by decide +kernel
theorem dX5_sheet_15 : decode cX5_sheet 15 = .ok (.ireturn, 1) := by decide +kernel
theorem dX5_sheet_16 : decode cX5_sheet 16 = .ok (.iload_n 3, 1) := by decide +kernel
theorem dX5_sheet_17 : decode cX5_sheet 17 = .ok (.ifCond .ge 6, 3) := by decide +kernel
theorem dX5_sheet_20 : decode cX5_sheet 20 = .ok (.bipush (-14), 2) := by decide +kernel
theorem dX5_sheet_22 : decode cX5_sheet 22 = .ok (.ireturn, 1) := by decide +kernel
theorem dX5_sheet_23 : decode cX5_sheet 23 = .ok (.aload_n 0, 1) := by decide +kernel
theorem dX5_sheet_24 : decode cX5_sheet 24 = .ok (.getfield 44, 3) := by decide +kernel
theorem dX5_sheet_27 : decode cX5_sheet 27 = .ok (.iload_n 1, 1) := by decide +kernel
theorem dX5_sheet_28 : decode cX5_sheet 28 = .ok (.iload_n 2, 1) := by decide +kernel
theorem dX5_sheet_29 : decode cX5_sheet 29 = .ok (.iastore, 1) := by decide +kernel
theorem dX5_sheet_30 : decode cX5_sheet 30 = .ok (.aload_n 0, 1) := by decide +kernel
theorem dX5_sheet_31 : decode cX5_sheet 31 = .ok (.getfield 47, 3) := by decide +kernel
theorem dX5_sheet_34 : decode cX5_sheet 34 = .ok (.iload_n 1, 1) := by decide +kernel
theorem dX5_sheet_35 : decode cX5_sheet 35 = .ok (.iload_n 3, 1) := by decide +kernel
theorem dX5_sheet_36 : decode cX5_sheet 36 = .ok (.iastore, 1) := by decide +kernel
theorem dX5_sheet_37 : decode cX5_sheet 37 = .ok (.iconst 0, 1) := by decide +kernel
theorem dX5_sheet_38 : decode cX5_sheet 38 = .ok (.istore 4, 2) := by decide +kernel
theorem dX5_sheet_40 : decode cX5_sheet 40 = .ok (.iload 4, 2) := by decide +kernel
theorem dX5_sheet_42 : decode cX5_sheet 42 = .ok (.bipush 40, 2) := by decide +kernel
theorem dX5_sheet_44 : decode cX5_sheet 44 = .ok (.if_icmp .ge 22, 3) := by decide +kernel
theorem dX5_sheet_47 : decode cX5_sheet 47 = .ok (.aload_n 0, 1) := by decide +kernel
theorem dX5_sheet_48 : decode cX5_sheet 48 = .ok (.getfield 50, 3) := by decide +kernel
theorem dX5_sheet_51 : decode cX5_sheet 51 = .ok (.bipush 40, 2) := by decide +kernel
theorem dX5_sheet_53 : decode cX5_sheet 53 = .ok (.iload_n 1, 1) := by decide +kernel
theorem dX5_sheet_54 : decode cX5_sheet 54 = .ok (.imul, 1) := by decide +kernel
theorem dX5_sheet_55 : decode cX5_sheet 55 = .ok (.iload 4, 2) := by decide +kernel
theorem dX5_sheet_57 : decode cX5_sheet 57 = .ok (.iadd, 1) := by decide +kernel
theorem dX5_sheet_58 : decode cX5_sheet 58 = .ok (.iconst 0, 1) := by decide +kernel
theorem dX5_sheet_59 : decode cX5_sheet 59 = .ok (.iastore, 1) := by decide +kernel
theorem dX5_sheet_60 : decode cX5_sheet 60 = .ok (.iinc 4 1, 3) := by decide +kernel
theorem dX5_sheet_63 : decode cX5_sheet 63 = .ok (.goto (-23), 3) := by decide +kernel
theorem dX5_sheet_66 : decode cX5_sheet 66 = .ok (.iconst 1, 1) := by decide +kernel
theorem dX5_sheet_67 : decode cX5_sheet 67 = .ok (.ireturn, 1) := by decide +kernel
theorem dX5_lay_0 : decode cX5_lay 0 = .ok (.iload_n 1, 1) := by decide +kernel
theorem dX5_lay_1 : decode cX5_lay 1 = .ok (.iconst 0, 1) := by decide +kernel
theorem dX5_lay_2 : decode cX5_lay 2 = .ok (.invokestatic 292, 3) := by decide +kernel
theorem dX5_lay_5 : decode cX5_lay 5 = .ok (.ifCond .ne 5, 3) := by decide +kernel
theorem dX5_lay_8 : decode cX5_lay 8 = .ok (.iconst (-1), 1) := by decide +kernel
theorem dX5_lay_9 : decode cX5_lay 9 = .ok (.ireturn, 1) := by decide +kernel
theorem dX5_lay_10 : decode cX5_lay 10 = .ok (.aload_n 0, 1) := by decide +kernel
theorem dX5_lay_11 : decode cX5_lay 11 = .ok (.getfield 44, 3) := by decide +kernel
theorem dX5_lay_14 : decode cX5_lay 14 = .ok (.iload_n 1, 1) := by decide +kernel
theorem dX5_lay_15 : decode cX5_lay 15 = .ok (.iaload, 1) := by decide +kernel
theorem dX5_lay_16 : decode cX5_lay 16 = .ok (.bipush (-4), 2) := by decide +kernel
theorem dX5_lay_18 : decode cX5_lay 18 = .ok (.if_icmp .ne 6, 3) := by decide +kernel
theorem dX5_lay_21 : decode cX5_lay 21 = .ok (.bipush (-11), 2) := by decide +kernel
theorem dX5_lay_23 : decode cX5_lay 23 = .ok (.ireturn, 1) := by decide +kernel
theorem dX5_lay_24 : decode cX5_lay 24 = .ok (.iload_n 2, 1) := by decide +kernel
theorem dX5_lay_25 : decode cX5_lay 25 = .ok (.i2l, 1) := by decide +kernel
theorem dX5_lay_26 : decode cX5_lay 26 = .ok (.lconst 0, 1) := by decide +kernel
theorem dX5_lay_27 : decode cX5_lay 27 = .ok (.aload_n 0, 1) := by decide +kernel
theorem dX5_lay_28 : decode cX5_lay 28 = .ok (.getfield 47, 3) := by decide +kernel
theorem dX5_lay_31 : decode cX5_lay 31 = .ok (.iload_n 1, 1) := by decide +kernel
theorem dX5_lay_32 : decode cX5_lay 32 = .ok (.iaload, 1) := by decide +kernel
theorem dX5_lay_33 : decode cX5_lay 33 = .ok (.iconst 1, 1) := by decide +kernel
theorem dX5_lay_34 : decode cX5_lay 34 = .ok (.isub, 1) := by decide +kernel
theorem dX5_lay_35 : decode cX5_lay 35 = .ok (.i2l, 1) := by decide +kernel
theorem dX5_lay_36 : decode cX5_lay 36 = .ok (.invokestatic 55, 3) := by decide +kernel
theorem dX5_lay_39 : decode cX5_lay 39 = .ok (.ifCond .ne 6, 3) := by decide +kernel
theorem dX5_lay_42 : decode cX5_lay 42 = .ok (.bipush (-12), 2) := by decide +kernel
theorem dX5_lay_44 : decode cX5_lay 44 = .ok (.ireturn, 1) := by decide +kernel
theorem dX5_lay_45 : decode cX5_lay 45 = .ok (.aload_n 0, 1) := by decide +kernel
theorem dX5_lay_46 : decode cX5_lay 46 = .ok (.getfield 50, 3) := by decide +kernel
theorem dX5_lay_49 : decode cX5_lay 49 = .ok (.bipush 40, 2) := by decide +kernel
theorem dX5_lay_51 : decode cX5_lay 51 = .ok (.iload_n 1, 1) := by decide +kernel
theorem dX5_lay_52 : decode cX5_lay 52 = .ok (.imul, 1) := by decide +kernel
theorem dX5_lay_53 : decode cX5_lay 53 = .ok (.iload_n 2, 1) := by decide +kernel
theorem dX5_lay_54 : decode cX5_lay 54 = .ok (.iadd, 1) := by decide +kernel
theorem dX5_lay_55 : decode cX5_lay 55 = .ok (.aload_n 0, 1) := by decide +kernel
theorem dX5_lay_56 : decode cX5_lay 56 = .ok (.getfield 44, 3) := by decide +kernel
theorem dX5_lay_59 : decode cX5_lay 59 = .ok (.iload_n 1, 1) := by decide +kernel
theorem dX5_lay_60 : decode cX5_lay 60 = .ok (.iaload, 1) := by decide +kernel
theorem dX5_lay_61 : decode cX5_lay 61 = .ok (.ifCond .ne 8, 3) := by decide +kernel
theorem dX5_lay_64 : decode cX5_lay 64 = .ok (.iload_n 3, 1) := by decide +kernel
theorem dX5_lay_65 : decode cX5_lay 65 = .ok (.i2b, 1) := by decide +kernel
theorem dX5_lay_66 : decode cX5_lay 66 = .ok (.goto 19, 3) := by decide +kernel
theorem dX5_lay_69 : decode cX5_lay 69 = .ok (.aload_n 0, 1) := by decide +kernel
theorem dX5_lay_70 : decode cX5_lay 70 = .ok (.getfield 44, 3) := by decide +kernel
theorem dX5_lay_73 : decode cX5_lay 73 = .ok (.iload_n 1, 1) := by decide +kernel
theorem dX5_lay_74 : decode cX5_lay 74 = .ok (.iaload, 1) := by decide +kernel
theorem dX5_lay_75 : decode cX5_lay 75 = .ok (.iconst 1, 1) := by decide +kernel
theorem dX5_lay_76 : decode cX5_lay 76 = .ok (.if_icmp .ne 8, 3) := by decide +kernel
theorem dX5_lay_79 : decode cX5_lay 79 = .ok (.iload_n 3, 1) := by decide +kernel
theorem dX5_lay_80 : decode cX5_lay 80 = .ok (.i2s, 1) := by decide +kernel
theorem dX5_lay_81 : decode cX5_lay 81 = .ok (.goto 4, 3) := by decide +kernel
theorem dX5_lay_84 : decode cX5_lay 84 = .ok (.iload_n 3, 1) := by decide +kernel
theorem dX5_lay_85 : decode cX5_lay 85 = .ok (.iastore, 1) := by decide +kernel
theorem dX5_lay_86 : decode cX5_lay 86 = .ok (.iconst 1, 1) := by decide +kernel
theorem dX5_lay_87 : decode cX5_lay 87 = .ok (.ireturn, 1) := by decide +kernel
theorem dX5_read_0 : decode cX5_read 0 = .ok (.iload_n 1, 1) := by decide +kernel
theorem dX5_read_1 : decode cX5_read 1 = .ok (.iload_n 2, 1) := by decide +kernel
theorem dX5_read_2 : decode cX5_read 2 = .ok (.invokestatic 292, 3) := by decide +kernel
theorem dX5_read_5 : decode cX5_read 5 = .ok (.ifCond .eq 16, 3) := by decide +kernel
theorem dX5_read_8 : decode cX5_read 8 = .ok (.iload 4, 2) := by decide +kernel
theorem dX5_read_10 : decode cX5_read 10 = .ok (.i2l, 1) := by decide +kernel
theorem dX5_read_11 : decode cX5_read 11 = .ok (.lconst 0, 1) := by decide +kernel
theorem dX5_read_12 : decode cX5_read 12 = .ok (.ldc2_w 296, 3) := by decide +kernel
theorem dX5_read_15 : decode cX5_read 15 = .ok (.invokestatic 55, 3) := by decide +kernel
theorem dX5_read_18 : decode cX5_read 18 = .ok (.ifCond .ne 5, 3) := by decide +kernel
theorem dX5_read_21 : decode cX5_read 21 = .ok (.iconst (-1), 1) := by decide +kernel
theorem dX5_read_22 : decode cX5_read 22 = .ok (.ireturn, 1) := by decide +kernel
theorem dX5_read_23 : decode cX5_read 23 = .ok (.aload_n 0, 1) := by decide +kernel
theorem dX5_read_24 : decode cX5_read 24 = .ok (.invokevirtual 142, 3) := by decide +kernel
theorem dX5_read_27 : decode cX5_read 27 = .ok (.iconst 0, 1) := by decide +kernel
theorem dX5_read_28 : decode cX5_read 28 = .ok (.istore 5, 2) := by decide +kernel
theorem dX5_read_30 : decode cX5_read 30 = .ok (.iconst 0, 1) := by decide +kernel
theorem dX5_read_31 : decode cX5_read 31 = .ok (.istore 6, 2) := by decide +kernel
theorem dX5_read_33 : decode cX5_read 33 = .ok (.iconst 0, 1) := by decide +kernel
theorem dX5_read_34 : decode cX5_read 34 = .ok (.istore 7, 2) := by decide +kernel
theorem dX5_read_36 : decode cX5_read 36 = .ok (.iload 7, 2) := by decide +kernel
theorem dX5_read_38 : decode cX5_read 38 = .ok (.iload 4, 2) := by decide +kernel
theorem dX5_read_40 : decode cX5_read 40 = .ok (.if_icmp .ge 167, 3) := by decide +kernel
theorem dX5_read_43 : decode cX5_read 43 = .ok (.iload 5, 2) := by decide +kernel
theorem dX5_read_45 : decode cX5_read 45 = .ok (.ifCond .ne 162, 3) := by decide +kernel
theorem dX5_read_48 : decode cX5_read 48 = .ok (.iconst 0, 1) := by decide +kernel
theorem dX5_read_49 : decode cX5_read 49 = .ok (.istore 8, 2) := by decide +kernel
theorem dX5_read_51 : decode cX5_read 51 = .ok (.iload 8, 2) := by decide +kernel
theorem dX5_read_53 : decode cX5_read 53 = .ok (.iconst 3, 1) := by decide +kernel
theorem dX5_read_54 : decode cX5_read 54 = .ok (.if_icmp .ge 84, 3) := by decide +kernel
theorem dX5_read_57 : decode cX5_read 57 = .ok (.iload 5, 2) := by decide +kernel
theorem dX5_read_59 : decode cX5_read 59 = .ok (.ifCond .ne 79, 3) := by decide +kernel
theorem dX5_read_62 : decode cX5_read 62 = .ok (.iload_n 3, 1) := by decide +kernel
theorem dX5_read_63 : decode cX5_read 63 = .ok (.i2l, 1) := by decide +kernel
theorem dX5_read_64 : decode cX5_read 64 = .ok (.iconst 3, 1) := by decide +kernel
theorem dX5_read_65 : decode cX5_read 65 = .ok (.iload 7, 2) := by decide +kernel
theorem dX5_read_67 : decode cX5_read 67 = .ok (.imul, 1) := by decide +kernel
theorem dX5_read_68 : decode cX5_read 68 = .ok (.i2l, 1) := by decide +kernel
theorem dX5_read_69 : decode cX5_read 69 = .ok (.ladd, 1) := by decide +kernel
theorem dX5_read_70 : decode cX5_read 70 = .ok (.iload 8, 2) := by decide +kernel
theorem dX5_read_72 : decode cX5_read 72 = .ok (.i2l, 1) := by decide +kernel
theorem dX5_read_73 : decode cX5_read 73 = .ok (.ladd, 1) := by decide +kernel
theorem dX5_read_74 : decode cX5_read 74 = .ok (.lstore 9, 2) := by decide +kernel
theorem dX5_read_76 : decode cX5_read 76 = .ok (.aload_n 0, 1) := by decide +kernel
theorem dX5_read_77 : decode cX5_read 77 = .ok (.getfield 44, 3) := by decide +kernel
theorem dX5_read_80 : decode cX5_read 80 = .ok (.iload_n 1, 1) := by decide +kernel
theorem dX5_read_81 : decode cX5_read 81 = .ok (.iaload, 1) := by decide +kernel
theorem dX5_read_82 : decode cX5_read 82 = .ok (.bipush (-4), 2) := by decide +kernel
theorem dX5_read_84 : decode cX5_read 84 = .ok (.if_icmp .ne 7, 3) := by decide +kernel
theorem dX5_read_87 : decode cX5_read 87 = .ok (.iconst 1, 1) := by decide +kernel
theorem dX5_read_88 : decode cX5_read 88 = .ok (.goto 42, 3) := by decide +kernel
theorem dX5_read_91 : decode cX5_read 91 = .ok (.aload_n 0, 1) := by decide +kernel
theorem dX5_read_92 : decode cX5_read 92 = .ok (.getfield 44, 3) := by decide +kernel
theorem dX5_read_95 : decode cX5_read 95 = .ok (.iload_n 1, 1) := by decide +kernel
theorem dX5_read_96 : decode cX5_read 96 = .ok (.iaload, 1) := by decide +kernel
theorem dX5_read_97 : decode cX5_read 97 = .ok (.iload_n 2, 1) := by decide +kernel
theorem dX5_read_98 : decode cX5_read 98 = .ok (.if_icmp .eq 7, 3) := by decide +kernel
theorem dX5_read_101 : decode cX5_read 101 = .ok (.iconst 3, 1) := by decide +kernel
theorem dX5_read_102 : decode cX5_read 102 = .ok (.goto 28, 3) := by decide +kernel
theorem dX5_read_105 : decode cX5_read 105 = .ok (.lload 9, 2) := by decide +kernel
theorem dX5_read_107 : decode cX5_read 107 = .ok (.lconst 0, 1) := by decide +kernel
theorem dX5_read_108 : decode cX5_read 108 = .ok (.lcmp, 1) := by decide +kernel
theorem dX5_read_109 : decode cX5_read 109 = .ok (.ifCond .lt 16, 3) := by decide +kernel
theorem dX5_read_112 : decode cX5_read 112 = .ok (.lload 9, 2) := by decide +kernel
theorem dX5_read_114 : decode cX5_read 114 = .ok (.aload_n 0, 1) := by decide +kernel
theorem dX5_read_115 : decode cX5_read 115 = .ok (.getfield 47, 3) := by decide +kernel
theorem dX5_read_118 : decode cX5_read 118 = .ok (.iload_n 1, 1) := by decide +kernel
theorem dX5_read_119 : decode cX5_read 119 = .ok (.iaload, 1) := by decide +kernel
theorem dX5_read_120 : decode cX5_read 120 = .ok (.i2l, 1) := by decide +kernel
theorem dX5_read_121 : decode cX5_read 121 = .ok (.lcmp, 1) := by decide +kernel
theorem dX5_read_122 : decode cX5_read 122 = .ok (.ifCond .lt 7, 3) := by decide +kernel
theorem dX5_read_125 : decode cX5_read 125 = .ok (.iconst 2, 1) := by decide +kernel
theorem dX5_read_126 : decode cX5_read 126 = .ok (.goto 4, 3) := by decide +kernel
theorem dX5_read_129 : decode cX5_read 129 = .ok (.iconst 0, 1) := by decide +kernel
theorem dX5_read_130 : decode cX5_read 130 = .ok (.istore 5, 2) := by decide +kernel
theorem dX5_read_132 : decode cX5_read 132 = .ok (.iinc 8 1, 3) := by decide +kernel
theorem dX5_read_135 : decode cX5_read 135 = .ok (.goto (-84), 3) := by decide +kernel
theorem dX5_read_138 : decode cX5_read 138 = .ok (.iload 5, 2) := by decide +kernel
theorem dX5_read_140 : decode cX5_read 140 = .ok (.ifCond .ne 61, 3) := by decide +kernel
theorem dX5_read_143 : decode cX5_read 143 = .ok (.bipush 40, 2) := by decide +kernel
theorem dX5_read_145 : decode cX5_read 145 = .ok (.iload_n 1, 1) := by decide +kernel
theorem dX5_read_146 : decode cX5_read 146 = .ok (.imul, 1) := by decide +kernel
theorem dX5_read_147 : decode cX5_read 147 = .ok (.iload_n 3, 1) := by decide +kernel
theorem dX5_read_148 : decode cX5_read 148 = .ok (.iadd, 1) := by decide +kernel
theorem dX5_read_149 : decode cX5_read 149 = .ok (.iconst 3, 1) := by decide +kernel
theorem dX5_read_150 : decode cX5_read 150 = .ok (.iload 7, 2) := by decide +kernel
theorem dX5_read_152 : decode cX5_read 152 = .ok (.imul, 1) := by decide +kernel
theorem dX5_read_153 : decode cX5_read 153 = .ok (.iadd, 1) := by decide +kernel
theorem dX5_read_154 : decode cX5_read 154 = .ok (.istore 8, 2) := by decide +kernel
theorem dX5_read_156 : decode cX5_read 156 = .ok (.aload_n 0, 1) := by decide +kernel
theorem dX5_read_157 : decode cX5_read 157 = .ok (.aload_n 0, 1) := by decide +kernel
theorem dX5_read_158 : decode cX5_read 158 = .ok (.getfield 50, 3) := by decide +kernel
theorem dX5_read_161 : decode cX5_read 161 = .ok (.iload 8, 2) := by decide +kernel
theorem dX5_read_163 : decode cX5_read 163 = .ok (.iaload, 1) := by decide +kernel
theorem dX5_read_164 : decode cX5_read 164 = .ok (.aload_n 0, 1) := by decide +kernel
theorem dX5_read_165 : decode cX5_read 165 = .ok (.getfield 50, 3) := by decide +kernel
theorem dX5_read_168 : decode cX5_read 168 = .ok (.iload 8, 2) := by decide +kernel
theorem dX5_read_170 : decode cX5_read 170 = .ok (.iconst 1, 1) := by decide +kernel
theorem dX5_read_171 : decode cX5_read 171 = .ok (.iadd, 1) := by decide +kernel
theorem dX5_read_172 : decode cX5_read 172 = .ok (.iaload, 1) := by decide +kernel
theorem dX5_read_173 : decode cX5_read 173 = .ok (.aload_n 0, 1) := by decide +kernel
theorem dX5_read_174 : decode cX5_read 174 = .ok (.getfield 50, 3) := by decide +kernel
theorem dX5_read_177 : decode cX5_read 177 = .ok (.iload 8, 2) := by decide +kernel
theorem dX5_read_179 : decode cX5_read 179 = .ok (.iconst 2, 1) := by decide +kernel
theorem dX5_read_180 : decode cX5_read 180 = .ok (.iadd, 1) := by decide +kernel
theorem dX5_read_181 : decode cX5_read 181 = .ok (.iaload, 1) := by decide +kernel
theorem dX5_read_182 : decode cX5_read 182 = .ok (.invokevirtual 287, 3) := by decide +kernel
theorem dX5_read_185 : decode cX5_read 185 = .ok (.ifCond .ge 13, 3) := by decide +kernel
theorem dX5_read_188 : decode cX5_read 188 = .ok (.aload_n 0, 1) := by decide +kernel
theorem dX5_read_189 : decode cX5_read 189 = .ok (.invokevirtual 155, 3) := by decide +kernel
theorem dX5_read_192 : decode cX5_read 192 = .ok (.bipush (-20), 2) := by decide +kernel
theorem dX5_read_194 : decode cX5_read 194 = .ok (.iload 7, 2) := by decide +kernel
theorem dX5_read_196 : decode cX5_read 196 = .ok (.isub, 1) := by decide +kernel
theorem dX5_read_197 : decode cX5_read 197 = .ok (.ireturn, 1) := by decide +kernel
theorem dX5_read_198 : decode cX5_read 198 = .ok (.iinc 6 1, 3) := by decide +kernel
theorem dX5_read_201 : decode cX5_read 201 = .ok (.iinc 7 1, 3) := by decide +kernel
theorem dX5_read_204 : decode cX5_read 204 = .ok (.goto (-168), 3) := by decide +kernel
theorem dX5_read_207 : decode cX5_read 207 = .ok (.aload_n 0, 1) := by decide +kernel
theorem dX5_read_208 : decode cX5_read 208 = .ok (.iload 5, 2) := by decide +kernel
theorem dX5_read_210 : decode cX5_read 210 = .ok (.putfield 298, 3) := by decide +kernel
theorem dX5_read_213 : decode cX5_read 213 = .ok (.iload 6, 2) := by decide +kernel
theorem dX5_read_215 : decode cX5_read 215 = .ok (.ireturn, 1) := by decide +kernel
theorem dX5_torn_0 : decode cX5_torn 0 = .ok (.aload_n 0, 1) := by decide +kernel
theorem dX5_torn_1 : decode cX5_torn 1 = .ok (.getfield 298, 3) := by decide +kernel
theorem dX5_torn_4 : decode cX5_torn 4 = .ok (.ireturn, 1) := by decide +kernel
theorem dX5_summed_0 : decode cX5_summed 0 = .ok (.iconst 0, 1) := by decide +kernel
theorem dX5_summed_1 : decode cX5_summed 1 = .ok (.istore 4, 2) := by decide +kernel
theorem dX5_summed_3 : decode cX5_summed 3 = .ok (.iconst 0, 1) := by decide +kernel
theorem dX5_summed_4 : decode cX5_summed 4 = .ok (.istore 5, 2) := by decide +kernel
theorem dX5_summed_6 : decode cX5_summed 6 = .ok (.iload 5, 2) := by decide +kernel
theorem dX5_summed_8 : decode cX5_summed 8 = .ok (.iload_n 3, 1) := by decide +kernel
theorem dX5_summed_9 : decode cX5_summed 9 = .ok (.if_icmp .ge 25, 3) := by decide +kernel
theorem dX5_summed_12 : decode cX5_summed 12 = .ok (.iload 4, 2) := by decide +kernel
theorem dX5_summed_14 : decode cX5_summed 14 = .ok (.aload_n 0, 1) := by decide +kernel
theorem dX5_summed_15 : decode cX5_summed 15 = .ok (.getfield 7, 3) := by decide +kernel
theorem dX5_summed_18 : decode cX5_summed 18 = .ok (.iload_n 1, 1) := by decide +kernel
theorem dX5_summed_19 : decode cX5_summed 19 = .ok (.iload_n 2, 1) := by decide +kernel
theorem dX5_summed_20 : decode cX5_summed 20 = .ok (.iload 5, 2) := by decide +kernel
theorem dX5_summed_22 : decode cX5_summed 22 = .ok (.imul, 1) := by decide +kernel
theorem dX5_summed_23 : decode cX5_summed 23 = .ok (.iadd, 1) := by decide +kernel
theorem dX5_summed_24 : decode cX5_summed 24 = .ok (.iaload, 1) := by decide +kernel
theorem dX5_summed_25 : decode cX5_summed 25 = .ok (.iadd, 1) := by decide +kernel
theorem dX5_summed_26 : decode cX5_summed 26 = .ok (.istore 4, 2) := by decide +kernel
theorem dX5_summed_28 : decode cX5_summed 28 = .ok (.iinc 5 1, 3) := by decide +kernel
theorem dX5_summed_31 : decode cX5_summed 31 = .ok (.goto (-25), 3) := by decide +kernel
theorem dX5_summed_34 : decode cX5_summed 34 = .ok (.iload 4, 2) := by decide +kernel
theorem dX5_summed_36 : decode cX5_summed 36 = .ok (.ireturn, 1) := by decide +kernel
theorem dX5_count_0 : decode cX5_count 0 = .ok (.iload_n 1, 1) := by decide +kernel
theorem dX5_count_1 : decode cX5_count 1 = .ok (.tableswitch 131 0 5 #[39, 59, 72, 77, 100, 115], 39) := by decide +kernel
theorem dX5_count_40 : decode cX5_count 40 = .ok (.aload_n 0, 1) := by decide +kernel
theorem dX5_count_41 : decode cX5_count 41 = .ok (.getfield 22, 3) := by decide +kernel
theorem dX5_count_44 : decode cX5_count 44 = .ok (.iconst 0, 1) := by decide +kernel
theorem dX5_count_45 : decode cX5_count 45 = .ok (.baload, 1) := by decide +kernel
theorem dX5_count_46 : decode cX5_count 46 = .ok (.invokestatic 167, 3) := by decide +kernel
theorem dX5_count_49 : decode cX5_count 49 = .ok (.aload_n 0, 1) := by decide +kernel
theorem dX5_count_50 : decode cX5_count 50 = .ok (.getfield 22, 3) := by decide +kernel
theorem dX5_count_53 : decode cX5_count 53 = .ok (.iconst 1, 1) := by decide +kernel
theorem dX5_count_54 : decode cX5_count 54 = .ok (.baload, 1) := by decide +kernel
theorem dX5_count_55 : decode cX5_count 55 = .ok (.invokestatic 167, 3) := by decide +kernel
theorem dX5_count_58 : decode cX5_count 58 = .ok (.iadd, 1) := by decide +kernel
theorem dX5_count_59 : decode cX5_count 59 = .ok (.ireturn, 1) := by decide +kernel
theorem dX5_count_60 : decode cX5_count 60 = .ok (.aload_n 0, 1) := by decide +kernel
theorem dX5_count_61 : decode cX5_count 61 = .ok (.iconst 4, 1) := by decide +kernel
theorem dX5_count_62 : decode cX5_count 62 = .ok (.iconst 5, 1) := by decide +kernel
theorem dX5_count_63 : decode cX5_count 63 = .ok (.aload_n 0, 1) := by decide +kernel
theorem dX5_count_64 : decode cX5_count 64 = .ok (.getfield 7, 3) := by decide +kernel
theorem dX5_count_67 : decode cX5_count 67 = .ok (.iconst 0, 1) := by decide +kernel
theorem dX5_count_68 : decode cX5_count 68 = .ok (.iaload, 1) := by decide +kernel
theorem dX5_count_69 : decode cX5_count 69 = .ok (.invokevirtual 301, 3) := by decide +kernel
theorem dX5_count_72 : decode cX5_count 72 = .ok (.ireturn, 1) := by decide +kernel
theorem dX5_count_73 : decode cX5_count 73 = .ok (.aload_n 0, 1) := by decide +kernel
theorem dX5_count_74 : decode cX5_count 74 = .ok (.getfield 59, 3) := by decide +kernel
theorem dX5_count_77 : decode cX5_count 77 = .ok (.ireturn, 1) := by decide +kernel
theorem dX5_count_78 : decode cX5_count 78 = .ok (.aload_n 0, 1) := by decide +kernel
theorem dX5_count_79 : decode cX5_count 79 = .ok (.getfield 44, 3) := by decide +kernel
theorem dX5_count_82 : decode cX5_count 82 = .ok (.iconst 0, 1) := by decide +kernel
theorem dX5_count_83 : decode cX5_count 83 = .ok (.iaload, 1) := by decide +kernel
theorem dX5_count_84 : decode cX5_count 84 = .ok (.bipush (-4), 2) := by decide +kernel
theorem dX5_count_86 : decode cX5_count 86 = .ok (.if_icmp .ne 8, 3) := by decide +kernel
theorem dX5_count_89 : decode cX5_count 89 = .ok (.bipush (-4), 2) := by decide +kernel
theorem dX5_count_91 : decode cX5_count 91 = .ok (.goto 9, 3) := by decide +kernel
theorem dX5_count_94 : decode cX5_count 94 = .ok (.aload_n 0, 1) := by decide +kernel
theorem dX5_count_95 : decode cX5_count 95 = .ok (.getfield 47, 3) := by decide +kernel
theorem dX5_count_98 : decode cX5_count 98 = .ok (.iconst 0, 1) := by decide +kernel
theorem dX5_count_99 : decode cX5_count 99 = .ok (.iaload, 1) := by decide +kernel
theorem dX5_count_100 : decode cX5_count 100 = .ok (.ireturn, 1) := by decide +kernel
theorem dX5_count_101 : decode cX5_count 101 = .ok (.aload_n 0, 1) := by decide +kernel
theorem dX5_count_102 : decode cX5_count 102 = .ok (.bipush 36, 2) := by decide +kernel
theorem dX5_count_104 : decode cX5_count 104 = .ok (.bipush 6, 2) := by decide +kernel
theorem dX5_count_106 : decode cX5_count 106 = .ok (.aload_n 0, 1) := by decide +kernel
theorem dX5_count_107 : decode cX5_count 107 = .ok (.getfield 7, 3) := by decide +kernel
theorem dX5_count_110 : decode cX5_count 110 = .ok (.iconst 1, 1) := by decide +kernel
theorem dX5_count_111 : decode cX5_count 111 = .ok (.iaload, 1) := by decide +kernel
theorem dX5_count_112 : decode cX5_count 112 = .ok (.invokevirtual 301, 3) := by decide +kernel
theorem dX5_count_115 : decode cX5_count 115 = .ok (.ireturn, 1) := by decide +kernel
theorem dX5_count_116 : decode cX5_count 116 = .ok (.aload_n 0, 1) := by decide +kernel
theorem dX5_count_117 : decode cX5_count 117 = .ok (.bipush 8, 2) := by decide +kernel
theorem dX5_count_119 : decode cX5_count 119 = .ok (.iconst 5, 1) := by decide +kernel
theorem dX5_count_120 : decode cX5_count 120 = .ok (.aload_n 0, 1) := by decide +kernel
theorem dX5_count_121 : decode cX5_count 121 = .ok (.getfield 7, 3) := by decide +kernel
theorem dX5_count_124 : decode cX5_count 124 = .ok (.iconst 0, 1) := by decide +kernel
theorem dX5_count_125 : decode cX5_count 125 = .ok (.iaload, 1) := by decide +kernel
theorem dX5_count_126 : decode cX5_count 126 = .ok (.iconst 1, 1) := by decide +kernel
theorem dX5_count_127 : decode cX5_count 127 = .ok (.isub, 1) := by decide +kernel
theorem dX5_count_128 : decode cX5_count 128 = .ok (.invokevirtual 301, 3) := by decide +kernel
theorem dX5_count_131 : decode cX5_count 131 = .ok (.ireturn, 1) := by decide +kernel
theorem dX5_count_132 : decode cX5_count 132 = .ok (.iconst (-1), 1) := by decide +kernel
theorem dX5_count_133 : decode cX5_count 133 = .ok (.ireturn, 1) := by decide +kernel
end
section
/-! THE PURE MEMORY. A cell is named by (class, number of the object, 0) for an object, (class, number, slot and 1) for the array in its slot; what it holds is a row of ints. -/
abbrev Rf : Type := Nat × Nat × Nat
abbrev PV : Type := Int32 ⊕ (Int64 ⊕ Rf)
abbrev Mem : Type := Rf → Nat → Int32
abbrev pI (x : Int32) : PV := Sum.inl x
abbrev pL (x : Int64) : PV := Sum.inr (Sum.inl x)
abbrev pR (c k j : Nat) : PV := Sum.inr (Sum.inr (c, k, j))
/-- the world's own names: the tables' numbers, where each cell lies, the classes of the arrays -/
abbrev Gm : Type := va_G × (Rf → Nat) × (Nat → ClassId)
def emb (G : Gm) : PV → Value
  | .inl x => .int x
  | .inr (.inl x) => .long x
  | .inr (.inr r) => .ref (G.2.1 r)
def pcat : PV → Nat
  | .inl _ => 1
  | .inr (.inl _) => 2
  | .inr (.inr _) => 1
theorem emb_cat (G : Gm) (v : PV) : (emb G v).category = pcat v := by
  match v with
  | .inl x => rfl
  | .inr (.inl x) => rfl
  | .inr (.inr r) => rfl
def nF : Nat → Nat := fun c => match c with
  | 0 => 16
  | 1 => 8
  | 2 => 8
  | 3 => 3
  | 4 => 8
  | _ => 24
/-- the arrays in the slots: their kind (0 int, 1 boolean, 2 byte, 3 and 4 references) and length -/
def arT : Nat → Nat → Option (Nat × Nat) := fun c j => match c with
  | 0 => (match j with | 1 => some (0, 6) | 2 => some (0, 18) | 3 => some (0, 6) | 5 => some (0, 4) | 6 => some (0, 4) | 7 => some (0, 4) | 8 => some (0, 4) | 9 => some (0, 4) | 10 => some (0, 4) | 13 => some (0, 60) | 14 => some (0, 60) | 15 => some (0, 60) | _ => none)
  | 1 => (match j with | 0 => some (1, 96) | 1 => some (0, 1296) | 2 => some (2, 1296) | 3 => some (0, 4) | 4 => some (0, 6) | 5 => some (0, 4) | _ => none)
  | 2 => (match j with | 0 => some (2, 160) | _ => none)
  | 3 => (match j with | 1 => some (0, 40) | _ => none)
  | 4 => (match j with | 2 => some (3, 2) | 3 => some (1, 2) | 4 => some (4, 4) | _ => none)
  | 5 => (match j with | 0 => some (0, 238) | 1 => some (0, 238) | 2 => some (0, 238) | 3 => some (0, 476) | 4 => some (1, 2) | 5 => some (0, 160) | 13 => some (0, 4) | 14 => some (0, 2401) | 15 => some (1, 2401) | 16 => some (1, 2401) | 18 => some (0, 4) | 20 => some (0, 4) | 21 => some (0, 4) | 22 => some (0, 160) | _ => none)
  | _ => none
/-- references in slots that are no arrays -/
def rfT : Nat → Nat → Option Rf := fun c j => match c with
  | 4 => (match j with | 0 => some (0, 0, 0) | 1 => some (0, 1, 0) | 5 => some (1, 0, 0) | 6 => some (2, 0, 0) | _ => none)
  | _ => none
def fval (f : Nat → Int32) (c k j : Nat) : PV := match arT c j with
  | some _ => .inr (.inr (c, k, j + 1))
  | none => (match rfT c j with
    | some r => .inr (.inr r)
    | none => .inl (f j))
def elR (ty i : Nat) : Rf := if ty = 3 then (0, 2 + i, 0) else (3, i, 0)
def cellR (G : Gm) (r : Rf) (f : Nat → Int32) : va_E := match r.2.2 with
  | 0 => .inr (r.1, (List.range (nF r.1)).map (fun j => emb G (fval f r.1 r.2.1 j)))
  | j + 1 => (match arT r.1 j with
    | some tn => if tn.1 < 3 then .inl (G.2.2 tn.1, tn.2, .inl f) else .inl (G.2.2 tn.1, tn.2, .inr (.inr (.inr (.inr (fun i => some (G.2.1 (elR tn.1 i)))))))
    | none => .inr (0, []))
def idsL (k : Nat) : List Rf := [(0, k, 0), (0, k, 2), (0, k, 3), (0, k, 4), (0, k, 6), (0, k, 7), (0, k, 8), (0, k, 9), (0, k, 10), (0, k, 11), (0, k, 14), (0, k, 15), (0, k, 16)]
def ids : List Rf := idsL 0 ++ (idsL 1 ++ (idsL 2 ++ (idsL 3 ++ [(1, 0, 0), (1, 0, 1), (1, 0, 2), (1, 0, 3), (1, 0, 4), (1, 0, 5), (1, 0, 6), (2, 0, 0), (2, 0, 1), (3, 0, 0), (3, 0, 2), (3, 1, 0), (3, 1, 2), (3, 2, 0), (3, 2, 2), (3, 3, 0), (3, 3, 2), (4, 0, 0), (4, 0, 3), (4, 0, 4), (4, 0, 5), (5, 0, 0), (5, 0, 1), (5, 0, 2), (5, 0, 3), (5, 0, 4), (5, 0, 5), (5, 0, 6), (5, 0, 14), (5, 0, 15), (5, 0, 16), (5, 0, 17), (5, 0, 19), (5, 0, 21), (5, 0, 22), (5, 0, 23)])))
/-- what isn't of the pool: String constants (6), the static row (7), the script (8) -/
def idsX : List Rf := ids ++ [(6, 0, 0), (6, 1, 0), (6, 2, 0), (7, 0, 0), (8, 0, 0)]
theorem ids_inj : ∀ i, i < 88 → ∀ j, j < 88 → ids[i]? = ids[j]? → i = j := by decide +kernel
theorem ids_len : ids.length = 88 := by decide +kernel
theorem ids_of {r : Rf} (h : r ∈ idsX) (hc : r.1 < 6) : r ∈ ids := by
  rcases List.mem_append.mp h with h | h
  · exact h
  · simp only [List.mem_cons, List.not_mem_nil, or_false] at h
    rcases h with rfl | rfl | rfl | rfl | rfl <;> exact absurd hc (by decide)
def okV : PV → Prop
  | .inl _ => True
  | .inr (.inl _) => True
  | .inr (.inr r) => r ∈ idsX
def fldOk (r : Rf) (j : Nat) : Bool := match arT r.1 j with
  | some _ => decide ((r.1, r.2.1, j + 1) ∈ ids)
  | none => (match rfT r.1 j with
    | some q => decide (q ∈ ids)
    | none => true)
theorem ids_fld : ∀ r ∈ ids, r.2.2 = 0 → ∀ j, j < nF r.1 → fldOk r j = true := by decide +kernel
theorem ok_fval {r : Rf} (h : r ∈ ids) (h0 : r.2.2 = 0) {j : Nat} (hj : j < nF r.1) (f : Nat → Int32) : okV (fval f r.1 r.2.1 j) := by
  have h1 := ids_fld r h h0 j hj
  unfold fldOk at h1
  unfold fval
  cases ha : arT r.1 j with
  | some tn => rw [ha] at h1; exact List.mem_append_left _ (of_decide_eq_true h1)
  | none =>
    rw [ha] at h1
    cases hb : rfT r.1 j with
    | some q => rw [hb] at h1; exact List.mem_append_left _ (of_decide_eq_true h1)
    | none => trivial
def sr (μ : Mem) (r : Rf) (g : Nat → Int32) : Mem := fun r' => if r' = r then g else μ r'
def wr (μ : Mem) (r : Rf) (i : Nat) (v : Int32) : Mem := sr μ r (upd (μ r) i v)
def wsO (G : Gm) (μ : Mem) : va_W := ids.map (fun r => (G.2.1 r, cellR G r (μ r)))
theorem ws_at {r : Rf} (h : r ∈ ids) : ∃ q : Nat, ids[q]? = some r ∧ ∀ (G : Gm) (μ : Mem), (wsO G μ)[q]? = some (G.2.1 r, cellR G r (μ r)) := by
  obtain ⟨q, hq⟩ := List.mem_iff_getElem?.mp h
  exact ⟨q, hq, fun G μ => by simp [wsO, hq]⟩
theorem ws_set (G : Gm) (μ : Mem) {r : Rf} {q : Nat} (hq : ids[q]? = some r) (g : Nat → Int32) : (wsO G μ).set q (G.2.1 r, cellR G r g) = wsO G (sr μ r g) := by
  have hql : q < 88 := by
    have := (List.getElem?_eq_some_iff.mp hq).1
    rwa [ids_len] at this
  apply List.ext_getElem?
  intro i
  rw [List.getElem?_set]
  by_cases h : q = i
  · subst h
    rw [if_pos rfl, if_pos (by simp [wsO, ids_len, hql])]
    simp [wsO, hq, sr]
  · rw [if_neg h]
    simp only [wsO, List.getElem?_map]
    cases hi : ids[i]? with
    | none => rfl
    | some r' =>
      have hil : i < 88 := by
        have := (List.getElem?_eq_some_iff.mp hi).1
        rwa [ids_len] at this
      have hne : r' ≠ r := fun e => h (ids_inj q hql i hil (by rw [hq, hi, e]))
      simp [sr, hne]
def unitV : Nat → Int32 := fun i => if i = 0 then 1 else if i = 1 then 6 else if i = 2 then 36 else 216
def strT : Nat → String := fun i => if i = 0 then "place" else if i = 1 then "section" else "train"
def strI : Nat → Nat := fun i => if i = 0 then 47 else if i = 1 then 56 else 61
def strN : List Nat := [5, 7, 5]
def strB : List (List Int32) := [[112, 108, 97, 99, 101], [115, 101, 99, 116, 105, 111, 110], [116, 114, 97, 105, 110]]
/-- the script: its length and ints -/
abbrev Sc : Type := Nat × (Nat → Int32)
/-- what lies outside the pool and never changes -/
def Xt (G : Gm) (X : Sc) (A : Nat → Prop) (U : State) (H : Heap) : Prop :=
  va_Z "LineDispatch$Postures" "UNIT" "[I" (.ref (G.2.1 (7, 0, 0))) A U H ∧ va_T .int (G.2.1 (7, 0, 0)) 4 (fun j => .int (unitV j)) A U H ∧
  vk_S 3 strN strB (fun i => G.2.1 (6, i, 0)) (fun i => G.2.1 (6, i, 1)) A U H ∧ (∀ i : Nat, i < 3 → vk_R "LineDispatch$Reader" (strI i) (strT i) (G.2.1 (6, i, 0)) U) ∧
  va_Z "java/lang/String" "COMPACT_STRINGS" "Z" (.int 1) A U H ∧ va_Zq "jdk/internal/util/Preconditions" "SIOOBE_FORMATTER" "Ljava/util/function/BiFunction;" A U H ∧
  va_X (G.2.1 (8, 0, 0)) X.1 X.2 U H ∧ G.2.1 (8, 0, 0) < H.size ∧ ¬ A (G.2.1 (8, 0, 0))
theorem Xt.kept {G : Gm} {X : Sc} {A : Nat → Prop} {U : State} {H H1 : Heap} (h : Xt G X A U H) (hz : H.size ≤ H1.size) (hq : ∀ a : Nat, a < H.size → ¬ A a → H1[a]? = H[a]?) : Xt G X A U H1 := by
  obtain ⟨h1, h2, h3, h4, h5, h6, h7, h8, h9⟩ := h
  exact ⟨h1.kept hq, h2.kept hq, h3.kept hq, h4, h5.kept hq, h6.kept hq, h7.kept (hq _ h8 h9), Nat.lt_of_lt_of_le h8 hz, h9⟩
theorem Xt.narrow {G : Gm} {X : Sc} {A B : Nat → Prop} {U : State} {H : Heap} (h : Xt G X A U H) (hAB : ∀ q, B q → A q) : Xt G X B U H := by
  obtain ⟨h1, h2, h3, h4, h5, h6, h7, h8, h9⟩ := h
  exact ⟨h1.narrow hAB, h2.narrow hAB, h3.narrow hAB, h4, h5.narrow hAB, h6.narrow hAB, h7, h8, fun z => h9 (hAB _ z)⟩
theorem Xt.warm {G : Gm} {X : Sc} {A : Nat → Prop} {s U : State} {H : Heap} (hW : s.WarmedH U.vm) (h : Xt G X A s H) : Xt G X A U H := by
  obtain ⟨h1, h2, h3, h4, h5, h6, h7, h8, h9⟩ := h
  exact ⟨h1.moved hW.alike, h2.moved hW.alike, h3.moved hW.alike, fun i hi => (h4 i hi).warm hW, h5.moved hW.alike, h6.moved hW.alike, h7.moved hW.alike, h8, h9⟩
theorem Xt.call {G : Gm} {X : Sc} {A : Nat → Prop} {U : State} {H : Heap} {g : JFrame} {mk : MethodId} {a : Array Value} (h : Xt G X A U H) : Xt G X A (U.calling g mk a) H := by
  obtain ⟨h1, h2, h3, h4, h5, h6, h7, h8, h9⟩ := h
  have hv : U.vm.Alike (U.calling g mk a).vm := Vm.Alike.refl U.vm
  exact ⟨h1.moved hv, h2.moved hv, h3.moved hv, fun i hi => (h4 i hi).same rfl, h5.moved hv, h6.moved hv, h7.moved hv, h8, h9⟩
def tysO (G : Gm) : List (ClassId × FieldType) := [(G.2.2 0, .int), (G.2.2 1, .boolean), (G.2.2 2, .byte), (G.2.2 3, .object "LineDispatch$Line"), (G.2.2 4, .object "LineDispatch$Sheet")]
/-- what holds in a method's frame all along -/
def Fm (G : Gm) (X : Sc) (p : Program) (s : State) (m : MethodId) (args : Array Value) (c : Code) (cc : ByteArray) (nL : Nat) (own : String) (A : Nat → Prop) : Prop :=
  p.tables.exec = Jvm.exec ∧ c.code = cc ∧ c.maxLocals = nL ∧ s.vm.findClass own = some m.cls ∧ (∀ w ∈ lw_ok, w.before args s = true) ∧ (∀ q : Nat, s.heap.size ≤ q → A q) ∧ va_K G.1 vwCl (tysO G) s ∧ Xt G X A s s.heap
def rtI : Option FieldType → Instr
  | none => .return_
  | some _ => .ireturn
def rtS : Option FieldType → Int32 → List Value
  | none, _ => []
  | some _, x => [.int x]
/-- A SIMULATION: where the pure value ex is 'some t', the machine, from this place of the method with these locals, stack and memory, comes to the method's end with the answer 'ro t' and the memory 'mo t' -/
def Sim {τ : Type} (X : Sc) (cc : ByteArray) (nL : Nat) (ret : Option FieldType) (own : String) (R : Room) (ro : τ → Int32) (mo : τ → Mem) (pc : Nat) (lo : List (Nat × PV)) (st : List PV) (μ : Mem) (ex : Option τ) : Prop :=
  ∀ (t : τ), ex = some t → ∀ (G : Gm) (p : Program) (l : Launch) (e : Env) (s : State) (m : MethodId) (args : Array Value) (below : List Frame) (meth : Method) (c : Code) (A : Nat → Prop) (cells slots : Nat) (Q : State → Prop),
  Fm G X p s m args c cc nL own A → (cells ≤ R.cells ∧ slots ≤ R.slots) →
  (∀ (H1 : Heap) (locs1 : List Loc) (ls1 : Array Slot) (pc1 : Nat), decode cc pc1 = .ok (rtI ret, 1) → (∀ ty, ret = some ty → narrow ty (.int (ro t)) = .int (ro t)) → va_P G.1 vwCl (wsO G (mo t)) H1 → va_D A (wsO G (mo t)) → va_S A s.heap H1 locs1 → W p l e R s m args below meth c H1 locs1 cells slots Q (F0 m pc1 ls1 (rtS ret (ro t)))) →
  ∀ (H : Heap) (locs : List Loc) (ls : Array Slot), (∀ q ∈ lo, okV q.2) → (∀ v ∈ st, okV v) → va_P G.1 vwCl (wsO G μ) H → va_D A (wsO G μ) → va_S A s.heap H locs → lv_has ls nL (lo.map (fun q => (q.1, emb G q.2))) →
  W p l e R s m args below meth c H locs cells slots Q (F0 m pc ls (st.map (emb G)))
def lt {α β : Type} (v : α) (K : α → β) : β := K v
/-- the value of a local -/
def lk : List (Nat × PV) → Nat → Option PV
  | [], _ => none
  | q :: l, i => if q.1 = i then some q.2 else lk l i
theorem lk_mem {i : Nat} {v : PV} : ∀ {l : List (Nat × PV)}, lk l i = some v → (i, v) ∈ l
  | [], h => by cases h
  | q :: l, h => by
    unfold lk at h
    by_cases hq : q.1 = i
    · rw [if_pos hq] at h
      cases h
      rw [← hq]
      exact List.mem_cons_self
    · rw [if_neg hq] at h
      exact List.mem_cons_of_mem _ (lk_mem h)
/-- a local is stored -/
def sto (l : List (Nat × PV)) (i : Nat) (v : PV) : List (Nat × PV) := (i, v) :: l.filter (fun q => !(q.1 == i) && !(q.1 + 1 == i && pcat q.2 == 2))
def sto2 (l : List (Nat × PV)) (i : Nat) (v : PV) : List (Nat × PV) := (i, v) :: l.filter (fun q => !(q.1 == i) && (!(q.1 == i + 1) && !(q.1 + 1 == i && pcat q.2 == 2)))
theorem sto_emb (G : Gm) (l : List (Nat × PV)) (i : Nat) (v : PV) : (i, emb G v) :: (l.map (fun q => (q.1, emb G q.2))).filter (fun q => !(q.1 == i) && !(q.1 + 1 == i && q.2.category == 2)) = (sto l i v).map (fun q => (q.1, emb G q.2)) := by
  simp only [sto, List.map_cons, List.filter_map]
  congr 2
  apply List.filter_congr
  intro q _
  simp [emb_cat]
theorem sto2_emb (G : Gm) (l : List (Nat × PV)) (i : Nat) (v : PV) : (i, emb G v) :: (l.map (fun q => (q.1, emb G q.2))).filter (fun q => !(q.1 == i) && (!(q.1 == i + 1) && !(q.1 + 1 == i && q.2.category == 2))) = (sto2 l i v).map (fun q => (q.1, emb G q.2)) := by
  simp only [sto2, List.map_cons, List.filter_map]
  congr 2
  apply List.filter_congr
  intro q _
  simp [emb_cat]
theorem sto_ok {l : List (Nat × PV)} {i : Nat} {v : PV} (h : ∀ q ∈ l, okV q.2) (hv : okV v) : ∀ q ∈ sto l i v, okV q.2 := by
  intro q hq
  rcases List.mem_cons.mp hq with rfl | hq
  · exact hv
  · exact h q (List.mem_filter.mp hq).1
theorem sto2_ok {l : List (Nat × PV)} {i : Nat} {v : PV} (h : ∀ q ∈ l, okV q.2) (hv : okV v) : ∀ q ∈ sto2 l i v, okV q.2 := by
  intro q hq
  rcases List.mem_cons.mp hq with rfl | hq
  · exact hv
  · exact h q (List.mem_filter.mp hq).1
theorem lk_at {ls : Array Slot} {nL i : Nat} {lo : List (Nat × PV)} {G : Gm} {v : PV} (h : lv_has ls nL (lo.map (fun q => (q.1, emb G q.2)))) (hv : lk lo i = some v) : ls[i]? = some (.val (emb G v)) := h.2.2 (i, emb G v) (List.mem_map.mpr ⟨(i, v), lk_mem hv, rfl⟩)
end
section
section SimRows
variable {τ : Type} {X : Sc} {cc : ByteArray} {nL : Nat} {ret : Option FieldType} {own : String} {R : Room} {ro : τ → Int32} {mo : τ → Mem} {pc : Nat} {lo : List (Nat × PV)} {st : List PV} {μ : Mem} {ex a b : Option τ}
theorem sim_none : Sim X cc nL ret own R ro mo pc lo st μ none := by
  intro t he
  cases he
theorem sim_pure {pc' : Nat} {st' : List PV} (k : Sim X cc nL ret own R ro mo pc' lo st' μ ex) (hok : (∀ v ∈ st, okV v) → (∀ q ∈ lo, okV q.2) → ∀ v ∈ st', okV v)
    (hw : ∀ (G : Gm) (p : Program) (l : Launch) (e : Env) (s : State) (m : MethodId) (args : Array Value) (below : List Frame) (meth : Method) (c : Code) (A : Nat → Prop) (H : Heap) (locs : List Loc) (cells slots : Nat) (Q : State → Prop) (ls : Array Slot), Fm G X p s m args c cc nL own A → va_S A s.heap H locs → lv_has ls nL (lo.map (fun q => (q.1, emb G q.2))) → W p l e R s m args below meth c H locs cells slots Q (F0 m pc' ls (st'.map (emb G))) → W p l e R s m args below meth c H locs cells slots Q (F0 m pc ls (st.map (emb G)))) : Sim X cc nL ret own R ro mo pc lo st μ ex := by
  intro t he G p l e s m args below meth c A cells slots Q F hcs hR H locs ls o1 o2 hP hD hS hl
  exact hw G p l e s m args below meth c A H locs cells slots Q ls F hS hl (k t he G p l e s m args below meth c A cells slots Q F hcs hR H locs ls o1 (hok o2 o1) hP hD hS hl)
theorem sim_iconst {n : Int} {v : Int32} (d : decode cc pc = .ok (.iconst n, 1)) (hv : Int32.ofInt n = v) (k : Sim X cc nL ret own R ro mo (pc + 1) lo (pI v :: st) μ ex) : Sim X cc nL ret own R ro mo pc lo st μ ex :=
  sim_pure k (fun h _ => List.forall_mem_cons.mpr ⟨trivial, h⟩) (fun _ _ _ _ _ _ _ _ _ _ _ _ _ _ _ _ _ F _ _ w => lv_iconst F.1 F.2.1 d hv w)
theorem sim_bipush {n : Int} {v : Int32} (d : decode cc pc = .ok (.bipush n, 2)) (hv : (Int8.ofInt n).toInt32 = v) (k : Sim X cc nL ret own R ro mo (pc + 2) lo (pI v :: st) μ ex) : Sim X cc nL ret own R ro mo pc lo st μ ex :=
  sim_pure k (fun h _ => List.forall_mem_cons.mpr ⟨trivial, h⟩) (fun _ _ _ _ _ _ _ _ _ _ _ _ _ _ _ _ _ F _ _ w => lv_bipush F.1 F.2.1 d hv w)
theorem sim_sipush {n : Int} {v : Int32} (d : decode cc pc = .ok (.sipush n, 3)) (hv : (Int16.ofInt n).toInt32 = v) (k : Sim X cc nL ret own R ro mo (pc + 3) lo (pI v :: st) μ ex) : Sim X cc nL ret own R ro mo pc lo st μ ex :=
  sim_pure k (fun h _ => List.forall_mem_cons.mpr ⟨trivial, h⟩) (fun _ _ _ _ _ _ _ _ _ _ _ _ _ _ _ _ _ F _ _ w => lv_sipush F.1 F.2.1 d hv w)
theorem sim_lconst {n : Fin 2} {v : Int64} (d : decode cc pc = .ok (.lconst n, 1)) (hv : Int64.ofNat (n : Nat) = v) (k : Sim X cc nL ret own R ro mo (pc + 1) lo (pL v :: st) μ ex) : Sim X cc nL ret own R ro mo pc lo st μ ex :=
  sim_pure k (fun h _ => List.forall_mem_cons.mpr ⟨trivial, h⟩) (fun _ _ _ _ _ _ _ _ _ _ _ _ _ _ _ _ _ F _ _ w => lv_lconst F.1 F.2.1 d hv w)
theorem sim_ldc {i : Nat} {v : Int32} (d : decode cc pc = .ok (.ldc i, 2)) (hc : Cond.constant own i v ∈ lw_ok) (k : Sim X cc nL ret own R ro mo (pc + 2) lo (pI v :: st) μ ex) : Sim X cc nL ret own R ro mo pc lo st μ ex :=
  sim_pure k (fun h _ => List.forall_mem_cons.mpr ⟨trivial, h⟩) (fun _ _ _ _ _ _ _ _ _ _ _ _ _ _ _ _ _ F _ _ w => lv_ldc F.1 F.2.1 F.2.2.2.1 (F.2.2.2.2.1 _ hc) d w)
theorem sim_ldcw {i : Nat} {v : Int32} (d : decode cc pc = .ok (.ldc_w i, 3)) (hc : Cond.constant own i v ∈ lw_ok) (k : Sim X cc nL ret own R ro mo (pc + 3) lo (pI v :: st) μ ex) : Sim X cc nL ret own R ro mo pc lo st μ ex :=
  sim_pure k (fun h _ => List.forall_mem_cons.mpr ⟨trivial, h⟩) (fun _ _ _ _ _ _ _ _ _ _ _ _ _ _ _ _ _ F _ _ w => lv_ldcw F.1 F.2.1 F.2.2.2.1 (F.2.2.2.2.1 _ hc) d w)
theorem sim_ldc2 {i : Nat} {v : Int64} (d : decode cc pc = .ok (.ldc2_w i, 3)) (hc : Cond.constantLong own i v ∈ lw_ok) (k : Sim X cc nL ret own R ro mo (pc + 3) lo (pL v :: st) μ ex) : Sim X cc nL ret own R ro mo pc lo st μ ex :=
  sim_pure k (fun h _ => List.forall_mem_cons.mpr ⟨trivial, h⟩) (fun _ _ _ _ _ _ _ _ _ _ _ _ _ _ _ _ _ F _ _ w => lv_ldc2 F.1 F.2.1 F.2.2.2.1 (F.2.2.2.2.1 _ hc) d w)
theorem sim_iload_n {i : Fin 4} {x : Int32} (d : decode cc pc = .ok (.iload_n i, 1)) (hv : lk lo i.val = some (pI x)) (k : Sim X cc nL ret own R ro mo (pc + 1) lo (pI x :: st) μ ex) : Sim X cc nL ret own R ro mo pc lo st μ ex :=
  sim_pure k (fun h _ => List.forall_mem_cons.mpr ⟨trivial, h⟩) (fun _ _ _ _ _ _ _ _ _ _ _ _ _ _ _ _ _ F _ hl w => lv_iload_n F.1 F.2.1 d rfl (lk_at hl hv) w)
theorem sim_iload {i : Nat} {x : Int32} (d : decode cc pc = .ok (.iload i, 2)) (hv : lk lo i = some (pI x)) (k : Sim X cc nL ret own R ro mo (pc + 2) lo (pI x :: st) μ ex) : Sim X cc nL ret own R ro mo pc lo st μ ex :=
  sim_pure k (fun h _ => List.forall_mem_cons.mpr ⟨trivial, h⟩) (fun _ _ _ _ _ _ _ _ _ _ _ _ _ _ _ _ _ F _ hl w => lv_iload F.1 F.2.1 d (lk_at hl hv) w)
theorem sim_lload_n {i : Fin 4} {x : Int64} (d : decode cc pc = .ok (.lload_n i, 1)) (hv : lk lo i.val = some (pL x)) (k : Sim X cc nL ret own R ro mo (pc + 1) lo (pL x :: st) μ ex) : Sim X cc nL ret own R ro mo pc lo st μ ex :=
  sim_pure k (fun h _ => List.forall_mem_cons.mpr ⟨trivial, h⟩) (fun _ _ _ _ _ _ _ _ _ _ _ _ _ _ _ _ _ F _ hl w => lv_lload_n F.1 F.2.1 d rfl (lk_at hl hv) w)
theorem sim_lload {i : Nat} {x : Int64} (d : decode cc pc = .ok (.lload i, 2)) (hv : lk lo i = some (pL x)) (k : Sim X cc nL ret own R ro mo (pc + 2) lo (pL x :: st) μ ex) : Sim X cc nL ret own R ro mo pc lo st μ ex :=
  sim_pure k (fun h _ => List.forall_mem_cons.mpr ⟨trivial, h⟩) (fun _ _ _ _ _ _ _ _ _ _ _ _ _ _ _ _ _ F _ hl w => lv_lload F.1 F.2.1 d (lk_at hl hv) w)
theorem sim_aload_n {i : Fin 4} {r : Rf} (d : decode cc pc = .ok (.aload_n i, 1)) (hv : lk lo i.val = some (.inr (.inr r))) (k : Sim X cc nL ret own R ro mo (pc + 1) lo (.inr (.inr r) :: st) μ ex) : Sim X cc nL ret own R ro mo pc lo st μ ex :=
  sim_pure k (fun h o => List.forall_mem_cons.mpr ⟨o _ (lk_mem hv), h⟩) (fun _ _ _ _ _ _ _ _ _ _ _ _ _ _ _ _ _ F _ hl w => lv_aload_n F.1 F.2.1 d rfl (lk_at hl hv) w)
theorem sim_aload {i : Nat} {r : Rf} (d : decode cc pc = .ok (.aload i, 2)) (hv : lk lo i = some (.inr (.inr r))) (k : Sim X cc nL ret own R ro mo (pc + 2) lo (.inr (.inr r) :: st) μ ex) : Sim X cc nL ret own R ro mo pc lo st μ ex :=
  sim_pure k (fun h o => List.forall_mem_cons.mpr ⟨o _ (lk_mem hv), h⟩) (fun _ _ _ _ _ _ _ _ _ _ _ _ _ _ _ _ _ F _ hl w => lv_aload F.1 F.2.1 d (lk_at hl hv) w)
theorem sim_iadd {x y : Int32} (d : decode cc pc = .ok (.iadd, 1)) (k : Sim X cc nL ret own R ro mo (pc + 1) lo (pI (x + y) :: st) μ ex) : Sim X cc nL ret own R ro mo pc lo (pI y :: pI x :: st) μ ex :=
  sim_pure k (fun h _ => List.forall_mem_cons.mpr ⟨trivial, fun v hv => h v (List.mem_cons_of_mem _ (List.mem_cons_of_mem _ hv))⟩) (fun _ _ _ _ _ _ _ _ _ _ _ _ _ _ _ _ _ F _ _ w => lv_iadd F.1 F.2.1 d w)
theorem sim_isub {x y : Int32} (d : decode cc pc = .ok (.isub, 1)) (k : Sim X cc nL ret own R ro mo (pc + 1) lo (pI (x - y) :: st) μ ex) : Sim X cc nL ret own R ro mo pc lo (pI y :: pI x :: st) μ ex :=
  sim_pure k (fun h _ => List.forall_mem_cons.mpr ⟨trivial, fun v hv => h v (List.mem_cons_of_mem _ (List.mem_cons_of_mem _ hv))⟩) (fun _ _ _ _ _ _ _ _ _ _ _ _ _ _ _ _ _ F _ _ w => lv_isub F.1 F.2.1 d w)
theorem sim_imul {x y : Int32} (d : decode cc pc = .ok (.imul, 1)) (k : Sim X cc nL ret own R ro mo (pc + 1) lo (pI (x * y) :: st) μ ex) : Sim X cc nL ret own R ro mo pc lo (pI y :: pI x :: st) μ ex :=
  sim_pure k (fun h _ => List.forall_mem_cons.mpr ⟨trivial, fun v hv => h v (List.mem_cons_of_mem _ (List.mem_cons_of_mem _ hv))⟩) (fun _ _ _ _ _ _ _ _ _ _ _ _ _ _ _ _ _ F _ _ w => lv_imul F.1 F.2.1 d w)
theorem sim_iand {x y : Int32} (d : decode cc pc = .ok (.iand, 1)) (k : Sim X cc nL ret own R ro mo (pc + 1) lo (pI (x &&& y) :: st) μ ex) : Sim X cc nL ret own R ro mo pc lo (pI y :: pI x :: st) μ ex :=
  sim_pure k (fun h _ => List.forall_mem_cons.mpr ⟨trivial, fun v hv => h v (List.mem_cons_of_mem _ (List.mem_cons_of_mem _ hv))⟩) (fun _ _ _ _ _ _ _ _ _ _ _ _ _ _ _ _ _ F _ _ w => lv_iand F.1 F.2.1 d w)
theorem sim_ior {x y : Int32} (d : decode cc pc = .ok (.ior, 1)) (k : Sim X cc nL ret own R ro mo (pc + 1) lo (pI (x ||| y) :: st) μ ex) : Sim X cc nL ret own R ro mo pc lo (pI y :: pI x :: st) μ ex :=
  sim_pure k (fun h _ => List.forall_mem_cons.mpr ⟨trivial, fun v hv => h v (List.mem_cons_of_mem _ (List.mem_cons_of_mem _ hv))⟩) (fun _ _ _ _ _ _ _ _ _ _ _ _ _ _ _ _ _ F _ _ w => lv_ior F.1 F.2.1 d w)
theorem sim_ishl {x y : Int32} (d : decode cc pc = .ok (.ishl, 1)) (k : Sim X cc nL ret own R ro mo (pc + 1) lo (pI (x <<< (y &&& 31)) :: st) μ ex) : Sim X cc nL ret own R ro mo pc lo (pI y :: pI x :: st) μ ex :=
  sim_pure k (fun h _ => List.forall_mem_cons.mpr ⟨trivial, fun v hv => h v (List.mem_cons_of_mem _ (List.mem_cons_of_mem _ hv))⟩) (fun _ _ _ _ _ _ _ _ _ _ _ _ _ _ _ _ _ F _ _ w => lv_ishl F.1 F.2.1 d w)
theorem sim_ishr {x y : Int32} (d : decode cc pc = .ok (.ishr, 1)) (k : Sim X cc nL ret own R ro mo (pc + 1) lo (pI (x >>> (y &&& 31)) :: st) μ ex) : Sim X cc nL ret own R ro mo pc lo (pI y :: pI x :: st) μ ex :=
  sim_pure k (fun h _ => List.forall_mem_cons.mpr ⟨trivial, fun v hv => h v (List.mem_cons_of_mem _ (List.mem_cons_of_mem _ hv))⟩) (fun _ _ _ _ _ _ _ _ _ _ _ _ _ _ _ _ _ F _ _ w => lv_ishr F.1 F.2.1 d w)
theorem sim_iushr {x y : Int32} (d : decode cc pc = .ok (.iushr, 1)) (k : Sim X cc nL ret own R ro mo (pc + 1) lo (pI ((x.toUInt32 >>> (y.toUInt32 &&& Int32.toUInt32 31)).toInt32) :: st) μ ex) : Sim X cc nL ret own R ro mo pc lo (pI y :: pI x :: st) μ ex :=
  sim_pure k (fun h _ => List.forall_mem_cons.mpr ⟨trivial, fun v hv => h v (List.mem_cons_of_mem _ (List.mem_cons_of_mem _ hv))⟩) (fun _ _ _ _ _ _ _ _ _ _ _ _ _ _ _ _ _ F _ _ w => lv_iushr F.1 F.2.1 d rfl w)
theorem sim_ladd {x y : Int64} (d : decode cc pc = .ok (.ladd, 1)) (k : Sim X cc nL ret own R ro mo (pc + 1) lo (pL (x + y) :: st) μ ex) : Sim X cc nL ret own R ro mo pc lo (pL y :: pL x :: st) μ ex :=
  sim_pure k (fun h _ => List.forall_mem_cons.mpr ⟨trivial, fun v hv => h v (List.mem_cons_of_mem _ (List.mem_cons_of_mem _ hv))⟩) (fun _ _ _ _ _ _ _ _ _ _ _ _ _ _ _ _ _ F _ _ w => lv_ladd F.1 F.2.1 d w)
theorem sim_lcmp {x y : Int64} (d : decode cc pc = .ok (.lcmp, 1)) (k : Sim X cc nL ret own R ro mo (pc + 1) lo (pI (lg_cmp x y) :: st) μ ex) : Sim X cc nL ret own R ro mo pc lo (pL y :: pL x :: st) μ ex :=
  sim_pure k (fun h _ => List.forall_mem_cons.mpr ⟨trivial, fun v hv => h v (List.mem_cons_of_mem _ (List.mem_cons_of_mem _ hv))⟩) (fun _ _ _ _ _ _ _ _ _ _ _ _ _ _ _ _ _ F _ _ w => W.lcmp F.1 F.2.1 d w)
theorem sim_ineg {x : Int32} (d : decode cc pc = .ok (.ineg, 1)) (k : Sim X cc nL ret own R ro mo (pc + 1) lo (pI (-x) :: st) μ ex) : Sim X cc nL ret own R ro mo pc lo (pI x :: st) μ ex :=
  sim_pure k (fun h _ => List.forall_mem_cons.mpr ⟨trivial, fun v hv => h v (List.mem_cons_of_mem _ hv)⟩) (fun _ _ _ _ _ _ _ _ _ _ _ _ _ _ _ _ _ F _ _ w => lv_ineg F.1 F.2.1 d w)
theorem sim_i2l {x : Int32} (d : decode cc pc = .ok (.i2l, 1)) (k : Sim X cc nL ret own R ro mo (pc + 1) lo (pL (x.toInt64) :: st) μ ex) : Sim X cc nL ret own R ro mo pc lo (pI x :: st) μ ex :=
  sim_pure k (fun h _ => List.forall_mem_cons.mpr ⟨trivial, fun v hv => h v (List.mem_cons_of_mem _ hv)⟩) (fun _ _ _ _ _ _ _ _ _ _ _ _ _ _ _ _ _ F _ _ w => lv_i2l F.1 F.2.1 d rfl w)
theorem sim_i2b {x : Int32} (d : decode cc pc = .ok (.i2b, 1)) (k : Sim X cc nL ret own R ro mo (pc + 1) lo (pI (x.toInt8.toInt32) :: st) μ ex) : Sim X cc nL ret own R ro mo pc lo (pI x :: st) μ ex :=
  sim_pure k (fun h _ => List.forall_mem_cons.mpr ⟨trivial, fun v hv => h v (List.mem_cons_of_mem _ hv)⟩) (fun _ _ _ _ _ _ _ _ _ _ _ _ _ _ _ _ _ F _ _ w => lv_i2b F.1 F.2.1 d rfl w)
theorem sim_i2s {x : Int32} (d : decode cc pc = .ok (.i2s, 1)) (k : Sim X cc nL ret own R ro mo (pc + 1) lo (pI (x.toInt16.toInt32) :: st) μ ex) : Sim X cc nL ret own R ro mo pc lo (pI x :: st) μ ex :=
  sim_pure k (fun h _ => List.forall_mem_cons.mpr ⟨trivial, fun v hv => h v (List.mem_cons_of_mem _ hv)⟩) (fun _ _ _ _ _ _ _ _ _ _ _ _ _ _ _ _ _ F _ _ w => lv_i2s F.1 F.2.1 d rfl w)
/-- a guard: else the pure value is none -/
def gd {α : Type} (c : Bool) (a : Option α) : Option α := match c with
  | true => a
  | false => none
theorem sim_gd {c : Bool} (h : c = true → Sim X cc nL ret own R ro mo pc lo st μ a) : Sim X cc nL ret own R ro mo pc lo st μ (gd c a) := by
  cases c with
  | true => exact h rfl
  | false => exact sim_none
theorem sim_idiv {x y : Int32} (d : decode cc pc = .ok (.idiv, 1)) (k : Sim X cc nL ret own R ro mo (pc + 1) lo (pI (x / y) :: st) μ a) : Sim X cc nL ret own R ro mo pc lo (pI y :: pI x :: st) μ (gd (!(y == 0)) a) :=
  sim_gd fun hy => sim_pure k (fun h _ => List.forall_mem_cons.mpr ⟨trivial, fun v hv => h v (List.mem_cons_of_mem _ (List.mem_cons_of_mem _ hv))⟩) (fun _ _ _ _ _ _ _ _ _ _ _ _ _ _ _ _ _ F _ _ w => lv_idiv F.1 F.2.1 d (by simpa using hy) w)
theorem sim_irem {x y : Int32} (d : decode cc pc = .ok (.irem, 1)) (k : Sim X cc nL ret own R ro mo (pc + 1) lo (pI (x - x / y * y) :: st) μ a) : Sim X cc nL ret own R ro mo pc lo (pI y :: pI x :: st) μ (gd (!(y == 0)) a) :=
  sim_gd fun hy => sim_pure k (fun h _ => List.forall_mem_cons.mpr ⟨trivial, fun v hv => h v (List.mem_cons_of_mem _ (List.mem_cons_of_mem _ hv))⟩) (fun _ _ _ _ _ _ _ _ _ _ _ _ _ _ _ _ _ F _ _ w => lv_irem F.1 F.2.1 d (by simpa using hy) w)
theorem sim_dup {v : PV} (d : decode cc pc = .ok (.dup, 1)) (hc : pcat v = 1) (k : Sim X cc nL ret own R ro mo (pc + 1) lo (v :: v :: st) μ ex) : Sim X cc nL ret own R ro mo pc lo (v :: st) μ ex :=
  sim_pure k (fun h _ => List.forall_mem_cons.mpr ⟨h v List.mem_cons_self, h⟩) (fun G _ _ _ _ _ _ _ _ _ _ _ _ _ _ _ _ F _ _ w => lv_dup F.1 F.2.1 d ((emb_cat G v).trans hc) w)
theorem sim_dup2 {v u : PV} (d : decode cc pc = .ok (.dup2, 1)) (hc : pcat v = 1) (hu : pcat u = 1) (k : Sim X cc nL ret own R ro mo (pc + 1) lo (v :: u :: v :: u :: st) μ ex) : Sim X cc nL ret own R ro mo pc lo (v :: u :: st) μ ex :=
  sim_pure k (fun h _ => List.forall_mem_cons.mpr ⟨h v List.mem_cons_self, List.forall_mem_cons.mpr ⟨h u (List.mem_cons_of_mem _ List.mem_cons_self), h⟩⟩) (fun G _ _ _ _ _ _ _ _ _ _ _ _ _ _ _ _ F _ _ w => lv_dup2_11 F.1 F.2.1 d ((emb_cat G v).trans hc) ((emb_cat G u).trans hu) w)
theorem sim_pop {v : PV} (d : decode cc pc = .ok (.pop, 1)) (hc : pcat v = 1) (k : Sim X cc nL ret own R ro mo (pc + 1) lo st μ ex) : Sim X cc nL ret own R ro mo pc lo (v :: st) μ ex :=
  sim_pure k (fun h _ u hu => h u (List.mem_cons_of_mem _ hu)) (fun G _ _ _ _ _ _ _ _ _ _ _ _ _ _ _ _ F _ _ w => lv_pop F.1 F.2.1 d ((emb_cat G v).trans hc) w)
theorem sim_goto {off : Int} {tgt : Nat} (d : decode cc pc = .ok (.goto off, 3)) (ht : (pc : Int) + off = (tgt : Int)) (k : Sim X cc nL ret own R ro mo tgt lo st μ ex) : Sim X cc nL ret own R ro mo pc lo st μ ex :=
  sim_pure k (fun h _ => h) (fun _ _ _ _ _ _ _ _ _ _ _ _ _ _ _ _ _ F _ _ w => lv_goto F.1 F.2.1 d ht w)
theorem sim_if_eq {x : Int32} {off : Int} {tgt : Nat} (d : decode cc pc = .ok (.ifCond .eq off, 3)) (ht : (pc : Int) + off = (tgt : Int)) (kt : Sim X cc nL ret own R ro mo tgt lo st μ a) (kf : Sim X cc nL ret own R ro mo (pc + 3) lo st μ b) : Sim X cc nL ret own R ro mo pc lo (pI x :: st) μ (if x = 0 then a else b) := by
  intro t he G p l e s m args below meth c A cells slots Q F hcs hR H locs ls o1 o2 hP hD hS hl
  exact lv_if_eq F.1 F.2.1 d ht (fun hc => kt t (by rw [if_pos hc] at he; exact he) G p l e s m args below meth c A cells slots Q F hcs hR H locs ls o1 (fun v hv => o2 v (List.mem_cons_of_mem _ hv)) hP hD hS hl) (fun hc => kf t (by rw [if_neg hc] at he; exact he) G p l e s m args below meth c A cells slots Q F hcs hR H locs ls o1 (fun v hv => o2 v (List.mem_cons_of_mem _ hv)) hP hD hS hl)
theorem sim_if_lt {x : Int32} {off : Int} {tgt : Nat} (d : decode cc pc = .ok (.ifCond .lt off, 3)) (ht : (pc : Int) + off = (tgt : Int)) (kt : Sim X cc nL ret own R ro mo tgt lo st μ a) (kf : Sim X cc nL ret own R ro mo (pc + 3) lo st μ b) : Sim X cc nL ret own R ro mo pc lo (pI x :: st) μ (if x < 0 then a else b) := by
  intro t he G p l e s m args below meth c A cells slots Q F hcs hR H locs ls o1 o2 hP hD hS hl
  exact lv_if_lt F.1 F.2.1 d ht (fun hc => kt t (by rw [if_pos hc] at he; exact he) G p l e s m args below meth c A cells slots Q F hcs hR H locs ls o1 (fun v hv => o2 v (List.mem_cons_of_mem _ hv)) hP hD hS hl) (fun hc => kf t (by rw [if_neg hc] at he; exact he) G p l e s m args below meth c A cells slots Q F hcs hR H locs ls o1 (fun v hv => o2 v (List.mem_cons_of_mem _ hv)) hP hD hS hl)
theorem sim_if_ge {x : Int32} {off : Int} {tgt : Nat} (d : decode cc pc = .ok (.ifCond .ge off, 3)) (ht : (pc : Int) + off = (tgt : Int)) (kt : Sim X cc nL ret own R ro mo tgt lo st μ a) (kf : Sim X cc nL ret own R ro mo (pc + 3) lo st μ b) : Sim X cc nL ret own R ro mo pc lo (pI x :: st) μ (if 0 ≤ x then a else b) := by
  intro t he G p l e s m args below meth c A cells slots Q F hcs hR H locs ls o1 o2 hP hD hS hl
  exact lv_if_ge F.1 F.2.1 d ht (fun hc => kt t (by rw [if_pos hc] at he; exact he) G p l e s m args below meth c A cells slots Q F hcs hR H locs ls o1 (fun v hv => o2 v (List.mem_cons_of_mem _ hv)) hP hD hS hl) (fun hc => kf t (by rw [if_neg hc] at he; exact he) G p l e s m args below meth c A cells slots Q F hcs hR H locs ls o1 (fun v hv => o2 v (List.mem_cons_of_mem _ hv)) hP hD hS hl)
theorem sim_if_gt {x : Int32} {off : Int} {tgt : Nat} (d : decode cc pc = .ok (.ifCond .gt off, 3)) (ht : (pc : Int) + off = (tgt : Int)) (kt : Sim X cc nL ret own R ro mo tgt lo st μ a) (kf : Sim X cc nL ret own R ro mo (pc + 3) lo st μ b) : Sim X cc nL ret own R ro mo pc lo (pI x :: st) μ (if 0 < x then a else b) := by
  intro t he G p l e s m args below meth c A cells slots Q F hcs hR H locs ls o1 o2 hP hD hS hl
  exact lv_if_gt F.1 F.2.1 d ht (fun hc => kt t (by rw [if_pos hc] at he; exact he) G p l e s m args below meth c A cells slots Q F hcs hR H locs ls o1 (fun v hv => o2 v (List.mem_cons_of_mem _ hv)) hP hD hS hl) (fun hc => kf t (by rw [if_neg hc] at he; exact he) G p l e s m args below meth c A cells slots Q F hcs hR H locs ls o1 (fun v hv => o2 v (List.mem_cons_of_mem _ hv)) hP hD hS hl)
theorem sim_if_le {x : Int32} {off : Int} {tgt : Nat} (d : decode cc pc = .ok (.ifCond .le off, 3)) (ht : (pc : Int) + off = (tgt : Int)) (kt : Sim X cc nL ret own R ro mo tgt lo st μ a) (kf : Sim X cc nL ret own R ro mo (pc + 3) lo st μ b) : Sim X cc nL ret own R ro mo pc lo (pI x :: st) μ (if x ≤ 0 then a else b) := by
  intro t he G p l e s m args below meth c A cells slots Q F hcs hR H locs ls o1 o2 hP hD hS hl
  exact lv_if_le F.1 F.2.1 d ht (fun hc => kt t (by rw [if_pos hc] at he; exact he) G p l e s m args below meth c A cells slots Q F hcs hR H locs ls o1 (fun v hv => o2 v (List.mem_cons_of_mem _ hv)) hP hD hS hl) (fun hc => kf t (by rw [if_neg hc] at he; exact he) G p l e s m args below meth c A cells slots Q F hcs hR H locs ls o1 (fun v hv => o2 v (List.mem_cons_of_mem _ hv)) hP hD hS hl)
theorem sim_icmp_eq {x y : Int32} {off : Int} {tgt : Nat} (d : decode cc pc = .ok (.if_icmp .eq off, 3)) (ht : (pc : Int) + off = (tgt : Int)) (kt : Sim X cc nL ret own R ro mo tgt lo st μ a) (kf : Sim X cc nL ret own R ro mo (pc + 3) lo st μ b) : Sim X cc nL ret own R ro mo pc lo (pI y :: pI x :: st) μ (if x = y then a else b) := by
  intro t he G p l e s m args below meth c A cells slots Q F hcs hR H locs ls o1 o2 hP hD hS hl
  exact lv_icmp_eq F.1 F.2.1 d ht (fun hc => kt t (by rw [if_pos hc] at he; exact he) G p l e s m args below meth c A cells slots Q F hcs hR H locs ls o1 (fun v hv => o2 v (List.mem_cons_of_mem _ (List.mem_cons_of_mem _ hv))) hP hD hS hl) (fun hc => kf t (by rw [if_neg hc] at he; exact he) G p l e s m args below meth c A cells slots Q F hcs hR H locs ls o1 (fun v hv => o2 v (List.mem_cons_of_mem _ (List.mem_cons_of_mem _ hv))) hP hD hS hl)
theorem sim_icmp_lt {x y : Int32} {off : Int} {tgt : Nat} (d : decode cc pc = .ok (.if_icmp .lt off, 3)) (ht : (pc : Int) + off = (tgt : Int)) (kt : Sim X cc nL ret own R ro mo tgt lo st μ a) (kf : Sim X cc nL ret own R ro mo (pc + 3) lo st μ b) : Sim X cc nL ret own R ro mo pc lo (pI y :: pI x :: st) μ (if x < y then a else b) := by
  intro t he G p l e s m args below meth c A cells slots Q F hcs hR H locs ls o1 o2 hP hD hS hl
  exact lv_icmp_lt F.1 F.2.1 d ht (fun hc => kt t (by rw [if_pos hc] at he; exact he) G p l e s m args below meth c A cells slots Q F hcs hR H locs ls o1 (fun v hv => o2 v (List.mem_cons_of_mem _ (List.mem_cons_of_mem _ hv))) hP hD hS hl) (fun hc => kf t (by rw [if_neg hc] at he; exact he) G p l e s m args below meth c A cells slots Q F hcs hR H locs ls o1 (fun v hv => o2 v (List.mem_cons_of_mem _ (List.mem_cons_of_mem _ hv))) hP hD hS hl)
theorem sim_icmp_ge {x y : Int32} {off : Int} {tgt : Nat} (d : decode cc pc = .ok (.if_icmp .ge off, 3)) (ht : (pc : Int) + off = (tgt : Int)) (kt : Sim X cc nL ret own R ro mo tgt lo st μ a) (kf : Sim X cc nL ret own R ro mo (pc + 3) lo st μ b) : Sim X cc nL ret own R ro mo pc lo (pI y :: pI x :: st) μ (if y ≤ x then a else b) := by
  intro t he G p l e s m args below meth c A cells slots Q F hcs hR H locs ls o1 o2 hP hD hS hl
  exact lv_icmp_ge F.1 F.2.1 d ht (fun hc => kt t (by rw [if_pos hc] at he; exact he) G p l e s m args below meth c A cells slots Q F hcs hR H locs ls o1 (fun v hv => o2 v (List.mem_cons_of_mem _ (List.mem_cons_of_mem _ hv))) hP hD hS hl) (fun hc => kf t (by rw [if_neg hc] at he; exact he) G p l e s m args below meth c A cells slots Q F hcs hR H locs ls o1 (fun v hv => o2 v (List.mem_cons_of_mem _ (List.mem_cons_of_mem _ hv))) hP hD hS hl)
theorem sim_icmp_gt {x y : Int32} {off : Int} {tgt : Nat} (d : decode cc pc = .ok (.if_icmp .gt off, 3)) (ht : (pc : Int) + off = (tgt : Int)) (kt : Sim X cc nL ret own R ro mo tgt lo st μ a) (kf : Sim X cc nL ret own R ro mo (pc + 3) lo st μ b) : Sim X cc nL ret own R ro mo pc lo (pI y :: pI x :: st) μ (if y < x then a else b) := by
  intro t he G p l e s m args below meth c A cells slots Q F hcs hR H locs ls o1 o2 hP hD hS hl
  exact lv_icmp_gt F.1 F.2.1 d ht (fun hc => kt t (by rw [if_pos hc] at he; exact he) G p l e s m args below meth c A cells slots Q F hcs hR H locs ls o1 (fun v hv => o2 v (List.mem_cons_of_mem _ (List.mem_cons_of_mem _ hv))) hP hD hS hl) (fun hc => kf t (by rw [if_neg hc] at he; exact he) G p l e s m args below meth c A cells slots Q F hcs hR H locs ls o1 (fun v hv => o2 v (List.mem_cons_of_mem _ (List.mem_cons_of_mem _ hv))) hP hD hS hl)
theorem sim_icmp_le {x y : Int32} {off : Int} {tgt : Nat} (d : decode cc pc = .ok (.if_icmp .le off, 3)) (ht : (pc : Int) + off = (tgt : Int)) (kt : Sim X cc nL ret own R ro mo tgt lo st μ a) (kf : Sim X cc nL ret own R ro mo (pc + 3) lo st μ b) : Sim X cc nL ret own R ro mo pc lo (pI y :: pI x :: st) μ (if x ≤ y then a else b) := by
  intro t he G p l e s m args below meth c A cells slots Q F hcs hR H locs ls o1 o2 hP hD hS hl
  exact lv_icmp_le F.1 F.2.1 d ht (fun hc => kt t (by rw [if_pos hc] at he; exact he) G p l e s m args below meth c A cells slots Q F hcs hR H locs ls o1 (fun v hv => o2 v (List.mem_cons_of_mem _ (List.mem_cons_of_mem _ hv))) hP hD hS hl) (fun hc => kf t (by rw [if_neg hc] at he; exact he) G p l e s m args below meth c A cells slots Q F hcs hR H locs ls o1 (fun v hv => o2 v (List.mem_cons_of_mem _ (List.mem_cons_of_mem _ hv))) hP hD hS hl)
theorem sim_if_ne {x : Int32} {off : Int} {tgt : Nat} (d : decode cc pc = .ok (.ifCond .ne off, 3)) (ht : (pc : Int) + off = (tgt : Int)) (kf : Sim X cc nL ret own R ro mo (pc + 3) lo st μ a) (kt : Sim X cc nL ret own R ro mo tgt lo st μ b) : Sim X cc nL ret own R ro mo pc lo (pI x :: st) μ (if x = 0 then a else b) := by
  intro t he G p l e s m args below meth c A cells slots Q F hcs hR H locs ls o1 o2 hP hD hS hl
  exact lv_if_ne F.1 F.2.1 d ht (fun hc => kt t (by rw [if_neg hc] at he; exact he) G p l e s m args below meth c A cells slots Q F hcs hR H locs ls o1 (fun v hv => o2 v (List.mem_cons_of_mem _ hv)) hP hD hS hl) (fun hc => kf t (by rw [if_pos hc] at he; exact he) G p l e s m args below meth c A cells slots Q F hcs hR H locs ls o1 (fun v hv => o2 v (List.mem_cons_of_mem _ hv)) hP hD hS hl)
theorem sim_icmp_ne {x y : Int32} {off : Int} {tgt : Nat} (d : decode cc pc = .ok (.if_icmp .ne off, 3)) (ht : (pc : Int) + off = (tgt : Int)) (kf : Sim X cc nL ret own R ro mo (pc + 3) lo st μ a) (kt : Sim X cc nL ret own R ro mo tgt lo st μ b) : Sim X cc nL ret own R ro mo pc lo (pI y :: pI x :: st) μ (if x = y then a else b) := by
  intro t he G p l e s m args below meth c A cells slots Q F hcs hR H locs ls o1 o2 hP hD hS hl
  exact lv_icmp_ne F.1 F.2.1 d ht (fun hc => kt t (by rw [if_neg hc] at he; exact he) G p l e s m args below meth c A cells slots Q F hcs hR H locs ls o1 (fun v hv => o2 v (List.mem_cons_of_mem _ (List.mem_cons_of_mem _ hv))) hP hD hS hl) (fun hc => kf t (by rw [if_pos hc] at he; exact he) G p l e s m args below meth c A cells slots Q F hcs hR H locs ls o1 (fun v hv => o2 v (List.mem_cons_of_mem _ (List.mem_cons_of_mem _ hv))) hP hD hS hl)
end SimRows
end
section
abbrev ix (i : Int32) : Nat := i.toNatClampNeg
def inb (i : Int32) (n : Nat) : Bool := !(decide (i < 0) || decide (n ≤ i.toNatClampNeg))
theorem inb_in {i : Int32} {n : Nat} (h : inb i n = true) : vp_in i n := by
  unfold inb at h
  simp only [Bool.not_eq_true', Bool.or_eq_false_iff, decide_eq_false_iff_not] at h
  exact fun z => z.elim h.1 h.2
theorem inb_lt {i : Int32} {n : Nat} (h : inb i n = true) : ix i < n := by
  unfold inb at h
  simp only [Bool.not_eq_true', Bool.or_eq_false_iff, decide_eq_false_iff_not, Nat.not_le] at h
  exact h.2
def isb (v : Int32) : Bool := v == 0 || v == 1
theorem isb_nar {v : Int32} (h : isb v = true) : narrow .boolean (.int v) = .int v := by
  unfold isb at h
  simp only [Bool.or_eq_true, beq_iff_eq] at h
  rcases h with rfl | rfl <;> rfl
theorem pick_mem {l l' : List (Nat × PV)} {ks : List Nat} (h : ks.filterMap (fun q => l[q]?) = l') : ∀ q ∈ l', q ∈ l := by
  intro q hq
  rw [← h] at hq
  obtain ⟨k, -, hk⟩ := List.mem_filterMap.mp hq
  exact List.mem_of_getElem? hk
theorem pick_has {G : Gm} {ls : Array Slot} {nL : Nat} {l l' : List (Nat × PV)} {ks : List Nat} (h : ks.filterMap (fun q => l[q]?) = l') (hh : lv_has ls nL (l.map (fun q => (q.1, emb G q.2)))) : lv_has ls nL (l'.map (fun q => (q.1, emb G q.2))) := by
  refine ⟨hh.1, hh.2.1, fun q hq => ?_⟩
  obtain ⟨z, hz, rfl⟩ := List.mem_map.mp hq
  exact hh.2.2 _ (List.mem_map.mpr ⟨z, pick_mem h z hz, rfl⟩)
section SimMem
variable {τ : Type} {X : Sc} {cc : ByteArray} {nL : Nat} {ret : Option FieldType} {own : String} {R : Room} {ro : τ → Int32} {mo : τ → Mem} {pc : Nat} {lo : List (Nat × PV)} {st : List PV} {μ : Mem} {ex a b : Option τ}
/-- fewer locals, in any order -/
theorem sim_pick (lo' : List (Nat × PV)) (ks : List Nat) (h : ks.filterMap (fun q => lo[q]?) = lo') (k : Sim X cc nL ret own R ro mo pc lo' st μ ex) : Sim X cc nL ret own R ro mo pc lo st μ ex := by
  intro t he G p l e s m args below meth c A cells slots Q F hcs hR H locs ls o1 o2 hP hD hS hl
  exact k t he G p l e s m args below meth c A cells slots Q F hcs hR H locs ls (fun q hq => o1 q (pick_mem h q hq)) o2 hP hD hS (pick_has h hl)
theorem sim_istore {i : Nat} {x : Int32} {K : Int32 → Option τ} (lo' : Int32 → List (Nat × PV)) (ks : List Nat) (d : decode cc pc = .ok (.istore i, 2)) (hn : i < nL) (h : ∀ z, ks.filterMap (fun q => (sto lo i (pI z))[q]?) = lo' z) (k : ∀ z, Sim X cc nL ret own R ro mo (pc + 2) (lo' z) st μ (K z)) : Sim X cc nL ret own R ro mo pc lo (pI x :: st) μ (lt x K) := by
  intro t he G p l e s m args below meth c A cells slots Q F hcs hR H locs ls o1 o2 hP hD hS hl
  exact lv_istore F.1 F.2.1 d hl hn (sto_emb G lo i (pI x)) (fun ls' hl' => k x t he G p l e s m args below meth c A cells slots Q F hcs hR H locs ls' (fun q hq => sto_ok (v := pI x) o1 trivial q (pick_mem (h x) q hq)) (fun v hv => o2 v (List.mem_cons_of_mem _ hv)) hP hD hS (pick_has (h x) hl'))
theorem sim_istore_n {i : Fin 4} {x : Int32} {K : Int32 → Option τ} (lo' : Int32 → List (Nat × PV)) (ks : List Nat) (d : decode cc pc = .ok (.istore_n i, 1)) (hn : i.val < nL) (h : ∀ z, ks.filterMap (fun q => (sto lo i.val (pI z))[q]?) = lo' z) (k : ∀ z, Sim X cc nL ret own R ro mo (pc + 1) (lo' z) st μ (K z)) : Sim X cc nL ret own R ro mo pc lo (pI x :: st) μ (lt x K) := by
  intro t he G p l e s m args below meth c A cells slots Q F hcs hR H locs ls o1 o2 hP hD hS hl
  exact lv_istore_n F.1 F.2.1 d rfl hl hn (sto_emb G lo i.val (pI x)) (fun ls' hl' => k x t he G p l e s m args below meth c A cells slots Q F hcs hR H locs ls' (fun q hq => sto_ok (v := pI x) o1 trivial q (pick_mem (h x) q hq)) (fun v hv => o2 v (List.mem_cons_of_mem _ hv)) hP hD hS (pick_has (h x) hl'))
theorem sim_lstore {i : Nat} {x : Int64} {K : Int64 → Option τ} (lo' : Int64 → List (Nat × PV)) (ks : List Nat) (d : decode cc pc = .ok (.lstore i, 2)) (hn : i + 1 < nL) (h : ∀ z, ks.filterMap (fun q => (sto2 lo i (pL z))[q]?) = lo' z) (k : ∀ z, Sim X cc nL ret own R ro mo (pc + 2) (lo' z) st μ (K z)) : Sim X cc nL ret own R ro mo pc lo (pL x :: st) μ (lt x K) := by
  intro t he G p l e s m args below meth c A cells slots Q F hcs hR H locs ls o1 o2 hP hD hS hl
  exact lv_lstore F.1 F.2.1 d hl hn (sto2_emb G lo i (pL x)) (fun ls' hl' => k x t he G p l e s m args below meth c A cells slots Q F hcs hR H locs ls' (fun q hq => sto2_ok (v := pL x) o1 trivial q (pick_mem (h x) q hq)) (fun v hv => o2 v (List.mem_cons_of_mem _ hv)) hP hD hS (pick_has (h x) hl'))
theorem sim_astore {i : Nat} {r : Rf} (lo' : List (Nat × PV)) (ks : List Nat) (d : decode cc pc = .ok (.astore i, 2)) (hn : i < nL) (h : ks.filterMap (fun q => (sto lo i (.inr (.inr r)))[q]?) = lo') (k : Sim X cc nL ret own R ro mo (pc + 2) lo' st μ ex) : Sim X cc nL ret own R ro mo pc lo (.inr (.inr r) :: st) μ ex := by
  intro t he G p l e s m args below meth c A cells slots Q F hcs hR H locs ls o1 o2 hP hD hS hl
  exact lv_astore F.1 F.2.1 d hl hn (sto_emb G lo i (.inr (.inr r))) (fun ls' hl' => k t he G p l e s m args below meth c A cells slots Q F hcs hR H locs ls' (fun q hq => sto_ok o1 (o2 _ List.mem_cons_self) q (pick_mem h q hq)) (fun v hv => o2 v (List.mem_cons_of_mem _ hv)) hP hD hS (pick_has h hl'))
theorem sim_iinc {i : Nat} {n : Int} {x y : Int32} {K : Int32 → Option τ} (lo' : Int32 → List (Nat × PV)) (ks : List Nat) (d : decode cc pc = .ok (.iinc i n, 3)) (hx : lk lo i = some (pI x)) (hy : Int32.ofInt n = y) (hn : i < nL) (h : ∀ z, ks.filterMap (fun q => (sto lo i (pI z))[q]?) = lo' z) (k : ∀ z, Sim X cc nL ret own R ro mo (pc + 3) (lo' z) st μ (K z)) : Sim X cc nL ret own R ro mo pc lo st μ (lt (x + y) K) := by
  intro t he G p l e s m args below meth c A cells slots Q F hcs hR H locs ls o1 o2 hP hD hS hl
  subst hy
  obtain ⟨q9, hq9⟩ := List.mem_iff_getElem?.mp (lk_mem hx)
  exact lv_iinc (k := q9) (v := x + Int32.ofInt n) F.1 F.2.1 d hl (by rw [List.getElem?_map, hq9]; rfl) rfl hn (sto_emb G lo i (pI (x + Int32.ofInt n))) (fun ls' hl' => k _ t he G p l e s m args below meth c A cells slots Q F hcs hR H locs ls' (fun q hq => sto_ok (v := pI (x + Int32.ofInt n)) o1 trivial q (pick_mem (h _) q hq)) o2 hP hD hS (pick_has (h _) hl'))
/-- a field's link, and its class's words -/
def FL (own : String) (index c j : Nat) : Prop := ∃ (C : String) (T : u_T) (ty0 : Nat → FieldType), vwCl[c]? = some (C, T, nF c) ∧ j < nF c ∧ (∀ w ∈ u_ws C T (nF c), w ∈ lw_ok) ∧ Cond.fieldLink own index (T j).1 (T j).2.1 (T j).2.2.1 ∈ lw_ok ∧ (∀ k, k < nF c → parseFieldDescriptor (T k).2.2.1 = some (ty0 k)) ∧ (∀ a, a < nF c → ∀ b, b < nF c → a ≠ b → (T a).2.1 ≠ (T b).2.1)
/-- that a field may be written: not final, an int (or a boolean) -/
def FP (c j : Nat) (ty : FieldType) : Prop := c < 6 ∧ arT c j = none ∧ rfT c j = none ∧ ∀ (C : String) (T : u_T), vwCl[c]? = some (C, T, nF c) → (T j).2.2.2 = false ∧ parseFieldDescriptor (T j).2.2.1 = some ty
theorem sim_get {c k j index : Nat} {v : PV} (d : decode cc pc = .ok (.getfield index, 3)) (hf : FL own index c j) (hc6 : c < 6) (hv : fval (μ (c, k, 0)) c k j = v) (kk : Sim X cc nL ret own R ro mo (pc + 3) lo (v :: st) μ ex) : Sim X cc nL ret own R ro mo pc lo (pR c k 0 :: st) μ ex := by
  intro t he G p l e s m args below meth cd A cells slots Q F hcs hR H locs ls o1 o2 hP hD hS hl
  obtain ⟨C, T, ty0, h1, h2, h3, h4, h5, h6⟩ := hf
  have hid : (c, k, 0) ∈ ids := ids_of (o2 _ List.mem_cons_self) hc6
  obtain ⟨q, hq, hw⟩ := ws_at hid
  have hk := ok_fval hid rfl h2 (μ (c, k, 0))
  refine va_get (D := G.1) (v := emb G v) F.1 F.2.1 F.2.2.2.2.1 h3 F.2.2.2.1 F.2.2.2.2.2.2.1 hP q (hw G μ) h1 j h2 (F.2.2.2.2.1 _ h4) (fun _ h9 => h9) ?_ d (kk t he G p l e s m args below meth cd A cells slots Q F hcs hR H locs ls o1 (List.forall_mem_cons.mpr ⟨by rw [← hv]; exact hk, fun u hu => o2 u (List.mem_cons_of_mem _ hu)⟩) hP hD hS hl)
  rw [← hv]
  simp [h2]
theorem cell_put (G : Gm) {c k j : Nat} {x : Int32} (f : Nat → Int32) (hj : j < nF c) (ha : arT c j = none) (hr : rfT c j = none) : ((List.range (nF c)).map (fun i => emb G (fval f c k i))).set j (.int x) = (List.range (nF c)).map (fun i => emb G (fval (upd f j x) c k i)) := by
  apply List.ext_getElem?
  intro i
  rw [List.getElem?_set]
  by_cases h : j = i
  · subst h
    rw [if_pos rfl, if_pos (by simp [hj])]
    simp [hj, fval, ha, hr, upd, emb]
  · rw [if_neg h]
    simp only [List.getElem?_map]
    cases hi : (List.range (nF c))[i]? with
    | none => rfl
    | some i' =>
      have e : i' = i := by
        obtain ⟨h1, h2⟩ := List.getElem?_eq_some_iff.mp hi
        simpa using h2.symm
      subst e
      have : fval (upd f j x) c k i' = fval f c k i' := by
        unfold fval
        rw [show upd f j x i' = f i' from if_neg (fun z => h z.symm)]
      rw [Option.map_some, Option.map_some, this]
theorem sim_put {c k j index : Nat} {x : Int32} {ty : FieldType} {K : Mem → Option τ} (d : decode cc pc = .ok (.putfield index, 3)) (hf : FL own index c j) (hp : FP c j ty) (hn : narrow ty (.int x) = .int x) (hfit : fits ty (.int x) = true) (kk : ∀ μ', Sim X cc nL ret own R ro mo (pc + 3) lo st μ' (K μ')) : Sim X cc nL ret own R ro mo pc lo (pI x :: pR c k 0 :: st) μ (lt (wr μ (c, k, 0) j x) K) := by
  intro t he G p l e s m args below meth cd A cells slots Q F hcs hR H locs ls o1 o2 hP hD hS hl
  obtain ⟨C, T, ty0, h1, h2, h3, h4, h5, h6⟩ := hf
  obtain ⟨hc6, ha, hr, hfin⟩ := hp
  obtain ⟨g1, g2⟩ := hfin C T h1
  have hid : (c, k, 0) ∈ ids := ids_of (o2 _ (List.mem_cons_of_mem _ List.mem_cons_self)) hc6
  obtain ⟨q, hq, hw⟩ := ws_at hid
  refine va_put (D := G.1) (v := .int x) (ty := ty) F.1 F.2.1 F.2.2.2.2.1 h3 ty0 h5 h6 F.2.2.2.1 F.2.2.2.2.2.2.1 hP hD hS q (hw G μ) h1 j h2 (F.2.2.2.2.1 _ h4) (fun _ h9 => h9) g1 g2 hn hfit (by simp [h2]) d (fun H1 locs1 hP1 hD1 hS1 => ?_)
  have e9 : (wsO G μ).set q (G.2.1 (c, k, 0), .inr (c, ((List.range (nF c)).map (fun i => emb G (fval (μ (c, k, 0)) c k i))).set j (.int x))) = wsO G (wr μ (c, k, 0) j x) := by
    rw [cell_put G (μ (c, k, 0)) h2 ha hr]
    exact ws_set G μ hq (upd (μ (c, k, 0)) j x)
  have hP2 : va_P G.1 vwCl (wsO G (wr μ (c, k, 0) j x)) H1 := e9 ▸ hP1
  have hD2 : va_D A (wsO G (wr μ (c, k, 0) j x)) := e9 ▸ hD1
  exact kk _ t he G p l e s m args below meth cd A cells slots Q F hcs hR H1 locs1 ls o1 (fun v hv => o2 v (List.mem_cons_of_mem _ (List.mem_cons_of_mem _ hv))) hP2 hD2 hS1 hl
theorem cell_arr (G : Gm) {c k j ty n : Nat} (f : Nat → Int32) (ha : arT c j = some (ty, n)) (ht : ty < 3) : cellR G (c, k, j + 1) f = .inl (G.2.2 ty, n, .inl f) := by
  simp [cellR, ha, ht]
theorem sim_iald {c k j n : Nat} {i : Int32} (d : decode cc pc = .ok (.iaload, 1)) (ha : arT c j = some (0, n)) (hc6 : c < 6) (kk : Sim X cc nL ret own R ro mo (pc + 1) lo (pI (μ (c, k, j + 1) (ix i)) :: st) μ a) : Sim X cc nL ret own R ro mo pc lo (pI i :: pR c k (j + 1) :: st) μ (gd (inb i n) a) := by
  refine sim_gd fun hi => ?_
  intro t he G p l e s m args below meth cd A cells slots Q F hcs hR H locs ls o1 o2 hP hD hS hl
  have hid : (c, k, j + 1) ∈ ids := ids_of (o2 _ (List.mem_cons_of_mem _ List.mem_cons_self)) hc6
  obtain ⟨q, hq, hw⟩ := ws_at hid
  exact va_iald (D := G.1) F.1 F.2.1 F.2.2.2.2.2.2.1 hP q 0 (by rw [hw G μ, cell_arr G _ ha (by decide)]) rfl (inb_in hi) d (kk t he G p l e s m args below meth cd A cells slots Q F hcs hR H locs ls o1 (List.forall_mem_cons.mpr ⟨trivial, fun u hu => o2 u (List.mem_cons_of_mem _ (List.mem_cons_of_mem _ hu))⟩) hP hD hS hl)
theorem sim_zald {c k j n : Nat} {i : Int32} (d : decode cc pc = .ok (.baload, 1)) (ha : arT c j = some (1, n)) (hc6 : c < 6) (kk : Sim X cc nL ret own R ro mo (pc + 1) lo (pI (μ (c, k, j + 1) (ix i)) :: st) μ a) : Sim X cc nL ret own R ro mo pc lo (pI i :: pR c k (j + 1) :: st) μ (gd (inb i n) a) := by
  refine sim_gd fun hi => ?_
  intro t he G p l e s m args below meth cd A cells slots Q F hcs hR H locs ls o1 o2 hP hD hS hl
  have hid : (c, k, j + 1) ∈ ids := ids_of (o2 _ (List.mem_cons_of_mem _ List.mem_cons_self)) hc6
  obtain ⟨q, hq, hw⟩ := ws_at hid
  exact va_zald (D := G.1) F.1 F.2.1 F.2.2.2.2.2.2.1 hP q 1 (by rw [hw G μ, cell_arr G _ ha (by decide)]) rfl (inb_in hi) d (kk t he G p l e s m args below meth cd A cells slots Q F hcs hR H locs ls o1 (List.forall_mem_cons.mpr ⟨trivial, fun u hu => o2 u (List.mem_cons_of_mem _ (List.mem_cons_of_mem _ hu))⟩) hP hD hS hl)
theorem sim_bald {c k j n : Nat} {i : Int32} (d : decode cc pc = .ok (.baload, 1)) (ha : arT c j = some (2, n)) (hc6 : c < 6) (kk : Sim X cc nL ret own R ro mo (pc + 1) lo (pI (μ (c, k, j + 1) (ix i)) :: st) μ a) : Sim X cc nL ret own R ro mo pc lo (pI i :: pR c k (j + 1) :: st) μ (gd (inb i n) a) := by
  refine sim_gd fun hi => ?_
  intro t he G p l e s m args below meth cd A cells slots Q F hcs hR H locs ls o1 o2 hP hD hS hl
  have hid : (c, k, j + 1) ∈ ids := ids_of (o2 _ (List.mem_cons_of_mem _ List.mem_cons_self)) hc6
  obtain ⟨q, hq, hw⟩ := ws_at hid
  exact va_bald (D := G.1) F.1 F.2.1 F.2.2.2.2.2.2.1 hP q 2 (by rw [hw G μ, cell_arr G _ ha (by decide)]) rfl (inb_in hi) d (kk t he G p l e s m args below meth cd A cells slots Q F hcs hR H locs ls o1 (List.forall_mem_cons.mpr ⟨trivial, fun u hu => o2 u (List.mem_cons_of_mem _ (List.mem_cons_of_mem _ hu))⟩) hP hD hS hl)
theorem ws_put (G : Gm) (μ : Mem) {c k j ty n q : Nat} (ha : arT c j = some (ty, n)) (ht : ty < 3) (hq : ids[q]? = some (c, k, j + 1)) (g : Nat → Int32) : (wsO G μ).set q (G.2.1 (c, k, j + 1), .inl (G.2.2 ty, n, .inl g)) = wsO G (sr μ (c, k, j + 1) g) := by
  rw [← cell_arr G g ha ht]
  exact ws_set G μ hq g
theorem sim_iast {c k j n : Nat} {i x : Int32} {K : Mem → Option τ} (d : decode cc pc = .ok (.iastore, 1)) (ha : arT c j = some (0, n)) (hc6 : c < 6) (kk : ∀ μ', Sim X cc nL ret own R ro mo (pc + 1) lo st μ' (K μ')) : Sim X cc nL ret own R ro mo pc lo (pI x :: pI i :: pR c k (j + 1) :: st) μ (gd (inb i n) (lt (wr μ (c, k, j + 1) (ix i) x) K)) := by
  refine sim_gd fun hi => ?_
  intro t he G p l e s m args below meth cd A cells slots Q F hcs hR H locs ls o1 o2 hP hD hS hl
  have hid : (c, k, j + 1) ∈ ids := ids_of (o2 _ (List.mem_cons_of_mem _ (List.mem_cons_of_mem _ List.mem_cons_self))) hc6
  obtain ⟨q, hq, hw⟩ := ws_at hid
  refine va_iast (D := G.1) (x := x) F.1 F.2.1 F.2.2.2.2.2.2.1 hP hD hS q 0 (by rw [hw G μ, cell_arr G _ ha (by decide)]) rfl (inb_in hi) d (fun H1 locs1 hP1 hD1 hS1 => ?_)
  rw [ws_put G μ ha (by decide) hq] at hP1 hD1
  exact kk _ t he G p l e s m args below meth cd A cells slots Q F hcs hR H1 locs1 ls o1 (fun v hv => o2 v (List.mem_cons_of_mem _ (List.mem_cons_of_mem _ (List.mem_cons_of_mem _ hv)))) hP1 hD1 hS1 hl
theorem sim_zast {c k j n : Nat} {i x : Int32} {K : Mem → Option τ} (d : decode cc pc = .ok (.bastore, 1)) (ha : arT c j = some (1, n)) (hc6 : c < 6) (kk : ∀ μ', Sim X cc nL ret own R ro mo (pc + 1) lo st μ' (K μ')) : Sim X cc nL ret own R ro mo pc lo (pI x :: pI i :: pR c k (j + 1) :: st) μ (gd (inb i n) (lt (wr μ (c, k, j + 1) (ix i) (vp_nar .boolean x)) K)) := by
  refine sim_gd fun hi => ?_
  intro t he G p l e s m args below meth cd A cells slots Q F hcs hR H locs ls o1 o2 hP hD hS hl
  have hid : (c, k, j + 1) ∈ ids := ids_of (o2 _ (List.mem_cons_of_mem _ (List.mem_cons_of_mem _ List.mem_cons_self))) hc6
  obtain ⟨q, hq, hw⟩ := ws_at hid
  refine va_zast (D := G.1) (x := x) F.1 F.2.1 F.2.2.2.2.2.2.1 hP hD hS q 1 (by rw [hw G μ, cell_arr G _ ha (by decide)]) rfl (inb_in hi) d (fun H1 locs1 hP1 hD1 hS1 => ?_)
  rw [ws_put G μ ha (by decide) hq] at hP1 hD1
  exact kk _ t he G p l e s m args below meth cd A cells slots Q F hcs hR H1 locs1 ls o1 (fun v hv => o2 v (List.mem_cons_of_mem _ (List.mem_cons_of_mem _ (List.mem_cons_of_mem _ hv)))) hP1 hD1 hS1 hl
theorem sim_bast {c k j n : Nat} {i x : Int32} {K : Mem → Option τ} (d : decode cc pc = .ok (.bastore, 1)) (ha : arT c j = some (2, n)) (hc6 : c < 6) (kk : ∀ μ', Sim X cc nL ret own R ro mo (pc + 1) lo st μ' (K μ')) : Sim X cc nL ret own R ro mo pc lo (pI x :: pI i :: pR c k (j + 1) :: st) μ (gd (inb i n) (lt (wr μ (c, k, j + 1) (ix i) (vp_nar .byte x)) K)) := by
  refine sim_gd fun hi => ?_
  intro t he G p l e s m args below meth cd A cells slots Q F hcs hR H locs ls o1 o2 hP hD hS hl
  have hid : (c, k, j + 1) ∈ ids := ids_of (o2 _ (List.mem_cons_of_mem _ (List.mem_cons_of_mem _ List.mem_cons_self))) hc6
  obtain ⟨q, hq, hw⟩ := ws_at hid
  refine va_bast (D := G.1) (x := x) F.1 F.2.1 F.2.2.2.2.2.2.1 hP hD hS q 2 (by rw [hw G μ, cell_arr G _ ha (by decide)]) rfl (inb_in hi) d (fun H1 locs1 hP1 hD1 hS1 => ?_)
  rw [ws_put G μ ha (by decide) hq] at hP1 hD1
  exact kk _ t he G p l e s m args below meth cd A cells slots Q F hcs hR H1 locs1 ls o1 (fun v hv => o2 v (List.mem_cons_of_mem _ (List.mem_cons_of_mem _ (List.mem_cons_of_mem _ hv)))) hP1 hD1 hS1 hl
theorem ids_el3 : ∀ i, i < 2 → (0, 2 + i, 0) ∈ idsX := by decide +kernel
theorem ids_el4 : ∀ i, i < 4 → (3, i, 0) ∈ idsX := by decide +kernel
/-- an image -/
theorem sim_aald3 {k : Nat} {i : Int32} (d : decode cc pc = .ok (.aaload, 1)) (kk : Sim X cc nL ret own R ro mo (pc + 1) lo (pR 0 (2 + ix i) 0 :: st) μ a) : Sim X cc nL ret own R ro mo pc lo (pI i :: pR 4 k 3 :: st) μ (gd (inb i 2) a) := by
  refine sim_gd fun hi => ?_
  intro t he G p l e s m args below meth cd A cells slots Q F hcs hR H locs ls o1 o2 hP hD hS hl
  have hid : (4, k, 3) ∈ ids := ids_of (o2 _ (List.mem_cons_of_mem _ List.mem_cons_self)) (Nat.le_of_ble_eq_true rfl)
  obtain ⟨q, hq, hw⟩ := ws_at hid
  refine va_aldq (D := G.1) (C := "LineDispatch$Line") (n := 2) (f := fun i => some (G.2.1 (elR 3 i))) F.1 F.2.1 F.2.2.2.2.2.2.1 hP q 3 ?_ rfl (inb_in hi) d ?_
  · rw [hw G μ]; rfl
  · exact kk t he G p l e s m args below meth cd A cells slots Q F hcs hR H locs ls o1 (List.forall_mem_cons.mpr ⟨ids_el3 _ (inb_lt hi), fun u hu => o2 u (List.mem_cons_of_mem _ (List.mem_cons_of_mem _ hu))⟩) hP hD hS hl
/-- a sheet -/
theorem sim_aald4 {k : Nat} {i : Int32} (d : decode cc pc = .ok (.aaload, 1)) (kk : Sim X cc nL ret own R ro mo (pc + 1) lo (pR 3 (ix i) 0 :: st) μ a) : Sim X cc nL ret own R ro mo pc lo (pI i :: pR 4 k 5 :: st) μ (gd (inb i 4) a) := by
  refine sim_gd fun hi => ?_
  intro t he G p l e s m args below meth cd A cells slots Q F hcs hR H locs ls o1 o2 hP hD hS hl
  have hid : (4, k, 5) ∈ ids := ids_of (o2 _ (List.mem_cons_of_mem _ List.mem_cons_self)) (Nat.le_of_ble_eq_true rfl)
  obtain ⟨q, hq, hw⟩ := ws_at hid
  refine va_aldq (D := G.1) (C := "LineDispatch$Sheet") (n := 4) (f := fun i => some (G.2.1 (elR 4 i))) F.1 F.2.1 F.2.2.2.2.2.2.1 hP q 4 ?_ rfl (inb_in hi) d ?_
  · rw [hw G μ]; rfl
  · exact kk t he G p l e s m args below meth cd A cells slots Q F hcs hR H locs ls o1 (List.forall_mem_cons.mpr ⟨ids_el4 _ (inb_lt hi), fun u hu => o2 u (List.mem_cons_of_mem _ (List.mem_cons_of_mem _ hu))⟩) hP hD hS hl
theorem sim_alen {c k j ty n : Nat} {v : Int32} (d : decode cc pc = .ok (.arraylength, 1)) (ha : arT c j = some (ty, n)) (ht : ty < 3) (hc6 : c < 6) (hv : Int32.ofNat n = v) (kk : Sim X cc nL ret own R ro mo (pc + 1) lo (pI v :: st) μ ex) : Sim X cc nL ret own R ro mo pc lo (pR c k (j + 1) :: st) μ ex := by
  intro t he G p l e s m args below meth cd A cells slots Q F hcs hR H locs ls o1 o2 hP hD hS hl
  have hid : (c, k, j + 1) ∈ ids := ids_of (o2 _ List.mem_cons_self) hc6
  obtain ⟨q, hq, hw⟩ := ws_at hid
  have ht2 : ∃ fty, (tysO G)[ty]? = some (G.2.2 ty, fty) := by
    match ty, ht with
    | 0, _ => exact ⟨_, rfl⟩
    | 1, _ => exact ⟨_, rfl⟩
    | 2, _ => exact ⟨_, rfl⟩
  obtain ⟨fty, hfty⟩ := ht2
  exact va_alen (D := G.1) F.1 F.2.1 F.2.2.2.2.2.2.1 hP q ty (by rw [hw G μ, cell_arr G _ ha ht]) hfty hv d (kk t he G p l e s m args below meth cd A cells slots Q F hcs hR H locs ls o1 (List.forall_mem_cons.mpr ⟨trivial, fun u hu => o2 u (List.mem_cons_of_mem _ hu)⟩) hP hD hS hl)
/-- the script -/
theorem sim_slen (d : decode cc pc = .ok (.arraylength, 1)) (kk : Sim X cc nL ret own R ro mo (pc + 1) lo (pI (Int32.ofNat X.1) :: st) μ ex) : Sim X cc nL ret own R ro mo pc lo (pR 8 0 0 :: st) μ ex := by
  intro t he G p l e s m args below meth cd A cells slots Q F hcs hR H locs ls o1 o2 hP hD hS hl
  obtain ⟨-, -, -, -, -, -, x1, x2, x3⟩ := F.2.2.2.2.2.2.2
  exact va_slen F.1 F.2.1 x1 x2 x3 hS d (kk t he G p l e s m args below meth cd A cells slots Q F hcs hR H locs ls o1 (List.forall_mem_cons.mpr ⟨trivial, fun u hu => o2 u (List.mem_cons_of_mem _ hu)⟩) hP hD hS hl)
theorem sim_sld {i : Int32} (d : decode cc pc = .ok (.iaload, 1)) (kk : Sim X cc nL ret own R ro mo (pc + 1) lo (pI (X.2 (ix i)) :: st) μ a) : Sim X cc nL ret own R ro mo pc lo (pI i :: pR 8 0 0 :: st) μ (gd (inb i X.1) a) := by
  refine sim_gd fun hi => ?_
  intro t he G p l e s m args below meth cd A cells slots Q F hcs hR H locs ls o1 o2 hP hD hS hl
  obtain ⟨-, -, -, -, -, -, x1, x2, x3⟩ := F.2.2.2.2.2.2.2
  exact va_sld F.1 F.2.1 x1 x2 x3 hS (inb_in hi) d (kk t he G p l e s m args below meth cd A cells slots Q F hcs hR H locs ls o1 (List.forall_mem_cons.mpr ⟨trivial, fun u hu => o2 u (List.mem_cons_of_mem _ (List.mem_cons_of_mem _ hu))⟩) hP hD hS hl)
/-- the static row of the postures' weights -/
theorem sim_unit {index : Nat} (d : decode cc pc = .ok (.getstatic index, 3)) (hk : Cond.fieldLink own index "LineDispatch$Postures" "UNIT" "[I" ∈ lw_ok) (kk : Sim X cc nL ret own R ro mo (pc + 3) lo (pR 7 0 0 :: st) μ ex) : Sim X cc nL ret own R ro mo pc lo st μ ex := by
  intro t he G p l e s m args below meth cd A cells slots Q F hcs hR H locs ls o1 o2 hP hD hS hl
  exact va_gets F.1 F.2.1 F.2.2.2.2.2.2.2.1 hS F.2.2.2.1 (F.2.2.2.2.1 _ hk) (fun _ h9 => h9) d (kk t he G p l e s m args below meth cd A cells slots Q F hcs hR H locs ls o1 (List.forall_mem_cons.mpr ⟨List.mem_append_right _ (by decide), o2⟩) hP hD hS hl)
theorem sim_uld {i : Int32} (d : decode cc pc = .ok (.iaload, 1)) (kk : Sim X cc nL ret own R ro mo (pc + 1) lo (pI (unitV (ix i)) :: st) μ a) : Sim X cc nL ret own R ro mo pc lo (pI i :: pR 7 0 0 :: st) μ (gd (inb i 4) a) := by
  refine sim_gd fun hi => ?_
  intro t he G p l e s m args below meth cd A cells slots Q F hcs hR H locs ls o1 o2 hP hD hS hl
  exact va_ti F.1 F.2.1 F.2.2.2.2.2.2.2.2.1 hS (inb_in hi) rfl d (kk t he G p l e s m args below meth cd A cells slots Q F hcs hR H locs ls o1 (List.forall_mem_cons.mpr ⟨trivial, fun u hu => o2 u (List.mem_cons_of_mem _ (List.mem_cons_of_mem _ hu))⟩) hP hD hS hl)
/-- ends -/
theorem sim_iret {v : Int32} {t : τ} (d : decode cc pc = .ok (.ireturn, 1)) (hr : ro t = v) (hm : mo t = μ) : Sim X cc nL (some .int) own R ro mo pc lo (pI v :: []) μ (some t) := by
  intro t' he G p l e s m args below meth cd A cells slots Q F hcs hR H locs ls o1 o2 hP hD hS hl
  cases he
  subst hr; subst hm
  exact hR H locs ls pc d (fun ty h => by cases h; rfl) hP hD hS
theorem sim_zret {v : Int32} {t : τ} (d : decode cc pc = .ok (.ireturn, 1)) (hb : isb v = true) (hr : ro t = v) (hm : mo t = μ) : Sim X cc nL (some .boolean) own R ro mo pc lo (pI v :: []) μ (some t) := by
  intro t' he G p l e s m args below meth cd A cells slots Q F hcs hR H locs ls o1 o2 hP hD hS hl
  cases he
  subst hr; subst hm
  exact hR H locs ls pc d (fun ty h => by cases h; exact isb_nar hb) hP hD hS
theorem sim_zretg {v : Int32} {t : τ} (d : decode cc pc = .ok (.ireturn, 1)) (hr : ro t = v) (hm : mo t = μ) : Sim X cc nL (some .boolean) own R ro mo pc lo (pI v :: []) μ (gd (isb v) (some t)) :=
  sim_gd fun hb => sim_zret d hb hr hm
theorem sim_ret {t : τ} (d : decode cc pc = .ok (.return_, 1)) (hm : mo t = μ) : Sim X cc nL none own R ro mo pc lo [] μ (some t) := by
  intro t' he G p l e s m args below meth cd A cells slots Q F hcs hR H locs ls o1 o2 hP hD hS hl
  cases he
  subst hm
  exact hR H locs ls pc d (fun ty h => by cases h) hP hD hS
end SimMem
end
section
/-- the locals at a method's entry -/
def parg : Nat → List PV → List (Nat × PV)
  | _, [] => []
  | i, v :: vs => (i, v) :: parg (if pcat v = 2 then i + 2 else i + 1) vs
def psz : List PV → Nat
  | [] => 0
  | v :: vs => pcat v + psz vs
theorem parg_emb (G : Gm) : ∀ (vs : List PV) (i : Nat), lv_args i (vs.map (emb G)) = (parg i vs).map (fun q => (q.1, emb G q.2))
  | [], i => rfl
  | v :: vs, i => by
    show (i, emb G v) :: lv_args (if (emb G v).category = 2 then i + 2 else i + 1) (vs.map (emb G)) = _
    rw [emb_cat, parg_emb G vs]
    rfl
theorem psz_emb (G : Gm) : ∀ (vs : List PV), (lg_sl (vs.map (emb G))).length = psz vs
  | [] => rfl
  | v :: vs => by
    have ih := psz_emb G vs
    unfold lg_sl at ih ⊢
    rw [List.map_cons, List.flatMap_cons, List.length_append, ih, emb_cat]
    rcases v with x | x | x <;> rfl
theorem parg_ok : ∀ {vs : List PV} {i : Nat}, (∀ v ∈ vs, okV v) → ∀ q ∈ parg i vs, okV q.2
  | [], i, h, q, hq => by cases hq
  | v :: vs, i, h, q, hq => by
    rcases List.mem_cons.mp hq with rfl | hq
    · exact h v List.mem_cons_self
    · exact parg_ok (fun u hu => h u (List.mem_cons_of_mem _ hu)) q hq
/-- a method's start: arguments, the pool, what lies outside it -/
def Po (G : Gm) (X : Sc) (vs : List PV) (μ : Mem) (sz : Nat) : Array Value → State → Prop := va_Pc (vs.map (emb G)) (fun U => U.heap.size = sz ∧ va_P G.1 vwCl (wsO G μ) U.heap ∧ va_K G.1 vwCl (tysO G) U ∧ va_D (fun _ => True) (wsO G μ) ∧ Xt G X (va_A (wsO G μ) sz) U U.heap)
/-- its end -/
def Qo (ret : Option FieldType) (G : Gm) (A : Nat → Prop) (r : Int32) (μ' : Mem) : Array Value → State → Outcome → State → Prop := match ret with
  | none => va_Qv (fun _ : Unit => True) (fun _ t => va_P G.1 vwCl (wsO G μ') t.heap ∧ va_D A (wsO G μ')) A
  | some _ => va_Qi (fun (x : Int32) (_ : Unit) => x = r) (fun _ t => va_P G.1 vwCl (wsO G μ') t.heap ∧ va_D A (wsO G μ')) A
theorem met_of_sim {τ : Type} {X : Sc} {y : MethodName} {cc : ByteArray} {nL : Nat} {ret : Option FieldType} {R : Room} {ro : τ → Int32} {mo : τ → Mem} {vs : List PV} {μ : Mem} {ex : Option τ} {t : τ} (hy : plainName y.cls = true) (hR0 : R.cells = 0 ∧ R.slots = 0) (hsz : psz vs ≤ nL)
    (S : Sim X cc nL ret y.cls R ro mo 0 (parg 0 vs) [] μ ex) (he : ex = some t) (hok : ∀ v ∈ vs, okV v) (l : Launch) (G : Gm) (sz : Nat) :
    Met l y (.code y cc nL ret :: lw_ok) R (Po G X vs μ sz) (Qo ret G (va_A (wsO G μ) sz) (ro t) (mo t)) 0 0 (va_A (wsO G μ) sz) := by
  refine Met.ofW (cc := cc) (maxL := nL) (ret := ret) hy rfl ?_
  intro p e s m args below meth c s₁ B hml hv
  obtain ⟨rfl, rfl, hP, hK, hD0, hX⟩ := hv
  have hts := atoms_spec (ws := Cond.code y cc nL ret :: lw_ok) B.pre
  have hown : s.vm.findClass y.cls = some m.cls := findClass_of_methodNamed B.named
  have hr := B.returns
  have hlocks := B.notSynchronized
  have hD := hD0.self (sz := s.heap.size)
  rw [lg_entry_eq]
  have hl := lv_entry (vs.map (emb G)) (n := nL) (by rw [psz_emb]; exact hsz)
  rw [parg_emb] at hl
  refine S t he G p l e s m (vs.map (emb G)).toArray below meth c (va_A (wsO G μ) s.heap.size) 0 0 _ ⟨B.exec, B.bytes, hml, hown, fun w hw => hts w (List.mem_cons_of_mem _ hw), fun q hq => Or.inr hq, hK, hX⟩ ⟨Nat.zero_le _, Nat.zero_le _⟩ ?_ s.heap [] _ (parg_ok hok) (fun v hv => by cases hv) hP hD va_S.rf hl
  intro H1 locs1 ls1 pc1 d hn hP1 hD1 hS1
  cases ret with
  | none => exact W.vret B.exec B.bytes hr (fun t' ht hW => ⟨⟨(), rfl, trivial, by rw [ht]; exact hP1, hD1⟩, hS1.F ht⟩) hS1.2.2 d hlocks
  | some ty => exact W.zret B.exec B.bytes hr (hn ty rfl) (fun t' ht hW => ⟨⟨ro t, (), rfl, rfl, by rw [ht]; exact hP1, hD1⟩, hS1.F ht⟩) hS1.2.2 d hlocks
/-- what the tables say of a method that is called -/
def MeV (y : MethodName) (cc : ByteArray) (nL : Nat) (ret : Option FieldType) (n : Nat) : Prop := Cond.instanceMethod y ∈ lw_ok ∧ Cond.selects y.cls y y ∈ lw_ok ∧ Cond.initialized y.cls ∈ lw_ok ∧ Cond.code y cc nL ret ∈ lw_ok ∧ (y.cls ≠ "java/lang/invoke/MethodHandle" ∧ y.cls ≠ "java/lang/invoke/VarHandle" ∧ (parseMethodDescriptor y.desc).map (fun d => d.parameters.length) = some n) ∧ plainName y.cls = true
def MeS (y : MethodName) (cc : ByteArray) (nL : Nat) (ret : Option FieldType) (n : Nat) : Prop := Cond.static y ∈ lw_ok ∧ Cond.initialized y.cls ∈ lw_ok ∧ Cond.code y cc nL ret ∈ lw_ok ∧ (y.cls ≠ "java/lang/invoke/MethodHandle" ∧ y.cls ≠ "java/lang/invoke/VarHandle" ∧ (parseMethodDescriptor y.desc).map (fun d => d.parameters.length) = some n) ∧ plainName y.cls = true
theorem ok_self {w : Cond} (h : w ∈ lw_ok) : w ∈ lw_ok ∧ ((w.onTables && w.keeps) = true ∨ ∃ ty, w = .arrayClass ty) := ⟨h, good_of_word (List.mem_filter.mp h).2⟩
theorem ok_V {own : String} {idx : Nat} {y : MethodName} {cc : ByteArray} {nL : Nat} {ret : Option FieldType} {n : Nat} (hl : Cond.methodLink own idx y ∈ lw_ok) (h : MeV y cc nL ret n) : GoodIn lw_ok (wsV own idx y.cls y (.code y cc nL ret :: lw_ok)) := by
  obtain ⟨h1, h2, h3, h4, -⟩ := h
  intro w hw
  simp only [wsV, List.mem_append, List.mem_cons, List.not_mem_nil, or_false] at hw
  rcases hw with (rfl | rfl | rfl | rfl) | rfl | hw
  · exact ok_self hl
  · exact ok_self h1
  · exact ok_self h2
  · exact ok_self h3
  · exact ok_self h4
  · exact ok_self hw
theorem ok_S {own : String} {idx : Nat} {y : MethodName} {cc : ByteArray} {nL : Nat} {ret : Option FieldType} {n : Nat} (hl : Cond.methodLink own idx y ∈ lw_ok) (h : MeS y cc nL ret n) : GoodIn lw_ok (va_wsS own idx y (.code y cc nL ret :: lw_ok)) := by
  obtain ⟨h1, h3, h4, -⟩ := h
  intro w hw
  simp only [va_wsS, List.mem_append, List.mem_cons, List.not_mem_nil, or_false] at hw
  rcases hw with (rfl | rfl | rfl) | rfl | hw
  · exact ok_self hl
  · exact ok_self h1
  · exact ok_self h3
  · exact ok_self h4
  · exact ok_self hw
theorem Po_blind (G : Gm) (X : Sc) (vs : List PV) (μ : Mem) (sz : Nat) : FrameBlind (Po G X vs μ sz) := by
  intro a U g mk h
  obtain ⟨h0, h1, h2, h3, h4, h5⟩ := h
  exact ⟨h0, h1, h2, va_K.moved (u := U) (U := U.calling g mk a) (Vm.Alike.refl U.vm) h3, h4, h5.call⟩
/-- the room of a callee fits the caller's -/
abbrev RoomIn (R' : Room) (nL' : Nat) (R : Room) : Prop := (R'.cells = 0 ∧ R'.slots = 0) ∧ R'.frames + 1 ≤ R.frames ∧ 8 + (nL' + 11) + R'.locals ≤ R.locals
section SimCall
variable {τ τ' : Type} {X : Sc} {cc cc' : ByteArray} {nL nL' : Nat} {ret ret' : Option FieldType} {own : String} {R R' : Room} {ro : τ → Int32} {mo : τ → Mem} {ro' : τ' → Int32} {mo' : τ' → Mem} {pc idx : Nat} {lo : List (Nat × PV)} {st : List PV} {μ : Mem} {ex a b : Option τ} {y : MethodName} {n : Nat} {ex' : Option τ'} {K : τ' → Option τ}
def rtP : Option FieldType → Int32 → List PV
  | none, _ => []
  | some _, x => [pI x]
/-- behind a call -/
theorem call_on {A : Nat → Prop} {G : Gm} {p : Program} {l : Launch} {e : Env} {s : State} {m : MethodId} {args : Array Value} {below : List Frame} {meth : Method} {c : Code} {cells slots : Nat} {Q : State → Prop} {H : Heap} {locs : List Loc} {ls : Array Slot} {t' : τ'} {st0 rest : List Value} {ar : Array Value}
    (hA : ∀ q : Nat, s.heap.size ≤ q → A q) (hD : va_D A (wsO G μ)) (hS : va_S A s.heap H locs)
    (hr : va_Run p l e R s m args below meth c H locs cells slots 0 0 (F0 m pc ls st0) rest (Qo ret' G (va_A (wsO G μ) H.size) (ro' t') (mo' t') ar) (va_A (wsO G μ) H.size))
    (kk : ∀ (H1 : Heap) (locs1 : List Loc), va_P G.1 vwCl (wsO G (mo' t')) H1 → va_D A (wsO G (mo' t')) → va_S A s.heap H1 locs1 → W p l e R s m args below meth c H1 locs1 cells slots Q (F0 m (pc + 3) ls ((rtP ret' (ro' t')).map (emb G) ++ rest))) :
    W p l e R s m args below meth c H locs cells slots Q (F0 m pc ls st0) := by
  have hF : ∀ q, va_A (wsO G μ) H.size q → A q := by
    intro q h
    rcases h with ⟨k, e9, h⟩ | h
    · exact hD.2 k (q, e9) h
    · exact hA q (Nat.le_trans hS.1 h)
  cases ret' with
  | none => exact va_callv (a := ar) (post := fun _ : Unit => True) hr hS (fun q _ h => hF q h) hF (fun u t H1 locs1 ht hvm hw hB hz hk hS1 => kk H1 locs1 (ht ▸ hB.1) (hB.2.weaken (fun _ q _ h => hF q.1 h)) hS1)
  | some ty => exact va_calli (a := ar) (post := fun (x : Int32) (_ : Unit) => x = ro' t') hr hS (fun q _ h => hF q h) hF (fun r u t H1 locs1 ht hvm hw hB hz hk hS1 => by
      subst hw
      exact kk H1 locs1 (ht ▸ hB.1) (hB.2.weaken (fun _ q _ h => hF q.1 h)) hS1)
theorem ok_rt (r : Option FieldType) (x : Int32) : ∀ v ∈ rtP r x, okV v := by
  cases r with
  | none => intro v hv; cases hv
  | some _ => intro v hv; rw [List.mem_singleton.mp hv]; trivial
theorem Xt_for {G : Gm} {A : Nat → Prop} {p : Program} {s : State} {m : MethodId} {args : Array Value} {c : Code} {H : Heap} {locs : List Loc} (F : Fm G X p s m args c cc nL own A) (hD : va_D A (wsO G μ)) (hS : va_S A s.heap H locs) {U : State} (hU : U.heap = H) (hW : s.WarmedH U.vm) : Xt G X (va_A (wsO G μ) H.size) U U.heap := by
  have h1 := F.2.2.2.2.2.2.2.kept hS.1 hS.2.1
  have h2 := h1.warm hW
  rw [hU]
  refine h2.narrow (fun q h => ?_)
  rcases h with ⟨k, e9, h⟩ | h
  · exact hD.2 k (q, e9) h
  · exact F.2.2.2.2.2.1 q (Nat.le_trans hS.1 h)
/-- a call of an instance's method -/
theorem sim_callV {c0 k0 : Nat} {As rest : List PV} (d : decode cc pc = .ok (.invokevirtual idx, 3)) (hl : Cond.methodLink own idx y ∈ lw_ok) (hm : MeV y cc' nL' ret' n) (hn : As.length = n) (hc : c0 < 6) (hcl : (vwCl[c0]?).map (fun q => q.1) = some y.cls) (hR : RoomIn R' nL' R) (hz : psz (pR c0 k0 0 :: As) ≤ nL') (hw : (rest.map pcat).sum ≤ 8)
    (hst : st = As.reverse ++ pR c0 k0 0 :: rest) (S : Sim X cc' nL' ret' y.cls R' ro' mo' 0 (parg 0 (pR c0 k0 0 :: As)) [] μ ex') (kk : ∀ q : τ', Sim X cc nL ret own R ro mo (pc + 3) lo (rtP ret' (ro' q) ++ rest) (mo' q) (K q)) : Sim X cc nL ret own R ro mo pc lo st μ (ex'.bind K) := by
  intro t he G p l e s m args below meth c A cells slots Q F hcs hRt H locs ls o1 o2 hP hD hS hl'
  obtain ⟨t', he', hK⟩ := Option.bind_eq_some_iff.mp he
  subst hst
  have hok : ∀ v ∈ pR c0 k0 0 :: As, okV v := fun v hv => o2 v (by
    rcases List.mem_cons.mp hv with rfl | hv
    · exact List.mem_append_right _ List.mem_cons_self
    · exact List.mem_append_left _ (List.mem_reverse.mpr hv))
  have hid : (c0, k0, 0) ∈ ids := ids_of (hok _ List.mem_cons_self) hc
  obtain ⟨q0, hq0, hw0⟩ := ws_at hid
  have hM := met_of_sim hm.2.2.2.2.2 hR.1 hz S he' hok l G H.size
  have hK0 := F.2.2.2.2.2.2.1
  obtain ⟨qc, hqc, hqn⟩ := Option.map_eq_some_iff.mp hcl
  have hrc := va_recv hK0 hP hqc (hw0 G μ)
  rw [hqn] at hrc
  have hrun := va_runV (cells := cells) (slots := slots) (locs := locs) (e := e) (below := below) (meth := meth) (g := F0 m pc ls ((As.reverse ++ pR c0 k0 0 :: rest).map (emb G))) (As := As.map (emb G)) (b := G.2.1 (c0, k0, 0)) (rest := rest.map (emb G)) (H := H) ⟨F.1, F.2.1, F.2.2.1, F.2.2.2.1, F.2.2.2.2.1⟩ hM (cwV n F.2.2.2.2.1 (ok_V hl hm) rfl hR.1.1 hR.1.2 ⟨rfl, hm.2.2.2.2.1⟩ hR.2)
    ⟨Po_blind _ _ _ _ _, hrc, fun U hU hW => ⟨rfl, by rw [hU], by rw [hU]; exact hP, va_K.moved hW.alike hK0, hD.weaken (fun _ _ _ _ => trivial), Xt_for F hD hS hU hW⟩⟩ rfl (by rw [List.length_map]; exact hn) hl'.1 (by simp [List.map_reverse, emb]) (by
      show 2 * 0 + ((rest.map (emb G)).map fun v => v.category).sum ≤ 8
      rw [List.map_map]
      have : (fun v => v.category) ∘ emb G = pcat := funext (emb_cat G)
      rw [this]
      omega) d hcs
  refine call_on F.2.2.2.2.2.1 hD hS hrun (fun H1 locs1 hP1 hD1 hS1 => ?_)
  rw [← List.map_append]
  exact kk t' t hK G p l e s m args below meth c A cells slots Q F hcs hRt H1 locs1 ls o1 (fun v hv => by
    rcases List.mem_append.mp hv with hv | hv
    · exact ok_rt _ _ v hv
    · exact o2 v (List.mem_append_right _ (List.mem_cons_of_mem _ hv))) hP1 hD1 hS1 hl'
/-- a call of a static method -/
theorem sim_callS {As rest : List PV} (d : decode cc pc = .ok (.invokestatic idx, 3)) (hl : Cond.methodLink own idx y ∈ lw_ok) (hm : MeS y cc' nL' ret' n) (hn : As.length = n) (hR : RoomIn R' nL' R) (hz : psz As ≤ nL') (hw : (rest.map pcat).sum ≤ 8)
    (hst : st = As.reverse ++ rest) (S : Sim X cc' nL' ret' y.cls R' ro' mo' 0 (parg 0 As) [] μ ex') (kk : ∀ q : τ', Sim X cc nL ret own R ro mo (pc + 3) lo (rtP ret' (ro' q) ++ rest) (mo' q) (K q)) : Sim X cc nL ret own R ro mo pc lo st μ (ex'.bind K) := by
  intro t he G p l e s m args below meth c A cells slots Q F hcs hRt H locs ls o1 o2 hP hD hS hl'
  obtain ⟨t', he', hK⟩ := Option.bind_eq_some_iff.mp he
  subst hst
  have hok : ∀ v ∈ As, okV v := fun v hv => o2 v (List.mem_append_left _ (List.mem_reverse.mpr hv))
  have hM := met_of_sim hm.2.2.2.2 hR.1 hz S he' hok l G H.size
  have hK0 := F.2.2.2.2.2.2.1
  have hrun := va_runS (cells := cells) (slots := slots) (locs := locs) (e := e) (below := below) (meth := meth) (g := F0 m pc ls ((As.reverse ++ rest).map (emb G))) (As := As.map (emb G)) (rest := rest.map (emb G)) (H := H) ⟨F.1, F.2.1, F.2.2.1, F.2.2.2.1, F.2.2.2.2.1⟩ hM (va_cwS n F.2.2.2.2.1 (ok_S hl hm) rfl hR.1.1 hR.1.2 hm.2.2.2.1 hR.2)
    ⟨Po_blind _ _ _ _ _, fun U hU hW => ⟨rfl, by rw [hU], by rw [hU]; exact hP, va_K.moved hW.alike hK0, hD.weaken (fun _ _ _ _ => trivial), Xt_for F hD hS hU hW⟩⟩ rfl (by rw [List.length_map]; exact hn) hl'.1 (by simp [List.map_reverse]) (by
      show 2 * 0 + ((rest.map (emb G)).map fun v => v.category).sum ≤ 8
      rw [List.map_map]
      have : (fun v => v.category) ∘ emb G = pcat := funext (emb_cat G)
      rw [this]
      omega) d hcs
  refine call_on F.2.2.2.2.2.1 hD hS hrun (fun H1 locs1 hP1 hD1 hS1 => ?_)
  rw [← List.map_append]
  exact kk t' t hK G p l e s m args below meth c A cells slots Q F hcs hRt H1 locs1 ls o1 (fun v hv => by
    rcases List.mem_append.mp hv with hv | hv
    · exact ok_rt _ _ v hv
    · exact o2 v (List.mem_append_right _ hv)) hP1 hD1 hS1 hl'
end SimCall
end
