-- ===== PART A: goes FIRST, ahead of the names: the tables' words, and 'selects' of the private methods out of them =====
/-- a private method of a class that the tables say can be made, by its rows of tables_1 -/
def lw_okq (q : MethodName × Nat) : Prop := (q.1.cls ≠ "java/lang/invoke/MethodHandle" ∧ q.1.cls ≠ "java/lang/invoke/VarHandle") ∧ Cond.instantiable q.1.cls q.2 ∈ tables_1 ∧ Cond.privateMethod q.1 ∈ tables_1 ∧ Cond.instanceMethod q.1 ∈ tables_1
theorem lw_p0 : lw_okq (⟨"LineDispatch$Reader", "takeToken", "()Z"⟩, 8) := ⟨⟨by decide +kernel, by decide +kernel⟩, List.mem_of_getElem? (i := 141) (by decide +kernel), List.mem_of_getElem? (i := 238) (by decide +kernel), List.mem_of_getElem? (i := 239) (by decide +kernel)⟩
theorem lw_p1 : lw_okq (⟨"LineDispatch$Reader", "fail", "(I)Z"⟩, 8) := ⟨⟨by decide +kernel, by decide +kernel⟩, List.mem_of_getElem? (i := 141) (by decide +kernel), List.mem_of_getElem? (i := 245) (by decide +kernel), List.mem_of_getElem? (i := 246) (by decide +kernel)⟩
theorem lw_p2 : lw_okq (⟨"LineDispatch$Reader", "takeLine", "(LLineDispatch$Line;)Z"⟩, 8) := ⟨⟨by decide +kernel, by decide +kernel⟩, List.mem_of_getElem? (i := 141) (by decide +kernel), List.mem_of_getElem? (i := 249) (by decide +kernel), List.mem_of_getElem? (i := 250) (by decide +kernel)⟩
theorem lw_p3 : lw_okq (⟨"LineDispatch$Reader", "isWord", "(Ljava/lang/String;)Z"⟩, 8) := ⟨⟨by decide +kernel, by decide +kernel⟩, List.mem_of_getElem? (i := 141) (by decide +kernel), List.mem_of_getElem? (i := 254) (by decide +kernel), List.mem_of_getElem? (i := 255) (by decide +kernel)⟩
theorem lw_p4 : lw_okq (⟨"LineDispatch$Reader", "takePlace", "(LLineDispatch$Line;)Z"⟩, 8) := ⟨⟨by decide +kernel, by decide +kernel⟩, List.mem_of_getElem? (i := 141) (by decide +kernel), List.mem_of_getElem? (i := 306) (by decide +kernel), List.mem_of_getElem? (i := 307) (by decide +kernel)⟩
theorem lw_p5 : lw_okq (⟨"LineDispatch$Reader", "isNumberWithin", "(II)Z"⟩, 8) := ⟨⟨by decide +kernel, by decide +kernel⟩, List.mem_of_getElem? (i := 141) (by decide +kernel), List.mem_of_getElem? (i := 314) (by decide +kernel), List.mem_of_getElem? (i := 315) (by decide +kernel)⟩
theorem lw_p6 : lw_okq (⟨"LineDispatch$Reader", "takeSign", "()Z"⟩, 8) := ⟨⟨by decide +kernel, by decide +kernel⟩, List.mem_of_getElem? (i := 141) (by decide +kernel), List.mem_of_getElem? (i := 322) (by decide +kernel), List.mem_of_getElem? (i := 323) (by decide +kernel)⟩
theorem lw_p7 : lw_okq (⟨"LineDispatch$Reader", "takeSection", "(LLineDispatch$Line;)Z"⟩, 8) := ⟨⟨by decide +kernel, by decide +kernel⟩, List.mem_of_getElem? (i := 141) (by decide +kernel), List.mem_of_getElem? (i := 327) (by decide +kernel), List.mem_of_getElem? (i := 328) (by decide +kernel)⟩
theorem lw_p8 : lw_okq (⟨"LineDispatch$Reader", "takeNumber", "(II)Z"⟩, 8) := ⟨⟨by decide +kernel, by decide +kernel⟩, List.mem_of_getElem? (i := 141) (by decide +kernel), List.mem_of_getElem? (i := 331) (by decide +kernel), List.mem_of_getElem? (i := 332) (by decide +kernel)⟩
theorem lw_p9 : lw_okq (⟨"LineDispatch$Reader", "takeTrain", "(LLineDispatch$Line;)Z"⟩, 8) := ⟨⟨by decide +kernel, by decide +kernel⟩, List.mem_of_getElem? (i := 141) (by decide +kernel), List.mem_of_getElem? (i := 336) (by decide +kernel), List.mem_of_getElem? (i := 337) (by decide +kernel)⟩
theorem lw_p10 : lw_okq (⟨"LineDispatch", "faultBehindAll", "(LLineDispatch$Line;)I"⟩, 8) := ⟨⟨by decide +kernel, by decide +kernel⟩, List.mem_of_getElem? (i := 15) (by decide +kernel), List.mem_of_getElem? (i := 347) (by decide +kernel), List.mem_of_getElem? (i := 348) (by decide +kernel)⟩
theorem lw_p11 : lw_okq (⟨"LineDispatch$Postures", "learnEnds", "(LLineDispatch$Line;)V"⟩, 8) := ⟨⟨by decide +kernel, by decide +kernel⟩, List.mem_of_getElem? (i := 107) (by decide +kernel), List.mem_of_getElem? (i := 376) (by decide +kernel), List.mem_of_getElem? (i := 377) (by decide +kernel)⟩
theorem lw_p12 : lw_okq (⟨"LineDispatch$Postures", "learnOne", "(LLineDispatch$Line;)V"⟩, 8) := ⟨⟨by decide +kernel, by decide +kernel⟩, List.mem_of_getElem? (i := 107) (by decide +kernel), List.mem_of_getElem? (i := 383) (by decide +kernel), List.mem_of_getElem? (i := 384) (by decide +kernel)⟩
theorem lw_p13 : lw_okq (⟨"LineDispatch$Postures", "placeAll", "(LLineDispatch$Line;)V"⟩, 8) := ⟨⟨by decide +kernel, by decide +kernel⟩, List.mem_of_getElem? (i := 107) (by decide +kernel), List.mem_of_getElem? (i := 387) (by decide +kernel), List.mem_of_getElem? (i := 388) (by decide +kernel)⟩
theorem lw_p14 : lw_okq (⟨"LineDispatch$Postures", "code", "()I"⟩, 8) := ⟨⟨by decide +kernel, by decide +kernel⟩, List.mem_of_getElem? (i := 107) (by decide +kernel), List.mem_of_getElem? (i := 398) (by decide +kernel), List.mem_of_getElem? (i := 399) (by decide +kernel)⟩
theorem lw_p15 : lw_okq (⟨"LineDispatch", "isPlain", "()Z"⟩, 8) := ⟨⟨by decide +kernel, by decide +kernel⟩, List.mem_of_getElem? (i := 15) (by decide +kernel), List.mem_of_getElem? (i := 443) (by decide +kernel), List.mem_of_getElem? (i := 444) (by decide +kernel)⟩
def lw_privs_1 : List (MethodName × Nat) := [(⟨"LineDispatch$Reader", "takeToken", "()Z"⟩, 8), (⟨"LineDispatch$Reader", "fail", "(I)Z"⟩, 8), (⟨"LineDispatch$Reader", "takeLine", "(LLineDispatch$Line;)Z"⟩, 8), (⟨"LineDispatch$Reader", "isWord", "(Ljava/lang/String;)Z"⟩, 8), (⟨"LineDispatch$Reader", "takePlace", "(LLineDispatch$Line;)Z"⟩, 8), (⟨"LineDispatch$Reader", "isNumberWithin", "(II)Z"⟩, 8), (⟨"LineDispatch$Reader", "takeSign", "()Z"⟩, 8), (⟨"LineDispatch$Reader", "takeSection", "(LLineDispatch$Line;)Z"⟩, 8), (⟨"LineDispatch$Reader", "takeNumber", "(II)Z"⟩, 8), (⟨"LineDispatch$Reader", "takeTrain", "(LLineDispatch$Line;)Z"⟩, 8), (⟨"LineDispatch", "faultBehindAll", "(LLineDispatch$Line;)I"⟩, 8), (⟨"LineDispatch$Postures", "learnEnds", "(LLineDispatch$Line;)V"⟩, 8), (⟨"LineDispatch$Postures", "learnOne", "(LLineDispatch$Line;)V"⟩, 8), (⟨"LineDispatch$Postures", "placeAll", "(LLineDispatch$Line;)V"⟩, 8), (⟨"LineDispatch$Postures", "code", "()I"⟩, 8), (⟨"LineDispatch", "isPlain", "()Z"⟩, 8)]
theorem lw_r1 : ∀ q ∈ lw_privs_1, lw_okq q := List.forall_mem_cons.mpr ⟨lw_p0, List.forall_mem_cons.mpr ⟨lw_p1, List.forall_mem_cons.mpr ⟨lw_p2, List.forall_mem_cons.mpr ⟨lw_p3, List.forall_mem_cons.mpr ⟨lw_p4, List.forall_mem_cons.mpr ⟨lw_p5, List.forall_mem_cons.mpr ⟨lw_p6, List.forall_mem_cons.mpr ⟨lw_p7, List.forall_mem_cons.mpr ⟨lw_p8, List.forall_mem_cons.mpr ⟨lw_p9, List.forall_mem_cons.mpr ⟨lw_p10, List.forall_mem_cons.mpr ⟨lw_p11, List.forall_mem_cons.mpr ⟨lw_p12, List.forall_mem_cons.mpr ⟨lw_p13, List.forall_mem_cons.mpr ⟨lw_p14, List.forall_mem_cons.mpr ⟨lw_p15, fun _ h => absurd h List.not_mem_nil⟩⟩⟩⟩⟩⟩⟩⟩⟩⟩⟩⟩⟩⟩⟩⟩
theorem lw_p16 : lw_okq (⟨"LineDispatch$Postures", "firstToGoAlone", "(LLineDispatch$Line;)I"⟩, 8) := ⟨⟨by decide +kernel, by decide +kernel⟩, List.mem_of_getElem? (i := 107) (by decide +kernel), List.mem_of_getElem? (i := 452) (by decide +kernel), List.mem_of_getElem? (i := 453) (by decide +kernel)⟩
theorem lw_p17 : lw_okq (⟨"LineDispatch$Postures", "goesAlone", "(LLineDispatch$Line;I)Z"⟩, 8) := ⟨⟨by decide +kernel, by decide +kernel⟩, List.mem_of_getElem? (i := 107) (by decide +kernel), List.mem_of_getElem? (i := 456) (by decide +kernel), List.mem_of_getElem? (i := 457) (by decide +kernel)⟩
theorem lw_p18 : lw_okq (⟨"LineDispatch", "howManyFree", "()I"⟩, 8) := ⟨⟨by decide +kernel, by decide +kernel⟩, List.mem_of_getElem? (i := 15) (by decide +kernel), List.mem_of_getElem? (i := 464) (by decide +kernel), List.mem_of_getElem? (i := 465) (by decide +kernel)⟩
theorem lw_p19 : lw_okq (⟨"LineDispatch", "against", "(LLineDispatch$Line;I)I"⟩, 8) := ⟨⟨by decide +kernel, by decide +kernel⟩, List.mem_of_getElem? (i := 15) (by decide +kernel), List.mem_of_getElem? (i := 468) (by decide +kernel), List.mem_of_getElem? (i := 469) (by decide +kernel)⟩
theorem lw_p20 : lw_okq (⟨"LineDispatch$Postures", "endsBehind", "(I)I"⟩, 8) := ⟨⟨by decide +kernel, by decide +kernel⟩, List.mem_of_getElem? (i := 107) (by decide +kernel), List.mem_of_getElem? (i := 486) (by decide +kernel), List.mem_of_getElem? (i := 487) (by decide +kernel)⟩
theorem lw_p21 : lw_okq (⟨"LineDispatch$Postures", "markNext", "(LLineDispatch$Line;I)V"⟩, 8) := ⟨⟨by decide +kernel, by decide +kernel⟩, List.mem_of_getElem? (i := 107) (by decide +kernel), List.mem_of_getElem? (i := 547) (by decide +kernel), List.mem_of_getElem? (i := 548) (by decide +kernel)⟩
theorem lw_p22 : lw_okq (⟨"LineDispatch", "planned", "(IZ)I"⟩, 8) := ⟨⟨by decide +kernel, by decide +kernel⟩, List.mem_of_getElem? (i := 15) (by decide +kernel), List.mem_of_getElem? (i := 558) (by decide +kernel), List.mem_of_getElem? (i := 559) (by decide +kernel)⟩
theorem lw_p23 : lw_okq (⟨"LineDispatch", "letAllGo", "(LLineDispatch$Line;I)I"⟩, 8) := ⟨⟨by decide +kernel, by decide +kernel⟩, List.mem_of_getElem? (i := 15) (by decide +kernel), List.mem_of_getElem? (i := 562) (by decide +kernel), List.mem_of_getElem? (i := 563) (by decide +kernel)⟩
theorem lw_p24 : lw_okq (⟨"LineDispatch", "firstBy", "(LLineDispatch$Line;I)I"⟩, 8) := ⟨⟨by decide +kernel, by decide +kernel⟩, List.mem_of_getElem? (i := 15) (by decide +kernel), List.mem_of_getElem? (i := 566) (by decide +kernel), List.mem_of_getElem? (i := 567) (by decide +kernel)⟩
theorem lw_p25 : lw_okq (⟨"LineDispatch$Line", "enterJournal", "(II)V"⟩, 16) := ⟨⟨by decide +kernel, by decide +kernel⟩, List.mem_of_getElem? (i := 23) (by decide +kernel), List.mem_of_getElem? (i := 577) (by decide +kernel), List.mem_of_getElem? (i := 578) (by decide +kernel)⟩
theorem lw_p26 : lw_okq (⟨"LineDispatch$Line", "forgetFirstEntry", "()V"⟩, 16) := ⟨⟨by decide +kernel, by decide +kernel⟩, List.mem_of_getElem? (i := 23) (by decide +kernel), List.mem_of_getElem? (i := 581) (by decide +kernel), List.mem_of_getElem? (i := 582) (by decide +kernel)⟩
theorem lw_p27 : lw_okq (⟨"LineDispatch$Line", "removeEntries", "(I)V"⟩, 16) := ⟨⟨by decide +kernel, by decide +kernel⟩, List.mem_of_getElem? (i := 23) (by decide +kernel), List.mem_of_getElem? (i := 637) (by decide +kernel), List.mem_of_getElem? (i := 638) (by decide +kernel)⟩
theorem lw_p28 : lw_okq (⟨"LineDispatchModel", "reads", "()V"⟩, 24) := ⟨⟨by decide +kernel, by decide +kernel⟩, List.mem_of_getElem? (i := 701) (by decide +kernel), List.mem_of_getElem? (i := 796) (by decide +kernel), List.mem_of_getElem? (i := 797) (by decide +kernel)⟩
theorem lw_p29 : lw_okq (⟨"LineDispatchModel", "byteAt", "(I)I"⟩, 24) := ⟨⟨by decide +kernel, by decide +kernel⟩, List.mem_of_getElem? (i := 701) (by decide +kernel), List.mem_of_getElem? (i := 800) (by decide +kernel), List.mem_of_getElem? (i := 801) (by decide +kernel)⟩
theorem lw_p30 : lw_okq (⟨"LineDispatchModel", "requires", "(ZI)V"⟩, 24) := ⟨⟨by decide +kernel, by decide +kernel⟩, List.mem_of_getElem? (i := 701) (by decide +kernel), List.mem_of_getElem? (i := 808) (by decide +kernel), List.mem_of_getElem? (i := 809) (by decide +kernel)⟩
theorem lw_p31 : lw_okq (⟨"LineDispatchModel", "readLine", "()V"⟩, 24) := ⟨⟨by decide +kernel, by decide +kernel⟩, List.mem_of_getElem? (i := 701) (by decide +kernel), List.mem_of_getElem? (i := 812) (by decide +kernel), List.mem_of_getElem? (i := 813) (by decide +kernel)⟩
def lw_privs_2 : List (MethodName × Nat) := [(⟨"LineDispatch$Postures", "firstToGoAlone", "(LLineDispatch$Line;)I"⟩, 8), (⟨"LineDispatch$Postures", "goesAlone", "(LLineDispatch$Line;I)Z"⟩, 8), (⟨"LineDispatch", "howManyFree", "()I"⟩, 8), (⟨"LineDispatch", "against", "(LLineDispatch$Line;I)I"⟩, 8), (⟨"LineDispatch$Postures", "endsBehind", "(I)I"⟩, 8), (⟨"LineDispatch$Postures", "markNext", "(LLineDispatch$Line;I)V"⟩, 8), (⟨"LineDispatch", "planned", "(IZ)I"⟩, 8), (⟨"LineDispatch", "letAllGo", "(LLineDispatch$Line;I)I"⟩, 8), (⟨"LineDispatch", "firstBy", "(LLineDispatch$Line;I)I"⟩, 8), (⟨"LineDispatch$Line", "enterJournal", "(II)V"⟩, 16), (⟨"LineDispatch$Line", "forgetFirstEntry", "()V"⟩, 16), (⟨"LineDispatch$Line", "removeEntries", "(I)V"⟩, 16), (⟨"LineDispatchModel", "reads", "()V"⟩, 24), (⟨"LineDispatchModel", "byteAt", "(I)I"⟩, 24), (⟨"LineDispatchModel", "requires", "(ZI)V"⟩, 24), (⟨"LineDispatchModel", "readLine", "()V"⟩, 24)]
theorem lw_r2 : ∀ q ∈ lw_privs_2, lw_okq q := List.forall_mem_cons.mpr ⟨lw_p16, List.forall_mem_cons.mpr ⟨lw_p17, List.forall_mem_cons.mpr ⟨lw_p18, List.forall_mem_cons.mpr ⟨lw_p19, List.forall_mem_cons.mpr ⟨lw_p20, List.forall_mem_cons.mpr ⟨lw_p21, List.forall_mem_cons.mpr ⟨lw_p22, List.forall_mem_cons.mpr ⟨lw_p23, List.forall_mem_cons.mpr ⟨lw_p24, List.forall_mem_cons.mpr ⟨lw_p25, List.forall_mem_cons.mpr ⟨lw_p26, List.forall_mem_cons.mpr ⟨lw_p27, List.forall_mem_cons.mpr ⟨lw_p28, List.forall_mem_cons.mpr ⟨lw_p29, List.forall_mem_cons.mpr ⟨lw_p30, List.forall_mem_cons.mpr ⟨lw_p31, fun _ h => absurd h List.not_mem_nil⟩⟩⟩⟩⟩⟩⟩⟩⟩⟩⟩⟩⟩⟩⟩⟩
theorem lw_p32 : lw_okq (⟨"LineDispatchModel", "lineNow", "()I"⟩, 24) := ⟨⟨by decide +kernel, by decide +kernel⟩, List.mem_of_getElem? (i := 701) (by decide +kernel), List.mem_of_getElem? (i := 816) (by decide +kernel), List.mem_of_getElem? (i := 817) (by decide +kernel)⟩
theorem lw_p33 : lw_okq (⟨"LineDispatchModel", "is", "(IIIII)Z"⟩, 24) := ⟨⟨by decide +kernel, by decide +kernel⟩, List.mem_of_getElem? (i := 701) (by decide +kernel), List.mem_of_getElem? (i := 820) (by decide +kernel), List.mem_of_getElem? (i := 821) (by decide +kernel)⟩
theorem lw_p34 : lw_okq (⟨"LineDispatchModel", "hasRoom", "(I)Z"⟩, 24) := ⟨⟨by decide +kernel, by decide +kernel⟩, List.mem_of_getElem? (i := 701) (by decide +kernel), List.mem_of_getElem? (i := 824) (by decide +kernel), List.mem_of_getElem? (i := 825) (by decide +kernel)⟩
theorem lw_p35 : lw_okq (⟨"LineDispatchModel", "readPlace", "()V"⟩, 24) := ⟨⟨by decide +kernel, by decide +kernel⟩, List.mem_of_getElem? (i := 701) (by decide +kernel), List.mem_of_getElem? (i := 828) (by decide +kernel), List.mem_of_getElem? (i := 829) (by decide +kernel)⟩
theorem lw_p36 : lw_okq (⟨"LineDispatchModel", "readNumber", "(III)I"⟩, 24) := ⟨⟨by decide +kernel, by decide +kernel⟩, List.mem_of_getElem? (i := 701) (by decide +kernel), List.mem_of_getElem? (i := 832) (by decide +kernel), List.mem_of_getElem? (i := 833) (by decide +kernel)⟩
theorem lw_p37 : lw_okq (⟨"LineDispatchModel", "readTrain", "()V"⟩, 24) := ⟨⟨by decide +kernel, by decide +kernel⟩, List.mem_of_getElem? (i := 701) (by decide +kernel), List.mem_of_getElem? (i := 836) (by decide +kernel), List.mem_of_getElem? (i := 837) (by decide +kernel)⟩
theorem lw_p38 : lw_okq (⟨"LineDispatchModel", "keepBefore", "()V"⟩, 24) := ⟨⟨by decide +kernel, by decide +kernel⟩, List.mem_of_getElem? (i := 701) (by decide +kernel), List.mem_of_getElem? (i := 840) (by decide +kernel), List.mem_of_getElem? (i := 841) (by decide +kernel)⟩
theorem lw_p39 : lw_okq (⟨"LineDispatchModel", "areAllPlaces", "()Z"⟩, 24) := ⟨⟨by decide +kernel, by decide +kernel⟩, List.mem_of_getElem? (i := 701) (by decide +kernel), List.mem_of_getElem? (i := 844) (by decide +kernel), List.mem_of_getElem? (i := 845) (by decide +kernel)⟩
theorem lw_p40 : lw_okq (⟨"LineDispatchModel", "ofTrain", "(II)I"⟩, 24) := ⟨⟨by decide +kernel, by decide +kernel⟩, List.mem_of_getElem? (i := 701) (by decide +kernel), List.mem_of_getElem? (i := 848) (by decide +kernel), List.mem_of_getElem? (i := 849) (by decide +kernel)⟩
theorem lw_p41 : lw_okq (⟨"LineDispatchModel", "isHeldAll", "()Z"⟩, 24) := ⟨⟨by decide +kernel, by decide +kernel⟩, List.mem_of_getElem? (i := 701) (by decide +kernel), List.mem_of_getElem? (i := 852) (by decide +kernel), List.mem_of_getElem? (i := 853) (by decide +kernel)⟩
theorem lw_p42 : lw_okq (⟨"LineDispatchModel", "postureNow", "()I"⟩, 24) := ⟨⟨by decide +kernel, by decide +kernel⟩, List.mem_of_getElem? (i := 701) (by decide +kernel), List.mem_of_getElem? (i := 856) (by decide +kernel), List.mem_of_getElem? (i := 857) (by decide +kernel)⟩
theorem lw_p43 : lw_okq (⟨"LineDispatchModel", "isDoneIn", "(I)Z"⟩, 24) := ⟨⟨by decide +kernel, by decide +kernel⟩, List.mem_of_getElem? (i := 701) (by decide +kernel), List.mem_of_getElem? (i := 860) (by decide +kernel), List.mem_of_getElem? (i := 861) (by decide +kernel)⟩
theorem lw_p44 : lw_okq (⟨"LineDispatchModel", "decode", "(I)V"⟩, 24) := ⟨⟨by decide +kernel, by decide +kernel⟩, List.mem_of_getElem? (i := 701) (by decide +kernel), List.mem_of_getElem? (i := 867) (by decide +kernel), List.mem_of_getElem? (i := 868) (by decide +kernel)⟩
theorem lw_p45 : lw_okq (⟨"LineDispatchModel", "holds", "(I)Z"⟩, 24) := ⟨⟨by decide +kernel, by decide +kernel⟩, List.mem_of_getElem? (i := 701) (by decide +kernel), List.mem_of_getElem? (i := 871) (by decide +kernel), List.mem_of_getElem? (i := 872) (by decide +kernel)⟩
theorem lw_p46 : lw_okq (⟨"LineDispatchModel", "trainsFor", "(II)I"⟩, 24) := ⟨⟨by decide +kernel, by decide +kernel⟩, List.mem_of_getElem? (i := 701) (by decide +kernel), List.mem_of_getElem? (i := 875) (by decide +kernel), List.mem_of_getElem? (i := 876) (by decide +kernel)⟩
theorem lw_p47 : lw_okq (⟨"LineDispatchModel", "tracksFor", "(II)I"⟩, 24) := ⟨⟨by decide +kernel, by decide +kernel⟩, List.mem_of_getElem? (i := 701) (by decide +kernel), List.mem_of_getElem? (i := 882) (by decide +kernel), List.mem_of_getElem? (i := 883) (by decide +kernel)⟩
def lw_privs_3 : List (MethodName × Nat) := [(⟨"LineDispatchModel", "lineNow", "()I"⟩, 24), (⟨"LineDispatchModel", "is", "(IIIII)Z"⟩, 24), (⟨"LineDispatchModel", "hasRoom", "(I)Z"⟩, 24), (⟨"LineDispatchModel", "readPlace", "()V"⟩, 24), (⟨"LineDispatchModel", "readNumber", "(III)I"⟩, 24), (⟨"LineDispatchModel", "readTrain", "()V"⟩, 24), (⟨"LineDispatchModel", "keepBefore", "()V"⟩, 24), (⟨"LineDispatchModel", "areAllPlaces", "()Z"⟩, 24), (⟨"LineDispatchModel", "ofTrain", "(II)I"⟩, 24), (⟨"LineDispatchModel", "isHeldAll", "()Z"⟩, 24), (⟨"LineDispatchModel", "postureNow", "()I"⟩, 24), (⟨"LineDispatchModel", "isDoneIn", "(I)Z"⟩, 24), (⟨"LineDispatchModel", "decode", "(I)V"⟩, 24), (⟨"LineDispatchModel", "holds", "(I)Z"⟩, 24), (⟨"LineDispatchModel", "trainsFor", "(II)I"⟩, 24), (⟨"LineDispatchModel", "tracksFor", "(II)I"⟩, 24)]
theorem lw_r3 : ∀ q ∈ lw_privs_3, lw_okq q := List.forall_mem_cons.mpr ⟨lw_p32, List.forall_mem_cons.mpr ⟨lw_p33, List.forall_mem_cons.mpr ⟨lw_p34, List.forall_mem_cons.mpr ⟨lw_p35, List.forall_mem_cons.mpr ⟨lw_p36, List.forall_mem_cons.mpr ⟨lw_p37, List.forall_mem_cons.mpr ⟨lw_p38, List.forall_mem_cons.mpr ⟨lw_p39, List.forall_mem_cons.mpr ⟨lw_p40, List.forall_mem_cons.mpr ⟨lw_p41, List.forall_mem_cons.mpr ⟨lw_p42, List.forall_mem_cons.mpr ⟨lw_p43, List.forall_mem_cons.mpr ⟨lw_p44, List.forall_mem_cons.mpr ⟨lw_p45, List.forall_mem_cons.mpr ⟨lw_p46, List.forall_mem_cons.mpr ⟨lw_p47, fun _ h => absurd h List.not_mem_nil⟩⟩⟩⟩⟩⟩⟩⟩⟩⟩⟩⟩⟩⟩⟩⟩
theorem lw_p48 : lw_okq (⟨"LineDispatchModel", "ofPlace", "(II)I"⟩, 24) := ⟨⟨by decide +kernel, by decide +kernel⟩, List.mem_of_getElem? (i := 701) (by decide +kernel), List.mem_of_getElem? (i := 886) (by decide +kernel), List.mem_of_getElem? (i := 887) (by decide +kernel)⟩
theorem lw_p49 : lw_okq (⟨"LineDispatchModel", "isSafeNow", "()Z"⟩, 24) := ⟨⟨by decide +kernel, by decide +kernel⟩, List.mem_of_getElem? (i := 701) (by decide +kernel), List.mem_of_getElem? (i := 890) (by decide +kernel), List.mem_of_getElem? (i := 891) (by decide +kernel)⟩
theorem lw_p50 : lw_okq (⟨"LineDispatchModel", "explore", "(I)V"⟩, 24) := ⟨⟨by decide +kernel, by decide +kernel⟩, List.mem_of_getElem? (i := 701) (by decide +kernel), List.mem_of_getElem? (i := 894) (by decide +kernel), List.mem_of_getElem? (i := 895) (by decide +kernel)⟩
theorem lw_p51 : lw_okq (⟨"LineDispatchModel", "movedBy", "(I)I"⟩, 24) := ⟨⟨by decide +kernel, by decide +kernel⟩, List.mem_of_getElem? (i := 701) (by decide +kernel), List.mem_of_getElem? (i := 898) (by decide +kernel), List.mem_of_getElem? (i := 899) (by decide +kernel)⟩
theorem lw_p52 : lw_okq (⟨"LineDispatchModel", "nextFrom", "(II)I"⟩, 24) := ⟨⟨by decide +kernel, by decide +kernel⟩, List.mem_of_getElem? (i := 701) (by decide +kernel), List.mem_of_getElem? (i := 902) (by decide +kernel), List.mem_of_getElem? (i := 903) (by decide +kernel)⟩
theorem lw_p53 : lw_okq (⟨"LineDispatchModel", "encode", "()I"⟩, 24) := ⟨⟨by decide +kernel, by decide +kernel⟩, List.mem_of_getElem? (i := 701) (by decide +kernel), List.mem_of_getElem? (i := 906) (by decide +kernel), List.mem_of_getElem? (i := 907) (by decide +kernel)⟩
theorem lw_p54 : lw_okq (⟨"LineDispatchModel", "backBefore", "()V"⟩, 24) := ⟨⟨by decide +kernel, by decide +kernel⟩, List.mem_of_getElem? (i := 701) (by decide +kernel), List.mem_of_getElem? (i := 910) (by decide +kernel), List.mem_of_getElem? (i := 911) (by decide +kernel)⟩
theorem lw_p55 : lw_okq (⟨"LineDispatchModel", "withStatus", "(I)I"⟩, 24) := ⟨⟨by decide +kernel, by decide +kernel⟩, List.mem_of_getElem? (i := 701) (by decide +kernel), List.mem_of_getElem? (i := 922) (by decide +kernel), List.mem_of_getElem? (i := 923) (by decide +kernel)⟩
theorem lw_p56 : lw_okq (⟨"LineDispatchModel", "isPlain", "()Z"⟩, 24) := ⟨⟨by decide +kernel, by decide +kernel⟩, List.mem_of_getElem? (i := 701) (by decide +kernel), List.mem_of_getElem? (i := 926) (by decide +kernel), List.mem_of_getElem? (i := 927) (by decide +kernel)⟩
theorem lw_p57 : lw_okq (⟨"LineDispatchModel", "findSequence", "()V"⟩, 24) := ⟨⟨by decide +kernel, by decide +kernel⟩, List.mem_of_getElem? (i := 701) (by decide +kernel), List.mem_of_getElem? (i := 930) (by decide +kernel), List.mem_of_getElem? (i := 931) (by decide +kernel)⟩
theorem lw_p58 : lw_okq (⟨"LineDispatchModel", "goesAlone", "(I)Z"⟩, 24) := ⟨⟨by decide +kernel, by decide +kernel⟩, List.mem_of_getElem? (i := 701) (by decide +kernel), List.mem_of_getElem? (i := 934) (by decide +kernel), List.mem_of_getElem? (i := 935) (by decide +kernel)⟩
theorem lw_p59 : lw_okq (⟨"LineDispatchModel", "movesLeft", "()I"⟩, 24) := ⟨⟨by decide +kernel, by decide +kernel⟩, List.mem_of_getElem? (i := 701) (by decide +kernel), List.mem_of_getElem? (i := 938) (by decide +kernel), List.mem_of_getElem? (i := 939) (by decide +kernel)⟩
theorem lw_p60 : lw_okq (⟨"LineDispatchModel", "canGo", "()I"⟩, 24) := ⟨⟨by decide +kernel, by decide +kernel⟩, List.mem_of_getElem? (i := 701) (by decide +kernel), List.mem_of_getElem? (i := 942) (by decide +kernel), List.mem_of_getElem? (i := 943) (by decide +kernel)⟩
theorem lw_p61 : lw_okq (⟨"LineDispatchModel", "against", "(I)I"⟩, 24) := ⟨⟨by decide +kernel, by decide +kernel⟩, List.mem_of_getElem? (i := 701) (by decide +kernel), List.mem_of_getElem? (i := 946) (by decide +kernel), List.mem_of_getElem? (i := 947) (by decide +kernel)⟩
theorem lw_p62 : lw_okq (⟨"LineDispatchModel", "runsBetween", "(II)I"⟩, 24) := ⟨⟨by decide +kernel, by decide +kernel⟩, List.mem_of_getElem? (i := 701) (by decide +kernel), List.mem_of_getElem? (i := 950) (by decide +kernel), List.mem_of_getElem? (i := 951) (by decide +kernel)⟩
theorem lw_p63 : lw_okq (⟨"LineDispatchModel", "leftBy", "(I)I"⟩, 24) := ⟨⟨by decide +kernel, by decide +kernel⟩, List.mem_of_getElem? (i := 701) (by decide +kernel), List.mem_of_getElem? (i := 954) (by decide +kernel), List.mem_of_getElem? (i := 955) (by decide +kernel)⟩
def lw_privs_4 : List (MethodName × Nat) := [(⟨"LineDispatchModel", "ofPlace", "(II)I"⟩, 24), (⟨"LineDispatchModel", "isSafeNow", "()Z"⟩, 24), (⟨"LineDispatchModel", "explore", "(I)V"⟩, 24), (⟨"LineDispatchModel", "movedBy", "(I)I"⟩, 24), (⟨"LineDispatchModel", "nextFrom", "(II)I"⟩, 24), (⟨"LineDispatchModel", "encode", "()I"⟩, 24), (⟨"LineDispatchModel", "backBefore", "()V"⟩, 24), (⟨"LineDispatchModel", "withStatus", "(I)I"⟩, 24), (⟨"LineDispatchModel", "isPlain", "()Z"⟩, 24), (⟨"LineDispatchModel", "findSequence", "()V"⟩, 24), (⟨"LineDispatchModel", "goesAlone", "(I)Z"⟩, 24), (⟨"LineDispatchModel", "movesLeft", "()I"⟩, 24), (⟨"LineDispatchModel", "canGo", "()I"⟩, 24), (⟨"LineDispatchModel", "against", "(I)I"⟩, 24), (⟨"LineDispatchModel", "runsBetween", "(II)I"⟩, 24), (⟨"LineDispatchModel", "leftBy", "(I)I"⟩, 24)]
theorem lw_r4 : ∀ q ∈ lw_privs_4, lw_okq q := List.forall_mem_cons.mpr ⟨lw_p48, List.forall_mem_cons.mpr ⟨lw_p49, List.forall_mem_cons.mpr ⟨lw_p50, List.forall_mem_cons.mpr ⟨lw_p51, List.forall_mem_cons.mpr ⟨lw_p52, List.forall_mem_cons.mpr ⟨lw_p53, List.forall_mem_cons.mpr ⟨lw_p54, List.forall_mem_cons.mpr ⟨lw_p55, List.forall_mem_cons.mpr ⟨lw_p56, List.forall_mem_cons.mpr ⟨lw_p57, List.forall_mem_cons.mpr ⟨lw_p58, List.forall_mem_cons.mpr ⟨lw_p59, List.forall_mem_cons.mpr ⟨lw_p60, List.forall_mem_cons.mpr ⟨lw_p61, List.forall_mem_cons.mpr ⟨lw_p62, List.forall_mem_cons.mpr ⟨lw_p63, fun _ h => absurd h List.not_mem_nil⟩⟩⟩⟩⟩⟩⟩⟩⟩⟩⟩⟩⟩⟩⟩⟩
theorem lw_p64 : lw_okq (⟨"LineDispatchModel", "isPlace", "(I)Z"⟩, 24) := ⟨⟨by decide +kernel, by decide +kernel⟩, List.mem_of_getElem? (i := 701) (by decide +kernel), List.mem_of_getElem? (i := 962) (by decide +kernel), List.mem_of_getElem? (i := 963) (by decide +kernel)⟩
theorem lw_p65 : lw_okq (⟨"LineDispatchModel", "trackOf", "(II)I"⟩, 24) := ⟨⟨by decide +kernel, by decide +kernel⟩, List.mem_of_getElem? (i := 701) (by decide +kernel), List.mem_of_getElem? (i := 966) (by decide +kernel), List.mem_of_getElem? (i := 967) (by decide +kernel)⟩
theorem lw_p66 : lw_okq (⟨"LineDispatchModel", "trainsAt", "(I)I"⟩, 24) := ⟨⟨by decide +kernel, by decide +kernel⟩, List.mem_of_getElem? (i := 701) (by decide +kernel), List.mem_of_getElem? (i := 970) (by decide +kernel), List.mem_of_getElem? (i := 971) (by decide +kernel)⟩
theorem lw_p67 : lw_okq (⟨"LineDispatchModel", "isTrain", "(I)Z"⟩, 24) := ⟨⟨by decide +kernel, by decide +kernel⟩, List.mem_of_getElem? (i := 701) (by decide +kernel), List.mem_of_getElem? (i := 978) (by decide +kernel), List.mem_of_getElem? (i := 979) (by decide +kernel)⟩
theorem lw_p68 : lw_okq (⟨"LineDispatchModel", "minutesStill", "(I)I"⟩, 24) := ⟨⟨by decide +kernel, by decide +kernel⟩, List.mem_of_getElem? (i := 701) (by decide +kernel), List.mem_of_getElem? (i := 982) (by decide +kernel), List.mem_of_getElem? (i := 983) (by decide +kernel)⟩
theorem lw_p69 : lw_okq (⟨"LineDispatchModel", "minutesOf", "(II)I"⟩, 24) := ⟨⟨by decide +kernel, by decide +kernel⟩, List.mem_of_getElem? (i := 701) (by decide +kernel), List.mem_of_getElem? (i := 986) (by decide +kernel), List.mem_of_getElem? (i := 987) (by decide +kernel)⟩
theorem lw_p70 : lw_okq (⟨"LineDispatchModel", "firstAt", "(I)I"⟩, 24) := ⟨⟨by decide +kernel, by decide +kernel⟩, List.mem_of_getElem? (i := 701) (by decide +kernel), List.mem_of_getElem? (i := 998) (by decide +kernel), List.mem_of_getElem? (i := 999) (by decide +kernel)⟩
theorem lw_p71 : lw_okq (⟨"LineDispatchModel", "firstStuck", "(I)I"⟩, 24) := ⟨⟨by decide +kernel, by decide +kernel⟩, List.mem_of_getElem? (i := 701) (by decide +kernel), List.mem_of_getElem? (i := 1002) (by decide +kernel), List.mem_of_getElem? (i := 1003) (by decide +kernel)⟩
theorem lw_p72 : lw_okq (⟨"LineDispatchModel", "isEverDone", "(I)Z"⟩, 24) := ⟨⟨by decide +kernel, by decide +kernel⟩, List.mem_of_getElem? (i := 701) (by decide +kernel), List.mem_of_getElem? (i := 1006) (by decide +kernel), List.mem_of_getElem? (i := 1007) (by decide +kernel)⟩
theorem lw_p73 : lw_okq (⟨"LineDispatchModel", "planned", "(II)I"⟩, 24) := ⟨⟨by decide +kernel, by decide +kernel⟩, List.mem_of_getElem? (i := 701) (by decide +kernel), List.mem_of_getElem? (i := 1023) (by decide +kernel), List.mem_of_getElem? (i := 1024) (by decide +kernel)⟩
theorem lw_p74 : lw_okq (⟨"LineDispatchModel", "sends", "(I)I"⟩, 24) := ⟨⟨by decide +kernel, by decide +kernel⟩, List.mem_of_getElem? (i := 701) (by decide +kernel), List.mem_of_getElem? (i := 1027) (by decide +kernel), List.mem_of_getElem? (i := 1028) (by decide +kernel)⟩
theorem lw_p75 : lw_okq (⟨"LineDispatchModel", "firstBy", "(I)I"⟩, 24) := ⟨⟨by decide +kernel, by decide +kernel⟩, List.mem_of_getElem? (i := 701) (by decide +kernel), List.mem_of_getElem? (i := 1031) (by decide +kernel), List.mem_of_getElem? (i := 1032) (by decide +kernel)⟩
theorem lw_p76 : lw_okq (⟨"LineDispatchModel", "isAhead", "(III)Z"⟩, 24) := ⟨⟨by decide +kernel, by decide +kernel⟩, List.mem_of_getElem? (i := 701) (by decide +kernel), List.mem_of_getElem? (i := 1035) (by decide +kernel), List.mem_of_getElem? (i := 1036) (by decide +kernel)⟩
theorem lw_p77 : lw_okq (⟨"LineDispatchModel", "goes", "(I)V"⟩, 24) := ⟨⟨by decide +kernel, by decide +kernel⟩, List.mem_of_getElem? (i := 701) (by decide +kernel), List.mem_of_getElem? (i := 1039) (by decide +kernel), List.mem_of_getElem? (i := 1040) (by decide +kernel)⟩
theorem lw_p78 : lw_okq (⟨"LineDispatchModel", "enters", "(II)V"⟩, 24) := ⟨⟨by decide +kernel, by decide +kernel⟩, List.mem_of_getElem? (i := 701) (by decide +kernel), List.mem_of_getElem? (i := 1043) (by decide +kernel), List.mem_of_getElem? (i := 1044) (by decide +kernel)⟩
theorem lw_p79 : lw_okq (⟨"LineDispatchModel", "entry", "(II)I"⟩, 24) := ⟨⟨by decide +kernel, by decide +kernel⟩, List.mem_of_getElem? (i := 701) (by decide +kernel), List.mem_of_getElem? (i := 1047) (by decide +kernel), List.mem_of_getElem? (i := 1048) (by decide +kernel)⟩
def lw_privs_5 : List (MethodName × Nat) := [(⟨"LineDispatchModel", "isPlace", "(I)Z"⟩, 24), (⟨"LineDispatchModel", "trackOf", "(II)I"⟩, 24), (⟨"LineDispatchModel", "trainsAt", "(I)I"⟩, 24), (⟨"LineDispatchModel", "isTrain", "(I)Z"⟩, 24), (⟨"LineDispatchModel", "minutesStill", "(I)I"⟩, 24), (⟨"LineDispatchModel", "minutesOf", "(II)I"⟩, 24), (⟨"LineDispatchModel", "firstAt", "(I)I"⟩, 24), (⟨"LineDispatchModel", "firstStuck", "(I)I"⟩, 24), (⟨"LineDispatchModel", "isEverDone", "(I)Z"⟩, 24), (⟨"LineDispatchModel", "planned", "(II)I"⟩, 24), (⟨"LineDispatchModel", "sends", "(I)I"⟩, 24), (⟨"LineDispatchModel", "firstBy", "(I)I"⟩, 24), (⟨"LineDispatchModel", "isAhead", "(III)Z"⟩, 24), (⟨"LineDispatchModel", "goes", "(I)V"⟩, 24), (⟨"LineDispatchModel", "enters", "(II)V"⟩, 24), (⟨"LineDispatchModel", "entry", "(II)I"⟩, 24)]
theorem lw_r5 : ∀ q ∈ lw_privs_5, lw_okq q := List.forall_mem_cons.mpr ⟨lw_p64, List.forall_mem_cons.mpr ⟨lw_p65, List.forall_mem_cons.mpr ⟨lw_p66, List.forall_mem_cons.mpr ⟨lw_p67, List.forall_mem_cons.mpr ⟨lw_p68, List.forall_mem_cons.mpr ⟨lw_p69, List.forall_mem_cons.mpr ⟨lw_p70, List.forall_mem_cons.mpr ⟨lw_p71, List.forall_mem_cons.mpr ⟨lw_p72, List.forall_mem_cons.mpr ⟨lw_p73, List.forall_mem_cons.mpr ⟨lw_p74, List.forall_mem_cons.mpr ⟨lw_p75, List.forall_mem_cons.mpr ⟨lw_p76, List.forall_mem_cons.mpr ⟨lw_p77, List.forall_mem_cons.mpr ⟨lw_p78, List.forall_mem_cons.mpr ⟨lw_p79, fun _ h => absurd h List.not_mem_nil⟩⟩⟩⟩⟩⟩⟩⟩⟩⟩⟩⟩⟩⟩⟩⟩
theorem lw_p80 : lw_okq (⟨"LineDispatchModel", "goesOn", "(I)I"⟩, 24) := ⟨⟨by decide +kernel, by decide +kernel⟩, List.mem_of_getElem? (i := 701) (by decide +kernel), List.mem_of_getElem? (i := 1051) (by decide +kernel), List.mem_of_getElem? (i := 1052) (by decide +kernel)⟩
theorem lw_p81 : lw_okq (⟨"LineDispatchModel", "isGood", "(III)Z"⟩, 24) := ⟨⟨by decide +kernel, by decide +kernel⟩, List.mem_of_getElem? (i := 701) (by decide +kernel), List.mem_of_getElem? (i := 1080) (by decide +kernel), List.mem_of_getElem? (i := 1081) (by decide +kernel)⟩
theorem lw_p82 : lw_okq (⟨"LineDispatchModel", "leavesJournal", "(I)V"⟩, 24) := ⟨⟨by decide +kernel, by decide +kernel⟩, List.mem_of_getElem? (i := 701) (by decide +kernel), List.mem_of_getElem? (i := 1089) (by decide +kernel), List.mem_of_getElem? (i := 1090) (by decide +kernel)⟩
theorem lw_p83 : lw_okq (⟨"LineDispatchModel", "summed", "(III)I"⟩, 24) := ⟨⟨by decide +kernel, by decide +kernel⟩, List.mem_of_getElem? (i := 701) (by decide +kernel), List.mem_of_getElem? (i := 1133) (by decide +kernel), List.mem_of_getElem? (i := 1134) (by decide +kernel)⟩
def lw_privs_6 : List (MethodName × Nat) := [(⟨"LineDispatchModel", "goesOn", "(I)I"⟩, 24), (⟨"LineDispatchModel", "isGood", "(III)Z"⟩, 24), (⟨"LineDispatchModel", "leavesJournal", "(I)V"⟩, 24), (⟨"LineDispatchModel", "summed", "(III)I"⟩, 24)]
theorem lw_r6 : ∀ q ∈ lw_privs_6, lw_okq q := List.forall_mem_cons.mpr ⟨lw_p80, List.forall_mem_cons.mpr ⟨lw_p81, List.forall_mem_cons.mpr ⟨lw_p82, List.forall_mem_cons.mpr ⟨lw_p83, fun _ h => absurd h List.not_mem_nil⟩⟩⟩⟩
def lw_privs : List (MethodName × Nat) := lw_privs_1 ++ (lw_privs_2 ++ (lw_privs_3 ++ (lw_privs_4 ++ (lw_privs_5 ++ (lw_privs_6)))))
def lw_tbl : List Cond := k2_sels lw_privs ++ tables_1
theorem lw_privs_ok : ∀ q ∈ lw_privs, lw_okq q := by
  show ∀ q ∈ lw_privs_1 ++ (lw_privs_2 ++ (lw_privs_3 ++ (lw_privs_4 ++ (lw_privs_5 ++ (lw_privs_6))))), lw_okq q
  exact List.forall_mem_append.mpr ⟨lw_r1, List.forall_mem_append.mpr ⟨lw_r2, List.forall_mem_append.mpr ⟨lw_r3, List.forall_mem_append.mpr ⟨lw_r4, List.forall_mem_append.mpr ⟨lw_r5, lw_r6⟩⟩⟩⟩⟩
-- ===== end of PART A; then your names; then what follows =====
def RX0 : String := "LineDispatch$Line"
def TX0 : u_T := fun k => match k with
  | 0 => ("LineDispatch$Line", "places", "I", false)
  | 1 => ("LineDispatch$Line", "tracks", "[I", true)
  | 2 => ("LineDispatch$Line", "lengths", "[I", true)
  | 3 => ("LineDispatch$Line", "minutes", "[I", true)
  | 4 => ("LineDispatch$Line", "trains", "I", false)
  | 5 => ("LineDispatch$Line", "from", "[I", true)
  | 6 => ("LineDispatch$Line", "to", "[I", true)
  | 7 => ("LineDispatch$Line", "size", "[I", true)
  | 8 => ("LineDispatch$Line", "left", "[I", true)
  | 9 => ("LineDispatch$Line", "status", "[I", true)
  | 10 => ("LineDispatch$Line", "when", "[I", true)
  | 11 => ("LineDispatch$Line", "clock", "I", false)
  | 12 => ("LineDispatch$Line", "entries", "I", false)
  | 13 => ("LineDispatch$Line", "entryMinute", "[I", true)
  | 14 => ("LineDispatch$Line", "entryTrain", "[I", true)
  | _ => ("LineDispatch$Line", "entryPlace", "[I", true)
def tyX0 : Nat → FieldType := fun k => match k with
  | 0 => .int
  | 1 => .array .int
  | 2 => .array .int
  | 3 => .array .int
  | 4 => .int
  | 5 => .array .int
  | 6 => .array .int
  | 7 => .array .int
  | 8 => .array .int
  | 9 => .array .int
  | 10 => .array .int
  | 11 => .int
  | 12 => .int
  | 13 => .array .int
  | 14 => .array .int
  | _ => .array .int
abbrev wsX00 : List Cond := u_ws RX0 TX0 16
theorem nmX0 : ∀ a, a < 16 → ∀ b, b < 16 → a ≠ b → (TX0 a).2.1 ≠ (TX0 b).2.1 := by decide +kernel
theorem tyX0_ok : ∀ k, k < 16 → parseFieldDescriptor (TX0 k).2.2.1 = some (tyX0 k) := by decide +kernel
abbrev cX0_init : ByteArray := prog_2_method_1_code
def yX0_init : MethodName := ⟨RX0, "<init>", "()V"⟩
abbrev cX0_copyFrom : ByteArray := prog_2_method_2_code
def yX0_copyFrom : MethodName := ⟨RX0, "copyFrom", "(LLineDispatch$Line;)V"⟩
abbrev cX0_clearAll : ByteArray := prog_2_method_3_code
def yX0_clearAll : MethodName := ⟨RX0, "clearAll", "()V"⟩
abbrev cX0_hasPlace : ByteArray := prog_2_method_4_code
def yX0_hasPlace : MethodName := ⟨RX0, "hasPlace", "(I)Z"⟩
abbrev cX0_hasTrain : ByteArray := prog_2_method_5_code
def yX0_hasTrain : MethodName := ⟨RX0, "hasTrain", "(I)Z"⟩
abbrev cX0_hasAllToldPlaces : ByteArray := prog_2_method_6_code
def yX0_hasAllToldPlaces : MethodName := ⟨RX0, "hasAllToldPlaces", "()Z"⟩
abbrev cX0_openPlace : ByteArray := prog_2_method_7_code
def yX0_openPlace : MethodName := ⟨RX0, "openPlace", "()V"⟩
abbrev cX0_openTrack : ByteArray := prog_2_method_8_code
def yX0_openTrack : MethodName := ⟨RX0, "openTrack", "(I)V"⟩
abbrev cX0_openTrain : ByteArray := prog_2_method_9_code
def yX0_openTrain : MethodName := ⟨RX0, "openTrain", "(III)V"⟩
abbrev cX0_removeTrain : ByteArray := prog_2_method_10_code
def yX0_removeTrain : MethodName := ⟨RX0, "removeTrain", "(I)V"⟩
abbrev cX0_removeEntries : ByteArray := prog_2_method_11_code
def yX0_removeEntries : MethodName := ⟨RX0, "removeEntries", "(I)V"⟩
abbrev cX0_howMany : ByteArray := prog_2_method_12_code
def yX0_howMany : MethodName := ⟨RX0, "howMany", "(I)I"⟩
abbrev cX0_howManyThere : ByteArray := prog_2_method_13_code
def yX0_howManyThere : MethodName := ⟨RX0, "howManyThere", "(I)I"⟩
abbrev cX0_stepsLeft : ByteArray := prog_2_method_14_code
def yX0_stepsLeft : MethodName := ⟨RX0, "stepsLeft", "()I"⟩
abbrev cX0_spot : ByteArray := prog_2_method_15_code
def yX0_spot : MethodName := ⟨RX0, "spot", "(II)I"⟩
abbrev cX0_sectionAhead : ByteArray := prog_2_method_16_code
def yX0_sectionAhead : MethodName := ⟨RX0, "sectionAhead", "(II)I"⟩
abbrev cX0_minutesLeft : ByteArray := prog_2_method_17_code
def yX0_minutesLeft : MethodName := ⟨RX0, "minutesLeft", "(I)I"⟩
abbrev cX0_runnerIn : ByteArray := prog_2_method_18_code
def yX0_runnerIn : MethodName := ⟨RX0, "runnerIn", "(I)I"⟩
abbrev cX0_depart : ByteArray := prog_2_method_19_code
def yX0_depart : MethodName := ⟨RX0, "depart", "(I)V"⟩
abbrev cX0_enterJournal : ByteArray := prog_2_method_20_code
def yX0_enterJournal : MethodName := ⟨RX0, "enterJournal", "(II)V"⟩
abbrev cX0_forgetFirstEntry : ByteArray := prog_2_method_21_code
def yX0_forgetFirstEntry : MethodName := ⟨RX0, "forgetFirstEntry", "()V"⟩
abbrev cX0_passTime : ByteArray := prog_2_method_22_code
def yX0_passTime : MethodName := ⟨RX0, "passTime", "(I)I"⟩
abbrev cX0_latestEnd : ByteArray := prog_2_method_23_code
def yX0_latestEnd : MethodName := ⟨RX0, "latestEnd", "()I"⟩
abbrev cX0_waitForNext : ByteArray := prog_2_method_24_code
def yX0_waitForNext : MethodName := ⟨RX0, "waitForNext", "()I"⟩
def RX1 : String := "LineDispatch$Postures"
def TX1 : u_T := fun k => match k with
  | 0 => ("LineDispatch$Postures", "rooms", "[Z", true)
  | 1 => ("LineDispatch$Postures", "ends", "[I", true)
  | 2 => ("LineDispatch$Postures", "seen", "[B", true)
  | 3 => ("LineDispatch$Postures", "left", "[I", true)
  | 4 => ("LineDispatch$Postures", "there", "[I", true)
  | 5 => ("LineDispatch$Postures", "row", "[I", true)
  | 6 => ("LineDispatch$Postures", "roomsKnown", "Z", false)
  | _ => ("LineDispatch$Postures", "endsKnown", "Z", false)
def tyX1 : Nat → FieldType := fun k => match k with
  | 0 => .array .boolean
  | 1 => .array .int
  | 2 => .array .byte
  | 3 => .array .int
  | 4 => .array .int
  | 5 => .array .int
  | 6 => .boolean
  | _ => .boolean
abbrev wsX10 : List Cond := u_ws RX1 TX1 8
theorem nmX1 : ∀ a, a < 8 → ∀ b, b < 8 → a ≠ b → (TX1 a).2.1 ≠ (TX1 b).2.1 := by decide +kernel
theorem tyX1_ok : ∀ k, k < 8 → parseFieldDescriptor (TX1 k).2.2.1 = some (tyX1 k) := by decide +kernel
abbrev cX1_init : ByteArray := prog_3_method_1_code
def yX1_init : MethodName := ⟨RX1, "<init>", "()V"⟩
abbrev cX1_forget : ByteArray := prog_3_method_2_code
def yX1_forget : MethodName := ⟨RX1, "forget", "()V"⟩
abbrev cX1_learnRooms : ByteArray := prog_3_method_3_code
def yX1_learnRooms : MethodName := ⟨RX1, "learnRooms", "(LLineDispatch$Line;)V"⟩
abbrev cX1_fits : ByteArray := prog_3_method_4_code
def yX1_fits : MethodName := ⟨RX1, "fits", "(LLineDispatch$Line;II)Z"⟩
abbrev cX1_tracksFor : ByteArray := prog_3_method_5_code
def yX1_tracksFor : MethodName := ⟨RX1, "tracksFor", "(LLineDispatch$Line;II)I"⟩
abbrev cX1_trainsOf : ByteArray := prog_3_method_6_code
def yX1_trainsOf : MethodName := ⟨RX1, "trainsOf", "(LLineDispatch$Line;II)I"⟩
abbrev cX1_learn : ByteArray := prog_3_method_7_code
def yX1_learn : MethodName := ⟨RX1, "learn", "(LLineDispatch$Line;)V"⟩
abbrev cX1_learnEnds : ByteArray := prog_3_method_8_code
def yX1_learnEnds : MethodName := ⟨RX1, "learnEnds", "(LLineDispatch$Line;)V"⟩
abbrev cX1_highest : ByteArray := prog_3_method_9_code
def yX1_highest : MethodName := ⟨RX1, "highest", "(LLineDispatch$Line;I)I"⟩
abbrev cX1_learnOne : ByteArray := prog_3_method_10_code
def yX1_learnOne : MethodName := ⟨RX1, "learnOne", "(LLineDispatch$Line;)V"⟩
abbrev cX1_code : ByteArray := prog_3_method_11_code
def yX1_code : MethodName := ⟨RX1, "code", "()I"⟩
abbrev cX1_placeAll : ByteArray := prog_3_method_12_code
def yX1_placeAll : MethodName := ⟨RX1, "placeAll", "(LLineDispatch$Line;)V"⟩
abbrev cX1_look : ByteArray := prog_3_method_13_code
def yX1_look : MethodName := ⟨RX1, "look", "(LLineDispatch$Line;)V"⟩
abbrev cX1_canStep : ByteArray := prog_3_method_14_code
def yX1_canStep : MethodName := ⟨RX1, "canStep", "(LLineDispatch$Line;I)Z"⟩
abbrev cX1_endsBehind : ByteArray := prog_3_method_15_code
def yX1_endsBehind : MethodName := ⟨RX1, "endsBehind", "(I)I"⟩
abbrev cX1_isSafeBehind : ByteArray := prog_3_method_16_code
def yX1_isSafeBehind : MethodName := ⟨RX1, "isSafeBehind", "(I)Z"⟩
abbrev cX1_firstLostBehind : ByteArray := prog_3_method_17_code
def yX1_firstLostBehind : MethodName := ⟨RX1, "firstLostBehind", "(LLineDispatch$Line;I)I"⟩
abbrev cX1_firstAhead : ByteArray := prog_3_method_18_code
def yX1_firstAhead : MethodName := ⟨RX1, "firstAhead", "(LLineDispatch$Line;I)I"⟩
abbrev cX1_holdsAll : ByteArray := prog_3_method_19_code
def yX1_holdsAll : MethodName := ⟨RX1, "holdsAll", "(LLineDispatch$Line;)Z"⟩
abbrev cX1_isSafe : ByteArray := prog_3_method_20_code
def yX1_isSafe : MethodName := ⟨RX1, "isSafe", "()Z"⟩
abbrev cX1_reached : ByteArray := prog_3_method_21_code
def yX1_reached : MethodName := ⟨RX1, "reached", "(LLineDispatch$Line;Z)I"⟩
abbrev cX1_markNext : ByteArray := prog_3_method_22_code
def yX1_markNext : MethodName := ⟨RX1, "markNext", "(LLineDispatch$Line;I)V"⟩
abbrev cX1_goOneByOne : ByteArray := prog_3_method_23_code
def yX1_goOneByOne : MethodName := ⟨RX1, "goOneByOne", "(LLineDispatch$Line;)I"⟩
abbrev cX1_firstToGoAlone : ByteArray := prog_3_method_24_code
def yX1_firstToGoAlone : MethodName := ⟨RX1, "firstToGoAlone", "(LLineDispatch$Line;)I"⟩
abbrev cX1_goesAlone : ByteArray := prog_3_method_25_code
def yX1_goesAlone : MethodName := ⟨RX1, "goesAlone", "(LLineDispatch$Line;I)Z"⟩
def RX2 : String := "LineDispatch$Reader"
def TX2 : u_T := fun k => match k with
  | 0 => ("LineDispatch$Reader", "tape", "[B", true)
  | 1 => ("LineDispatch$Reader", "size", "I", false)
  | 2 => ("LineDispatch$Reader", "fault", "I", false)
  | 3 => ("LineDispatch$Reader", "faultAt", "I", false)
  | 4 => ("LineDispatch$Reader", "next", "I", false)
  | 5 => ("LineDispatch$Reader", "start", "I", false)
  | 6 => ("LineDispatch$Reader", "kind", "I", false)
  | _ => ("LineDispatch$Reader", "value", "I", false)
def tyX2 : Nat → FieldType := fun k => match k with
  | 0 => .array .byte
  | 1 => .int
  | 2 => .int
  | 3 => .int
  | 4 => .int
  | 5 => .int
  | 6 => .int
  | _ => .int
abbrev wsX20 : List Cond := u_ws RX2 TX2 8
theorem nmX2 : ∀ a, a < 8 → ∀ b, b < 8 → a ≠ b → (TX2 a).2.1 ≠ (TX2 b).2.1 := by decide +kernel
theorem tyX2_ok : ∀ k, k < 8 → parseFieldDescriptor (TX2 k).2.2.1 = some (tyX2 k) := by decide +kernel
abbrev cX2_init : ByteArray := prog_4_method_1_code
def yX2_init : MethodName := ⟨RX2, "<init>", "()V"⟩
abbrev cX2_readInto : ByteArray := prog_4_method_2_code
def yX2_readInto : MethodName := ⟨RX2, "readInto", "(LLineDispatch$Line;)I"⟩
abbrev cX2_failBehindAll : ByteArray := prog_4_method_3_code
def yX2_failBehindAll : MethodName := ⟨RX2, "failBehindAll", "(I)V"⟩
abbrev cX2_fail : ByteArray := prog_4_method_4_code
def yX2_fail : MethodName := ⟨RX2, "fail", "(I)Z"⟩
abbrev cX2_takeLine : ByteArray := prog_4_method_5_code
def yX2_takeLine : MethodName := ⟨RX2, "takeLine", "(LLineDispatch$Line;)Z"⟩
abbrev cX2_takePlace : ByteArray := prog_4_method_6_code
def yX2_takePlace : MethodName := ⟨RX2, "takePlace", "(LLineDispatch$Line;)Z"⟩
abbrev cX2_takeSection : ByteArray := prog_4_method_7_code
def yX2_takeSection : MethodName := ⟨RX2, "takeSection", "(LLineDispatch$Line;)Z"⟩
abbrev cX2_takeTrain : ByteArray := prog_4_method_8_code
def yX2_takeTrain : MethodName := ⟨RX2, "takeTrain", "(LLineDispatch$Line;)Z"⟩
abbrev cX2_takeNumber : ByteArray := prog_4_method_9_code
def yX2_takeNumber : MethodName := ⟨RX2, "takeNumber", "(II)Z"⟩
abbrev cX2_isNumberWithin : ByteArray := prog_4_method_10_code
def yX2_isNumberWithin : MethodName := ⟨RX2, "isNumberWithin", "(II)Z"⟩
abbrev cX2_takeSign : ByteArray := prog_4_method_11_code
def yX2_takeSign : MethodName := ⟨RX2, "takeSign", "()Z"⟩
abbrev cX2_takeToken : ByteArray := prog_4_method_12_code
def yX2_takeToken : MethodName := ⟨RX2, "takeToken", "()Z"⟩
abbrev cX2_kindOf : ByteArray := prog_4_method_13_code
def yX2_kindOf : MethodName := ⟨RX2, "kindOf", "(I)I"⟩
abbrev cX2_isWord : ByteArray := prog_4_method_14_code
def yX2_isWord : MethodName := ⟨RX2, "isWord", "(Ljava/lang/String;)Z"⟩
def RX3 : String := "LineDispatch$Sheet"
def TX3 : u_T := fun k => match k with
  | 0 => ("LineDispatch$Sheet", "size", "I", false)
  | 1 => ("LineDispatch$Sheet", "cells", "[I", true)
  | _ => ("LineDispatch$Sheet", "lane", "I", false)
def tyX3 : Nat → FieldType := fun k => match k with
  | 0 => .int
  | 1 => .array .int
  | _ => .int
abbrev wsX30 : List Cond := u_ws RX3 TX3 3
theorem nmX3 : ∀ a, a < 3 → ∀ b, b < 3 → a ≠ b → (TX3 a).2.1 ≠ (TX3 b).2.1 := by decide +kernel
theorem tyX3_ok : ∀ k, k < 3 → parseFieldDescriptor (TX3 k).2.2.1 = some (tyX3 k) := by decide +kernel
abbrev cX3_init : ByteArray := prog_5_method_1_code
def yX3_init : MethodName := ⟨RX3, "<init>", "()V"⟩
abbrev cX3_renew : ByteArray := prog_5_method_2_code
def yX3_renew : MethodName := ⟨RX3, "renew", "(II)V"⟩
abbrev cX3_faultOfCell : ByteArray := prog_5_method_3_code
def yX3_faultOfCell : MethodName := ⟨RX3, "faultOfCell", "(I)I"⟩
abbrev cX3_faultOfThree : ByteArray := prog_5_method_4_code
def yX3_faultOfThree : MethodName := ⟨RX3, "faultOfThree", "(II)I"⟩
abbrev cX3_put : ByteArray := prog_5_method_5_code
def yX3_put : MethodName := ⟨RX3, "put", "(II)V"⟩
def RX4 : String := "LineDispatch"
def TX4 : u_T := fun k => match k with
  | 0 => ("LineDispatch", "line", "LLineDispatch$Line;", true)
  | 1 => ("LineDispatch", "spare", "LLineDispatch$Line;", true)
  | 2 => ("LineDispatch", "images", "[LLineDispatch$Line;", true)
  | 3 => ("LineDispatch", "kept", "[Z", true)
  | 4 => ("LineDispatch", "sheets", "[LLineDispatch$Sheet;", true)
  | 5 => ("LineDispatch", "postures", "LLineDispatch$Postures;", true)
  | 6 => ("LineDispatch", "reader", "LLineDispatch$Reader;", true)
  | _ => ("LineDispatch", "latestTorn", "I", false)
def tyX4 : Nat → FieldType := fun k => match k with
  | 0 => .object "LineDispatch$Line"
  | 1 => .object "LineDispatch$Line"
  | 2 => .array (.object "LineDispatch$Line")
  | 3 => .array .boolean
  | 4 => .array (.object "LineDispatch$Sheet")
  | 5 => .object "LineDispatch$Postures"
  | 6 => .object "LineDispatch$Reader"
  | _ => .int
abbrev wsX40 : List Cond := u_ws RX4 TX4 8
theorem nmX4 : ∀ a, a < 8 → ∀ b, b < 8 → a ≠ b → (TX4 a).2.1 ≠ (TX4 b).2.1 := by decide +kernel
theorem tyX4_ok : ∀ k, k < 8 → parseFieldDescriptor (TX4 k).2.2.1 = some (tyX4 k) := by decide +kernel
abbrev cX4_init : ByteArray := prog_1_method_1_code
def yX4_init : MethodName := ⟨RX4, "<init>", "()V"⟩
abbrev cX4_feed : ByteArray := prog_1_method_2_code
def yX4_feed : MethodName := ⟨RX4, "feed", "(I)I"⟩
abbrev cX4_end : ByteArray := prog_1_method_3_code
def yX4_end : MethodName := ⟨RX4, "end", "(I)I"⟩
abbrev cX4_text : ByteArray := prog_1_method_4_code
def yX4_text : MethodName := ⟨RX4, "text", "()I"⟩
abbrev cX4_fault : ByteArray := prog_1_method_5_code
def yX4_fault : MethodName := ⟨RX4, "fault", "()I"⟩
abbrev cX4_rule : ByteArray := prog_1_method_6_code
def yX4_rule : MethodName := ⟨RX4, "rule", "(I)I"⟩
abbrev cX4_place : ByteArray := prog_1_method_7_code
def yX4_place : MethodName := ⟨RX4, "place", "(II)I"⟩
abbrev cX4_train : ByteArray := prog_1_method_8_code
def yX4_train : MethodName := ⟨RX4, "train", "(II)I"⟩
abbrev cX4_why : ByteArray := prog_1_method_9_code
def yX4_why : MethodName := ⟨RX4, "why", "(I)I"⟩
abbrev cX4_who : ByteArray := prog_1_method_10_code
def yX4_who : MethodName := ⟨RX4, "who", "(I)I"⟩
abbrev cX4_order : ByteArray := prog_1_method_11_code
def yX4_order : MethodName := ⟨RX4, "order", "(I)I"⟩
abbrev cX4_reach : ByteArray := prog_1_method_12_code
def yX4_reach : MethodName := ⟨RX4, "reach", "(I)I"⟩
abbrev cX4_plan : ByteArray := prog_1_method_13_code
def yX4_plan : MethodName := ⟨RX4, "plan", "(II)I"⟩
abbrev cX4_best : ByteArray := prog_1_method_14_code
def yX4_best : MethodName := ⟨RX4, "best", "()I"⟩
abbrev cX4_let : ByteArray := prog_1_method_15_code
def yX4_let : MethodName := ⟨RX4, "let", "(I)I"⟩
abbrev cX4_tick : ByteArray := prog_1_method_16_code
def yX4_tick : MethodName := ⟨RX4, "tick", "(I)I"⟩
abbrev cX4_send : ByteArray := prog_1_method_17_code
def yX4_send : MethodName := ⟨RX4, "send", "(I)I"⟩
abbrev cX4_journal : ByteArray := prog_1_method_18_code
def yX4_journal : MethodName := ⟨RX4, "journal", "(II)I"⟩
abbrev cX4_add : ByteArray := prog_1_method_19_code
def yX4_add : MethodName := ⟨RX4, "add", "(III)I"⟩
abbrev cX4_drop : ByteArray := prog_1_method_20_code
def yX4_drop : MethodName := ⟨RX4, "drop", "(I)I"⟩
abbrev cX4_draw : ByteArray := prog_1_method_21_code
def yX4_draw : MethodName := ⟨RX4, "draw", "(II)I"⟩
abbrev cX4_keep : ByteArray := prog_1_method_22_code
def yX4_keep : MethodName := ⟨RX4, "keep", "(I)I"⟩
abbrev cX4_back : ByteArray := prog_1_method_23_code
def yX4_back : MethodName := ⟨RX4, "back", "(I)I"⟩
abbrev cX4_sheet : ByteArray := prog_1_method_24_code
def yX4_sheet : MethodName := ⟨RX4, "sheet", "(III)I"⟩
abbrev cX4_lay : ByteArray := prog_1_method_25_code
def yX4_lay : MethodName := ⟨RX4, "lay", "(III)I"⟩
abbrev cX4_read : ByteArray := prog_1_method_26_code
def yX4_read : MethodName := ⟨RX4, "read", "(IIII)I"⟩
abbrev cX4_torn : ByteArray := prog_1_method_27_code
def yX4_torn : MethodName := ⟨RX4, "torn", "()I"⟩
abbrev cX4_count : ByteArray := prog_1_method_28_code
def yX4_count : MethodName := ⟨RX4, "count", "(I)I"⟩
abbrev cX4_isRule : ByteArray := prog_1_method_29_code
def yX4_isRule : MethodName := ⟨RX4, "isRule", "(I)Z"⟩
abbrev cX4_isImage : ByteArray := prog_1_method_30_code
def yX4_isImage : MethodName := ⟨RX4, "isImage", "(I)Z"⟩
abbrev cX4_isSheet : ByteArray := prog_1_method_31_code
def yX4_isSheet : MethodName := ⟨RX4, "isSheet", "(I)Z"⟩
abbrev cX4_isLane : ByteArray := prog_1_method_32_code
def yX4_isLane : MethodName := ⟨RX4, "isLane", "(I)Z"⟩
abbrev cX4_sum : ByteArray := prog_1_method_33_code
def yX4_sum : MethodName := ⟨RX4, "sum", "([II)I"⟩
abbrev cX4_faultBehindAll : ByteArray := prog_1_method_34_code
def yX4_faultBehindAll : MethodName := ⟨RX4, "faultBehindAll", "(LLineDispatch$Line;)I"⟩
abbrev cX4_isPlain : ByteArray := prog_1_method_35_code
def yX4_isPlain : MethodName := ⟨RX4, "isPlain", "()Z"⟩
abbrev cX4_against : ByteArray := prog_1_method_36_code
def yX4_against : MethodName := ⟨RX4, "against", "(LLineDispatch$Line;I)I"⟩
abbrev cX4_letAllGo : ByteArray := prog_1_method_37_code
def yX4_letAllGo : MethodName := ⟨RX4, "letAllGo", "(LLineDispatch$Line;I)I"⟩
abbrev cX4_firstBy : ByteArray := prog_1_method_38_code
def yX4_firstBy : MethodName := ⟨RX4, "firstBy", "(LLineDispatch$Line;I)I"⟩
abbrev cX4_isAhead : ByteArray := prog_1_method_39_code
def yX4_isAhead : MethodName := ⟨RX4, "isAhead", "(LLineDispatch$Line;III)Z"⟩
abbrev cX4_howManyFree : ByteArray := prog_1_method_40_code
def yX4_howManyFree : MethodName := ⟨RX4, "howManyFree", "()I"⟩
abbrev cX4_planned : ByteArray := prog_1_method_41_code
def yX4_planned : MethodName := ⟨RX4, "planned", "(IZ)I"⟩
def RX5 : String := "LineDispatchModel"
def TX5 : u_T := fun k => match k with
  | 0 => ("LineDispatchModel", "st", "[I", true)
  | 1 => ("LineDispatchModel", "draft", "[I", true)
  | 2 => ("LineDispatchModel", "before", "[I", true)
  | 3 => ("LineDispatchModel", "kept", "[I", true)
  | 4 => ("LineDispatchModel", "isKept", "[Z", true)
  | 5 => ("LineDispatchModel", "tape", "[I", true)
  | 6 => ("LineDispatchModel", "taped", "I", false)
  | 7 => ("LineDispatchModel", "pos", "I", false)
  | 8 => ("LineDispatchModel", "begun", "I", false)
  | 9 => ("LineDispatchModel", "sort", "I", false)
  | 10 => ("LineDispatchModel", "figure", "I", false)
  | 11 => ("LineDispatchModel", "fault", "I", false)
  | 12 => ("LineDispatchModel", "wrongAt", "I", false)
  | 13 => ("LineDispatchModel", "spot", "[I", true)
  | 14 => ("LineDispatchModel", "queue", "[I", true)
  | 15 => ("LineDispatchModel", "isSeen", "[Z", true)
  | 16 => ("LineDispatchModel", "isSafe", "[Z", true)
  | 17 => ("LineDispatchModel", "queued", "I", false)
  | 18 => ("LineDispatchModel", "sequence", "[I", true)
  | 19 => ("LineDispatchModel", "sequenceMany", "I", false)
  | 20 => ("LineDispatchModel", "lanes", "[I", true)
  | 21 => ("LineDispatchModel", "sizes", "[I", true)
  | 22 => ("LineDispatchModel", "cells", "[I", true)
  | _ => ("LineDispatchModel", "torn", "I", false)
def tyX5 : Nat → FieldType := fun k => match k with
  | 0 => .array .int
  | 1 => .array .int
  | 2 => .array .int
  | 3 => .array .int
  | 4 => .array .boolean
  | 5 => .array .int
  | 6 => .int
  | 7 => .int
  | 8 => .int
  | 9 => .int
  | 10 => .int
  | 11 => .int
  | 12 => .int
  | 13 => .array .int
  | 14 => .array .int
  | 15 => .array .boolean
  | 16 => .array .boolean
  | 17 => .int
  | 18 => .array .int
  | 19 => .int
  | 20 => .array .int
  | 21 => .array .int
  | 22 => .array .int
  | _ => .int
abbrev wsX50 : List Cond := u_ws RX5 TX5 24
theorem nmX5 : ∀ a, a < 24 → ∀ b, b < 24 → a ≠ b → (TX5 a).2.1 ≠ (TX5 b).2.1 := by decide +kernel
theorem tyX5_ok : ∀ k, k < 24 → parseFieldDescriptor (TX5 k).2.2.1 = some (tyX5 k) := by decide +kernel
abbrev cX5_init : ByteArray := prog_7_method_1_code
def yX5_init : MethodName := ⟨RX5, "<init>", "()V"⟩
abbrev cX5_in : ByteArray := prog_7_method_3_code
def yX5_in : MethodName := ⟨RX5, "in", "(JJJ)Z"⟩
abbrev cX5_flag : ByteArray := prog_7_method_4_code
def yX5_flag : MethodName := ⟨RX5, "flag", "(Z)I"⟩
abbrev cX5_keepBefore : ByteArray := prog_7_method_5_code
def yX5_keepBefore : MethodName := ⟨RX5, "keepBefore", "()V"⟩
abbrev cX5_backBefore : ByteArray := prog_7_method_6_code
def yX5_backBefore : MethodName := ⟨RX5, "backBefore", "()V"⟩
abbrev cX5_feed : ByteArray := prog_7_method_7_code
def yX5_feed : MethodName := ⟨RX5, "feed", "(I)I"⟩
abbrev cX5_end : ByteArray := prog_7_method_8_code
def yX5_end : MethodName := ⟨RX5, "end", "(I)I"⟩
abbrev cX5_requires : ByteArray := prog_7_method_9_code
def yX5_requires : MethodName := ⟨RX5, "requires", "(ZI)V"⟩
abbrev cX5_byteAt : ByteArray := prog_7_method_10_code
def yX5_byteAt : MethodName := ⟨RX5, "byteAt", "(I)I"⟩
abbrev cX5_is : ByteArray := prog_7_method_11_code
def yX5_is : MethodName := ⟨RX5, "is", "(IIIII)Z"⟩
abbrev cX5_lineNow : ByteArray := prog_7_method_12_code
def yX5_lineNow : MethodName := ⟨RX5, "lineNow", "()I"⟩
abbrev cX5_hasRoom : ByteArray := prog_7_method_13_code
def yX5_hasRoom : MethodName := ⟨RX5, "hasRoom", "(I)Z"⟩
abbrev cX5_reads : ByteArray := prog_7_method_14_code
def yX5_reads : MethodName := ⟨RX5, "reads", "()V"⟩
abbrev cX5_readNumber : ByteArray := prog_7_method_15_code
def yX5_readNumber : MethodName := ⟨RX5, "readNumber", "(III)I"⟩
abbrev cX5_readPlace : ByteArray := prog_7_method_16_code
def yX5_readPlace : MethodName := ⟨RX5, "readPlace", "()V"⟩
abbrev cX5_readTrain : ByteArray := prog_7_method_17_code
def yX5_readTrain : MethodName := ⟨RX5, "readTrain", "()V"⟩
abbrev cX5_readLine : ByteArray := prog_7_method_18_code
def yX5_readLine : MethodName := ⟨RX5, "readLine", "()V"⟩
abbrev cX5_areAllPlaces : ByteArray := prog_7_method_19_code
def yX5_areAllPlaces : MethodName := ⟨RX5, "areAllPlaces", "()Z"⟩
abbrev cX5_isHeldAll : ByteArray := prog_7_method_20_code
def yX5_isHeldAll : MethodName := ⟨RX5, "isHeldAll", "()Z"⟩
abbrev cX5_isSafeNow : ByteArray := prog_7_method_21_code
def yX5_isSafeNow : MethodName := ⟨RX5, "isSafeNow", "()Z"⟩
abbrev cX5_text : ByteArray := prog_7_method_22_code
def yX5_text : MethodName := ⟨RX5, "text", "()I"⟩
abbrev cX5_fault : ByteArray := prog_7_method_23_code
def yX5_fault : MethodName := ⟨RX5, "fault", "()I"⟩
abbrev cX5_isPlace : ByteArray := prog_7_method_24_code
def yX5_isPlace : MethodName := ⟨RX5, "isPlace", "(I)Z"⟩
abbrev cX5_isTrain : ByteArray := prog_7_method_25_code
def yX5_isTrain : MethodName := ⟨RX5, "isTrain", "(I)Z"⟩
abbrev cX5_ofTrain : ByteArray := prog_7_method_26_code
def yX5_ofTrain : MethodName := ⟨RX5, "ofTrain", "(II)I"⟩
abbrev cX5_ofPlace : ByteArray := prog_7_method_27_code
def yX5_ofPlace : MethodName := ⟨RX5, "ofPlace", "(II)I"⟩
abbrev cX5_nextFrom : ByteArray := prog_7_method_28_code
def yX5_nextFrom : MethodName := ⟨RX5, "nextFrom", "(II)I"⟩
abbrev cX5_isDoneIn : ByteArray := prog_7_method_29_code
def yX5_isDoneIn : MethodName := ⟨RX5, "isDoneIn", "(I)Z"⟩
abbrev cX5_minutesOf : ByteArray := prog_7_method_30_code
def yX5_minutesOf : MethodName := ⟨RX5, "minutesOf", "(II)I"⟩
abbrev cX5_minutesStill : ByteArray := prog_7_method_31_code
def yX5_minutesStill : MethodName := ⟨RX5, "minutesStill", "(I)I"⟩
abbrev cX5_withStatus : ByteArray := prog_7_method_32_code
def yX5_withStatus : MethodName := ⟨RX5, "withStatus", "(I)I"⟩
abbrev cX5_movesLeft : ByteArray := prog_7_method_33_code
def yX5_movesLeft : MethodName := ⟨RX5, "movesLeft", "()I"⟩
abbrev cX5_weightOf : ByteArray := prog_7_method_34_code
def yX5_weightOf : MethodName := ⟨RX5, "weightOf", "(I)I"⟩
abbrev cX5_postureNow : ByteArray := prog_7_method_35_code
def yX5_postureNow : MethodName := ⟨RX5, "postureNow", "()I"⟩
abbrev cX5_decode : ByteArray := prog_7_method_36_code
def yX5_decode : MethodName := ⟨RX5, "decode", "(I)V"⟩
abbrev cX5_encode : ByteArray := prog_7_method_37_code
def yX5_encode : MethodName := ⟨RX5, "encode", "()I"⟩
abbrev cX5_tracksFor : ByteArray := prog_7_method_38_code
def yX5_tracksFor : MethodName := ⟨RX5, "tracksFor", "(II)I"⟩
abbrev cX5_trainsFor : ByteArray := prog_7_method_39_code
def yX5_trainsFor : MethodName := ⟨RX5, "trainsFor", "(II)I"⟩
abbrev cX5_holds : ByteArray := prog_7_method_40_code
def yX5_holds : MethodName := ⟨RX5, "holds", "(I)Z"⟩
abbrev cX5_movedBy : ByteArray := prog_7_method_41_code
def yX5_movedBy : MethodName := ⟨RX5, "movedBy", "(I)I"⟩
abbrev cX5_explore : ByteArray := prog_7_method_42_code
def yX5_explore : MethodName := ⟨RX5, "explore", "(I)V"⟩
abbrev cX5_goesAlone : ByteArray := prog_7_method_43_code
def yX5_goesAlone : MethodName := ⟨RX5, "goesAlone", "(I)Z"⟩
abbrev cX5_findSequence : ByteArray := prog_7_method_44_code
def yX5_findSequence : MethodName := ⟨RX5, "findSequence", "()V"⟩
abbrev cX5_isPlain : ByteArray := prog_7_method_45_code
def yX5_isPlain : MethodName := ⟨RX5, "isPlain", "()Z"⟩
abbrev cX5_leftBy : ByteArray := prog_7_method_46_code
def yX5_leftBy : MethodName := ⟨RX5, "leftBy", "(I)I"⟩
abbrev cX5_runsBetween : ByteArray := prog_7_method_47_code
def yX5_runsBetween : MethodName := ⟨RX5, "runsBetween", "(II)I"⟩
abbrev cX5_against : ByteArray := prog_7_method_48_code
def yX5_against : MethodName := ⟨RX5, "against", "(I)I"⟩
abbrev cX5_canGo : ByteArray := prog_7_method_49_code
def yX5_canGo : MethodName := ⟨RX5, "canGo", "()I"⟩
abbrev cX5_rule : ByteArray := prog_7_method_50_code
def yX5_rule : MethodName := ⟨RX5, "rule", "(I)I"⟩
abbrev cX5_trackOf : ByteArray := prog_7_method_51_code
def yX5_trackOf : MethodName := ⟨RX5, "trackOf", "(II)I"⟩
abbrev cX5_trainsAt : ByteArray := prog_7_method_52_code
def yX5_trainsAt : MethodName := ⟨RX5, "trainsAt", "(I)I"⟩
abbrev cX5_place : ByteArray := prog_7_method_53_code
def yX5_place : MethodName := ⟨RX5, "place", "(II)I"⟩
abbrev cX5_train : ByteArray := prog_7_method_54_code
def yX5_train : MethodName := ⟨RX5, "train", "(II)I"⟩
abbrev cX5_why : ByteArray := prog_7_method_55_code
def yX5_why : MethodName := ⟨RX5, "why", "(I)I"⟩
abbrev cX5_firstAt : ByteArray := prog_7_method_56_code
def yX5_firstAt : MethodName := ⟨RX5, "firstAt", "(I)I"⟩
abbrev cX5_isEverDone : ByteArray := prog_7_method_57_code
def yX5_isEverDone : MethodName := ⟨RX5, "isEverDone", "(I)Z"⟩
abbrev cX5_firstStuck : ByteArray := prog_7_method_58_code
def yX5_firstStuck : MethodName := ⟨RX5, "firstStuck", "(I)I"⟩
abbrev cX5_who : ByteArray := prog_7_method_59_code
def yX5_who : MethodName := ⟨RX5, "who", "(I)I"⟩
abbrev cX5_order : ByteArray := prog_7_method_60_code
def yX5_order : MethodName := ⟨RX5, "order", "(I)I"⟩
abbrev cX5_reach : ByteArray := prog_7_method_61_code
def yX5_reach : MethodName := ⟨RX5, "reach", "(I)I"⟩
abbrev cX5_enters : ByteArray := prog_7_method_62_code
def yX5_enters : MethodName := ⟨RX5, "enters", "(II)V"⟩
abbrev cX5_entry : ByteArray := prog_7_method_63_code
def yX5_entry : MethodName := ⟨RX5, "entry", "(II)I"⟩
abbrev cX5_goes : ByteArray := prog_7_method_64_code
def yX5_goes : MethodName := ⟨RX5, "goes", "(I)V"⟩
abbrev cX5_goesOn : ByteArray := prog_7_method_65_code
def yX5_goesOn : MethodName := ⟨RX5, "goesOn", "(I)I"⟩
abbrev cX5_isAhead : ByteArray := prog_7_method_66_code
def yX5_isAhead : MethodName := ⟨RX5, "isAhead", "(III)Z"⟩
abbrev cX5_firstBy : ByteArray := prog_7_method_67_code
def yX5_firstBy : MethodName := ⟨RX5, "firstBy", "(I)I"⟩
abbrev cX5_sends : ByteArray := prog_7_method_68_code
def yX5_sends : MethodName := ⟨RX5, "sends", "(I)I"⟩
abbrev cX5_planned : ByteArray := prog_7_method_69_code
def yX5_planned : MethodName := ⟨RX5, "planned", "(II)I"⟩
abbrev cX5_plan : ByteArray := prog_7_method_70_code
def yX5_plan : MethodName := ⟨RX5, "plan", "(II)I"⟩
abbrev cX5_best : ByteArray := prog_7_method_71_code
def yX5_best : MethodName := ⟨RX5, "best", "()I"⟩
abbrev cX5_let : ByteArray := prog_7_method_72_code
def yX5_let : MethodName := ⟨RX5, "let", "(I)I"⟩
abbrev cX5_tick : ByteArray := prog_7_method_73_code
def yX5_tick : MethodName := ⟨RX5, "tick", "(I)I"⟩
abbrev cX5_send : ByteArray := prog_7_method_74_code
def yX5_send : MethodName := ⟨RX5, "send", "(I)I"⟩
abbrev cX5_journal : ByteArray := prog_7_method_75_code
def yX5_journal : MethodName := ⟨RX5, "journal", "(II)I"⟩
abbrev cX5_isGood : ByteArray := prog_7_method_76_code
def yX5_isGood : MethodName := ⟨RX5, "isGood", "(III)Z"⟩
abbrev cX5_add : ByteArray := prog_7_method_77_code
def yX5_add : MethodName := ⟨RX5, "add", "(III)I"⟩
abbrev cX5_leavesJournal : ByteArray := prog_7_method_78_code
def yX5_leavesJournal : MethodName := ⟨RX5, "leavesJournal", "(I)V"⟩
abbrev cX5_drop : ByteArray := prog_7_method_79_code
def yX5_drop : MethodName := ⟨RX5, "drop", "(I)I"⟩
abbrev cX5_draw : ByteArray := prog_7_method_80_code
def yX5_draw : MethodName := ⟨RX5, "draw", "(II)I"⟩
abbrev cX5_keep : ByteArray := prog_7_method_81_code
def yX5_keep : MethodName := ⟨RX5, "keep", "(I)I"⟩
abbrev cX5_back : ByteArray := prog_7_method_82_code
def yX5_back : MethodName := ⟨RX5, "back", "(I)I"⟩
abbrev cX5_isSheet : ByteArray := prog_7_method_83_code
def yX5_isSheet : MethodName := ⟨RX5, "isSheet", "(II)Z"⟩
abbrev cX5_sheet : ByteArray := prog_7_method_84_code
def yX5_sheet : MethodName := ⟨RX5, "sheet", "(III)I"⟩
abbrev cX5_lay : ByteArray := prog_7_method_85_code
def yX5_lay : MethodName := ⟨RX5, "lay", "(III)I"⟩
abbrev cX5_read : ByteArray := prog_7_method_86_code
def yX5_read : MethodName := ⟨RX5, "read", "(IIII)I"⟩
abbrev cX5_torn : ByteArray := prog_7_method_87_code
def yX5_torn : MethodName := ⟨RX5, "torn", "()I"⟩
abbrev cX5_summed : ByteArray := prog_7_method_88_code
def yX5_summed : MethodName := ⟨RX5, "summed", "(III)I"⟩
abbrev cX5_count : ByteArray := prog_7_method_89_code
def yX5_count : MethodName := ⟨RX5, "count", "(I)I"⟩
def RJx145de : String := "java/io/Serializable"
def TJx145de : u_T := fun k => match k with
  | _ => ("", "", "", false)
def tyJx145de : Nat → FieldType := fun k => match k with
  | _ => .int
abbrev wsJx145de0 : List Cond := u_ws RJx145de TJx145de 0
theorem nmJx145de : ∀ a, a < 0 → ∀ b, b < 0 → a ≠ b → (TJx145de a).2.1 ≠ (TJx145de b).2.1 := by decide +kernel
theorem tyJx145de_ok : ∀ k, k < 0 → parseFieldDescriptor (TJx145de k).2.2.1 = some (tyJx145de k) := by decide +kernel
def RJx9f9b0 : String := "java/lang/CharSequence"
def TJx9f9b0 : u_T := fun k => match k with
  | _ => ("", "", "", false)
def tyJx9f9b0 : Nat → FieldType := fun k => match k with
  | _ => .int
abbrev wsJx9f9b00 : List Cond := u_ws RJx9f9b0 TJx9f9b0 0
theorem nmJx9f9b0 : ∀ a, a < 0 → ∀ b, b < 0 → a ≠ b → (TJx9f9b0 a).2.1 ≠ (TJx9f9b0 b).2.1 := by decide +kernel
theorem tyJx9f9b0_ok : ∀ k, k < 0 → parseFieldDescriptor (TJx9f9b0 k).2.2.1 = some (tyJx9f9b0 k) := by decide +kernel
def RJxb160c : String := "java/lang/Comparable"
def TJxb160c : u_T := fun k => match k with
  | _ => ("", "", "", false)
def tyJxb160c : Nat → FieldType := fun k => match k with
  | _ => .int
abbrev wsJxb160c0 : List Cond := u_ws RJxb160c TJxb160c 0
theorem nmJxb160c : ∀ a, a < 0 → ∀ b, b < 0 → a ≠ b → (TJxb160c a).2.1 ≠ (TJxb160c b).2.1 := by decide +kernel
theorem tyJxb160c_ok : ∀ k, k < 0 → parseFieldDescriptor (TJxb160c k).2.2.1 = some (tyJxb160c k) := by decide +kernel
def RJ9 : String := "java/lang/Math"
def TJ9 : u_T := fun k => match k with
  | _ => ("", "", "", false)
def tyJ9 : Nat → FieldType := fun k => match k with
  | _ => .int
abbrev wsJ90 : List Cond := u_ws RJ9 TJ9 0
theorem nmJ9 : ∀ a, a < 0 → ∀ b, b < 0 → a ≠ b → (TJ9 a).2.1 ≠ (TJ9 b).2.1 := by decide +kernel
theorem tyJ9_ok : ∀ k, k < 0 → parseFieldDescriptor (TJ9 k).2.2.1 = some (tyJ9 k) := by decide +kernel
abbrev cJ9_abs_0f7a4 : ByteArray := prog_8_method_59_code
def yJ9_abs_0f7a4 : MethodName := ⟨RJ9, "abs", "(I)I"⟩
abbrev cJ9_max_7cf53 : ByteArray := prog_8_method_65_code
def yJ9_max_7cf53 : MethodName := ⟨RJ9, "max", "(II)I"⟩
def RJ0 : String := "java/lang/String"
def TJ0 : u_T := fun k => match k with
  | _ => ("", "", "", false)
def tyJ0 : Nat → FieldType := fun k => match k with
  | _ => .int
abbrev wsJ00 : List Cond := u_ws RJ0 TJ0 0
theorem nmJ0 : ∀ a, a < 0 → ∀ b, b < 0 → a ≠ b → (TJ0 a).2.1 ≠ (TJ0 b).2.1 := by decide +kernel
theorem tyJ0_ok : ∀ k, k < 0 → parseFieldDescriptor (TJ0 k).2.2.1 = some (tyJ0 k) := by decide +kernel
abbrev cJ0_length_8abf5 : ByteArray := prog_9_method_54_code
def yJ0_length_8abf5 : MethodName := ⟨RJ0, "length", "()I"⟩
abbrev cJ0_charAt_5068e : ByteArray := prog_9_method_56_code
def yJ0_charAt_5068e : MethodName := ⟨RJ0, "charAt", "(I)C"⟩
abbrev cJ0_coder_7d493 : ByteArray := prog_9_method_152_code
def yJ0_coder_7d493 : MethodName := ⟨RJ0, "coder", "()B"⟩
abbrev cJ0_isLatin1_aae02 : ByteArray := prog_9_method_154_code
def yJ0_isLatin1_aae02 : MethodName := ⟨RJ0, "isLatin1", "()Z"⟩
abbrev cJ0_checkIndex_df160 : ByteArray := prog_9_method_155_code
def yJ0_checkIndex_df160 : MethodName := ⟨RJ0, "checkIndex", "(II)V"⟩
def RJ1 : String := "java/lang/StringLatin1"
def TJ1 : u_T := fun k => match k with
  | _ => ("", "", "", false)
def tyJ1 : Nat → FieldType := fun k => match k with
  | _ => .int
abbrev wsJ10 : List Cond := u_ws RJ1 TJ1 0
theorem nmJ1 : ∀ a, a < 0 → ∀ b, b < 0 → a ≠ b → (TJ1 a).2.1 ≠ (TJ1 b).2.1 := by decide +kernel
theorem tyJ1_ok : ∀ k, k < 0 → parseFieldDescriptor (TJ1 k).2.2.1 = some (tyJ1 k) := by decide +kernel
abbrev cJ1_charAt_3b067 : ByteArray := prog_10_method_2_code
def yJ1_charAt_3b067 : MethodName := ⟨RJ1, "charAt", "([BI)C"⟩
def RJ2 : String := "java/lang/StringUTF16"
def TJ2 : u_T := fun k => match k with
  | _ => ("", "", "", false)
def tyJ2 : Nat → FieldType := fun k => match k with
  | _ => .int
abbrev wsJ20 : List Cond := u_ws RJ2 TJ2 0
theorem nmJ2 : ∀ a, a < 0 → ∀ b, b < 0 → a ≠ b → (TJ2 a).2.1 ≠ (TJ2 b).2.1 := by decide +kernel
theorem tyJ2_ok : ∀ k, k < 0 → parseFieldDescriptor (TJ2 k).2.2.1 = some (tyJ2 k) := by decide +kernel
abbrev cJ2_getChar_3b067 : ByteArray := prog_11_method_5_code
def yJ2_getChar_3b067 : MethodName := ⟨RJ2, "getChar", "([BI)C"⟩
abbrev cJ2_length_9d52b : ByteArray := prog_11_method_6_code
def yJ2_length_9d52b : MethodName := ⟨RJ2, "length", "([B)I"⟩
abbrev cJ2_charAt_3b067 : ByteArray := prog_11_method_83_code
def yJ2_charAt_3b067 : MethodName := ⟨RJ2, "charAt", "([BI)C"⟩
abbrev cJ2_checkIndex_2214a : ByteArray := prog_11_method_91_code
def yJ2_checkIndex_2214a : MethodName := ⟨RJ2, "checkIndex", "(I[B)V"⟩
def RJ10 : String := "java/lang/System"
def TJ10 : u_T := fun k => match k with
  | _ => ("", "", "", false)
def tyJ10 : Nat → FieldType := fun k => match k with
  | _ => .int
abbrev wsJ100 : List Cond := u_ws RJ10 TJ10 0
theorem nmJ10 : ∀ a, a < 0 → ∀ b, b < 0 → a ≠ b → (TJ10 a).2.1 ≠ (TJ10 b).2.1 := by decide +kernel
theorem tyJ10_ok : ∀ k, k < 0 → parseFieldDescriptor (TJ10 k).2.2.1 = some (tyJ10 k) := by decide +kernel
def RJxfd54e : String := "java/lang/constant/Constable"
def TJxfd54e : u_T := fun k => match k with
  | _ => ("", "", "", false)
def tyJxfd54e : Nat → FieldType := fun k => match k with
  | _ => .int
abbrev wsJxfd54e0 : List Cond := u_ws RJxfd54e TJxfd54e 0
theorem nmJxfd54e : ∀ a, a < 0 → ∀ b, b < 0 → a ≠ b → (TJxfd54e a).2.1 ≠ (TJxfd54e b).2.1 := by decide +kernel
theorem tyJxfd54e_ok : ∀ k, k < 0 → parseFieldDescriptor (TJxfd54e k).2.2.1 = some (tyJxfd54e k) := by decide +kernel
def RJx3cf43 : String := "java/lang/constant/ConstantDesc"
def TJx3cf43 : u_T := fun k => match k with
  | _ => ("", "", "", false)
def tyJx3cf43 : Nat → FieldType := fun k => match k with
  | _ => .int
abbrev wsJx3cf430 : List Cond := u_ws RJx3cf43 TJx3cf43 0
theorem nmJx3cf43 : ∀ a, a < 0 → ∀ b, b < 0 → a ≠ b → (TJx3cf43 a).2.1 ≠ (TJx3cf43 b).2.1 := by decide +kernel
theorem tyJx3cf43_ok : ∀ k, k < 0 → parseFieldDescriptor (TJx3cf43 k).2.2.1 = some (tyJx3cf43 k) := by decide +kernel
def RJ7 : String := "java/util/Arrays"
def TJ7 : u_T := fun k => match k with
  | _ => ("", "", "", false)
def tyJ7 : Nat → FieldType := fun k => match k with
  | _ => .int
abbrev wsJ70 : List Cond := u_ws RJ7 TJ7 0
theorem nmJ7 : ∀ a, a < 0 → ∀ b, b < 0 → a ≠ b → (TJ7 a).2.1 ≠ (TJ7 b).2.1 := by decide +kernel
theorem tyJ7_ok : ∀ k, k < 0 → parseFieldDescriptor (TJ7 k).2.2.1 = some (tyJ7 k) := by decide +kernel
abbrev cJ7_fill_53178 : ByteArray := prog_13_method_103_code
def yJ7_fill_53178 : MethodName := ⟨RJ7, "fill", "([II)V"⟩
abbrev cJ7_fill_031fb : ByteArray := prog_13_method_109_code
def yJ7_fill_031fb : MethodName := ⟨RJ7, "fill", "([BB)V"⟩
def RJ3 : String := "jdk/internal/util/Preconditions"
def TJ3 : u_T := fun k => match k with
  | _ => ("", "", "", false)
def tyJ3 : Nat → FieldType := fun k => match k with
  | _ => .int
abbrev wsJ30 : List Cond := u_ws RJ3 TJ3 0
theorem nmJ3 : ∀ a, a < 0 → ∀ b, b < 0 → a ≠ b → (TJ3 a).2.1 ≠ (TJ3 b).2.1 := by decide +kernel
theorem tyJ3_ok : ∀ k, k < 0 → parseFieldDescriptor (TJ3 k).2.2.1 = some (tyJ3 k) := by decide +kernel
abbrev cJ3_checkIndex_8e157 : ByteArray := prog_14_method_11_code
def yJ3_checkIndex_8e157 : MethodName := ⟨RJ3, "checkIndex", "(IILjava/util/function/BiFunction;)I"⟩
def RL : String := "LineDispatchLaw"
abbrev cL_law : ByteArray := code
def yL_law : MethodName := ⟨RL, "law", "([I)Z"⟩
abbrev vwCl : List vw_C := [(RX0, TX0, 16), (RX1, TX1, 8), (RX2, TX2, 8), (RX3, TX3, 3), (RX4, TX4, 8), (RX5, TX5, 24)]
/-- the words of the tables that hold at every state behind the start -/
def lw_ok : List Cond := lw_tbl.filter goodWord
theorem ok_mem {w : Cond} (h : w ∈ lw_tbl) (g : goodWord w = true) : w ∈ lw_ok := List.mem_filter.mpr ⟨h, g⟩
theorem ok_good {x y : Cond} (hy : y ∈ lw_ok) : GoodIn (x :: lw_ok) (y :: lw_ok) := by
  have key : ∀ w ∈ lw_ok, w ∈ x :: lw_ok ∧ ((w.onTables && w.keeps) = true ∨ ∃ ty, w = .arrayClass ty) := fun w h => ⟨List.mem_cons_of_mem _ h, good_of_word (List.mem_filter.mp h).2⟩
  intro w hw
  rcases List.mem_cons.mp hw with rfl | h
  · exact key _ hy
  · exact key w h
