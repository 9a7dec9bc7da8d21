section
-- ===== PART A: goes FIRST, ahead of the names: the tables' words, and 'selects' of the private methods out of them =====
/-- a private method of a class that the tables say can be made, by its rows of tables_1 -/
def lw_okq (q : MethodName × Nat) : Prop := (q.1.cls ≠ "java/lang/invoke/MethodHandle" ∧ q.1.cls ≠ "java/lang/invoke/VarHandle") ∧ Cond.instantiable q.1.cls q.2 ∈ tables_1 ∧ Cond.privateMethod q.1 ∈ tables_1 ∧ Cond.instanceMethod q.1 ∈ tables_1
theorem lw_p0 : lw_okq (⟨"LineDispatch$Reader", "takeToken", "()Z"⟩, 8) := ⟨⟨by decide +kernel, by decide +kernel⟩, List.mem_of_getElem? (i := 141) (by decide +kernel), List.mem_of_getElem? (i := 238) (by decide +kernel), List.mem_of_getElem? (i := 239) (by decide +kernel)⟩
theorem lw_p1 : lw_okq (⟨"LineDispatch$Reader", "fail", "(I)Z"⟩, 8) := ⟨⟨by decide +kernel, by decide +kernel⟩, List.mem_of_getElem? (i := 141) (by decide +kernel), List.mem_of_getElem? (i := 245) (by decide +kernel), List.mem_of_getElem? (i := 246) (by decide +kernel)⟩
theorem lw_p2 : lw_okq (⟨"LineDispatch$Reader", "takeLine", "(LLineDispatch$Line;)Z"⟩, 8) := ⟨⟨by decide +kernel, by decide +kernel⟩, List.mem_of_getElem? (i := 141) (by decide +kernel), List.mem_of_getElem? (i := 249) (by decide +kernel), List.mem_of_getElem? (i := 250) (by decide +kernel)⟩
theorem lw_p3 : lw_okq (⟨"LineDispatch$Reader", "isWord", "(Ljava/lang/String;)Z"⟩, 8) := ⟨⟨by decide +kernel, by decide +kernel⟩, List.mem_of_getElem? (i := 141) (by decide +kernel), List.mem_of_getElem? (i := 254) (by decide +kernel), List.mem_of_getElem? (i := 255) (by decide +kernel)⟩
theorem lw_p4 : lw_okq (⟨"LineDispatch$Reader", "takePlace", "(LLineDispatch$Line;)Z"⟩, 8) := ⟨⟨by decide +kernel, by decide +kernel⟩, List.mem_of_getElem? (i := 141) (by decide +kernel), List.mem_of_getElem? (i := 306) (by decide +kernel), List.mem_of_getElem? (i := 307) (by decide +kernel)⟩
theorem lw_p5 : lw_okq (⟨"LineDispatch$Reader", "isNumberWithin", "(II)Z"⟩, 8) := ⟨⟨by decide +kernel, by decide +kernel⟩, List.mem_of_getElem? (i := 141) (by decide +kernel), List.mem_of_getElem? (i := 314) (by decide +kernel), List.mem_of_getElem? (i := 315) (by decide +kernel)⟩
theorem lw_p6 : lw_okq (⟨"LineDispatch$Reader", "takeSign", "()Z"⟩, 8) := ⟨⟨by decide +kernel, by decide +kernel⟩, List.mem_of_getElem? (i := 141) (by decide +kernel), List.mem_of_getElem? (i := 322) (by decide +kernel), List.mem_of_getElem? (i := 323) (by decide +kernel)⟩
theorem lw_p7 : lw_okq (⟨"LineDispatch$Reader", "takeSection", "(LLineDispatch$Line;)Z"⟩, 8) := ⟨⟨by decide +kernel, by decide +kernel⟩, List.mem_of_getElem? (i := 141) (by decide +kernel), List.mem_of_getElem? (i := 327) (by decide +kernel), List.mem_of_getElem? (i := 328) (by decide +kernel)⟩
theorem lw_p8 : lw_okq (⟨"LineDispatch$Reader", "takeNumber", "(II)Z"⟩, 8) := ⟨⟨by decide +kernel, by decide +kernel⟩, List.mem_of_getElem? (i := 141) (by decide +kernel), List.mem_of_getElem? (i := 331) (by decide +kernel), List.mem_of_getElem? (i := 332) (by decide +kernel)⟩
theorem lw_p9 : lw_okq (⟨"LineDispatch$Reader", "takeTrain", "(LLineDispatch$Line;)Z"⟩, 8) := ⟨⟨by decide +kernel, by decide +kernel⟩, List.mem_of_getElem? (i := 141) (by decide +kernel), List.mem_of_getElem? (i := 336) (by decide +kernel), List.mem_of_getElem? (i := 337) (by decide +kernel)⟩
theorem lw_p10 : lw_okq (⟨"LineDispatch", "faultBehindAll", "(LLineDispatch$Line;)I"⟩, 8) := ⟨⟨by decide +kernel, by decide +kernel⟩, List.mem_of_getElem? (i := 15) (by decide +kernel), List.mem_of_getElem? (i := 347) (by decide +kernel), List.mem_of_getElem? (i := 348) (by decide +kernel)⟩
theorem lw_p11 : lw_okq (⟨"LineDispatch$Postures", "learnEnds", "(LLineDispatch$Line;)V"⟩, 8) := ⟨⟨by decide +kernel, by decide +kernel⟩, List.mem_of_getElem? (i := 107) (by decide +kernel), List.mem_of_getElem? (i := 376) (by decide +kernel), List.mem_of_getElem? (i := 377) (by decide +kernel)⟩
theorem lw_p12 : lw_okq (⟨"LineDispatch$Postures", "learnOne", "(LLineDispatch$Line;)V"⟩, 8) := ⟨⟨by decide +kernel, by decide +kernel⟩, List.mem_of_getElem? (i := 107) (by decide +kernel), List.mem_of_getElem? (i := 383) (by decide +kernel), List.mem_of_getElem? (i := 384) (by decide +kernel)⟩
theorem lw_p13 : lw_okq (⟨"LineDispatch$Postures", "placeAll", "(LLineDispatch$Line;)V"⟩, 8) := ⟨⟨by decide +kernel, by decide +kernel⟩, List.mem_of_getElem? (i := 107) (by decide +kernel), List.mem_of_getElem? (i := 387) (by decide +kernel), List.mem_of_getElem? (i := 388) (by decide +kernel)⟩
theorem lw_p14 : lw_okq (⟨"LineDispatch$Postures", "code", "()I"⟩, 8) := ⟨⟨by decide +kernel, by decide +kernel⟩, List.mem_of_getElem? (i := 107) (by decide +kernel), List.mem_of_getElem? (i := 398) (by decide +kernel), List.mem_of_getElem? (i := 399) (by decide +kernel)⟩
theorem lw_p15 : lw_okq (⟨"LineDispatch", "isPlain", "()Z"⟩, 8) := ⟨⟨by decide +kernel, by decide +kernel⟩, List.mem_of_getElem? (i := 15) (by decide +kernel), List.mem_of_getElem? (i := 443) (by decide +kernel), List.mem_of_getElem? (i := 444) (by decide +kernel)⟩
def lw_privs_1 : List (MethodName × Nat) := [(⟨"LineDispatch$Reader", "takeToken", "()Z"⟩, 8), (⟨"LineDispatch$Reader", "fail", "(I)Z"⟩, 8), (⟨"LineDispatch$Reader", "takeLine", "(LLineDispatch$Line;)Z"⟩, 8), (⟨"LineDispatch$Reader", "isWord", "(Ljava/lang/String;)Z"⟩, 8), (⟨"LineDispatch$Reader", "takePlace", "(LLineDispatch$Line;)Z"⟩, 8), (⟨"LineDispatch$Reader", "isNumberWithin", "(II)Z"⟩, 8), (⟨"LineDispatch$Reader", "takeSign", "()Z"⟩, 8), (⟨"LineDispatch$Reader", "takeSection", "(LLineDispatch$Line;)Z"⟩, 8), (⟨"LineDispatch$Reader", "takeNumber", "(II)Z"⟩, 8), (⟨"LineDispatch$Reader", "takeTrain", "(LLineDispatch$Line;)Z"⟩, 8), (⟨"LineDispatch", "faultBehindAll", "(LLineDispatch$Line;)I"⟩, 8), (⟨"LineDispatch$Postures", "learnEnds", "(LLineDispatch$Line;)V"⟩, 8), (⟨"LineDispatch$Postures", "learnOne", "(LLineDispatch$Line;)V"⟩, 8), (⟨"LineDispatch$Postures", "placeAll", "(LLineDispatch$Line;)V"⟩, 8), (⟨"LineDispatch$Postures", "code", "()I"⟩, 8), (⟨"LineDispatch", "isPlain", "()Z"⟩, 8)]
theorem lw_r1 : ∀ q ∈ lw_privs_1, lw_okq q := List.forall_mem_cons.mpr ⟨lw_p0, List.forall_mem_cons.mpr ⟨lw_p1, List.forall_mem_cons.mpr ⟨lw_p2, List.forall_mem_cons.mpr ⟨lw_p3, List.forall_mem_cons.mpr ⟨lw_p4, List.forall_mem_cons.mpr ⟨lw_p5, List.forall_mem_cons.mpr ⟨lw_p6, List.forall_mem_cons.mpr ⟨lw_p7, List.forall_mem_cons.mpr ⟨lw_p8, List.forall_mem_cons.mpr ⟨lw_p9, List.forall_mem_cons.mpr ⟨lw_p10, List.forall_mem_cons.mpr ⟨lw_p11, List.forall_mem_cons.mpr ⟨lw_p12, List.forall_mem_cons.mpr ⟨lw_p13, List.forall_mem_cons.mpr ⟨lw_p14, List.forall_mem_cons.mpr ⟨lw_p15, fun _ h => absurd h List.not_mem_nil⟩⟩⟩⟩⟩⟩⟩⟩⟩⟩⟩⟩⟩⟩⟩⟩
theorem lw_p16 : lw_okq (⟨"LineDispatch$Postures", "firstToGoAlone", "(LLineDispatch$Line;)I"⟩, 8) := ⟨⟨by decide +kernel, by decide +kernel⟩, List.mem_of_getElem? (i := 107) (by decide +kernel), List.mem_of_getElem? (i := 452) (by decide +kernel), List.mem_of_getElem? (i := 453) (by decide +kernel)⟩
theorem lw_p17 : lw_okq (⟨"LineDispatch$Postures", "goesAlone", "(LLineDispatch$Line;I)Z"⟩, 8) := ⟨⟨by decide +kernel, by decide +kernel⟩, List.mem_of_getElem? (i := 107) (by decide +kernel), List.mem_of_getElem? (i := 456) (by decide +kernel), List.mem_of_getElem? (i := 457) (by decide +kernel)⟩
theorem lw_p18 : lw_okq (⟨"LineDispatch", "howManyFree", "()I"⟩, 8) := ⟨⟨by decide +kernel, by decide +kernel⟩, List.mem_of_getElem? (i := 15) (by decide +kernel), List.mem_of_getElem? (i := 464) (by decide +kernel), List.mem_of_getElem? (i := 465) (by decide +kernel)⟩
theorem lw_p19 : lw_okq (⟨"LineDispatch", "against", "(LLineDispatch$Line;I)I"⟩, 8) := ⟨⟨by decide +kernel, by decide +kernel⟩, List.mem_of_getElem? (i := 15) (by decide +kernel), List.mem_of_getElem? (i := 468) (by decide +kernel), List.mem_of_getElem? (i := 469) (by decide +kernel)⟩
theorem lw_p20 : lw_okq (⟨"LineDispatch$Postures", "endsBehind", "(I)I"⟩, 8) := ⟨⟨by decide +kernel, by decide +kernel⟩, List.mem_of_getElem? (i := 107) (by decide +kernel), List.mem_of_getElem? (i := 486) (by decide +kernel), List.mem_of_getElem? (i := 487) (by decide +kernel)⟩
theorem lw_p21 : lw_okq (⟨"LineDispatch$Postures", "markNext", "(LLineDispatch$Line;I)V"⟩, 8) := ⟨⟨by decide +kernel, by decide +kernel⟩, List.mem_of_getElem? (i := 107) (by decide +kernel), List.mem_of_getElem? (i := 547) (by decide +kernel), List.mem_of_getElem? (i := 548) (by decide +kernel)⟩
theorem lw_p22 : lw_okq (⟨"LineDispatch", "planned", "(IZ)I"⟩, 8) := ⟨⟨by decide +kernel, by decide +kernel⟩, List.mem_of_getElem? (i := 15) (by decide +kernel), List.mem_of_getElem? (i := 558) (by decide +kernel), List.mem_of_getElem? (i := 559) (by decide +kernel)⟩
theorem lw_p23 : lw_okq (⟨"LineDispatch", "letAllGo", "(LLineDispatch$Line;I)I"⟩, 8) := ⟨⟨by decide +kernel, by decide +kernel⟩, List.mem_of_getElem? (i := 15) (by decide +kernel), List.mem_of_getElem? (i := 562) (by decide +kernel), List.mem_of_getElem? (i := 563) (by decide +kernel)⟩
theorem lw_p24 : lw_okq (⟨"LineDispatch", "firstBy", "(LLineDispatch$Line;I)I"⟩, 8) := ⟨⟨by decide +kernel, by decide +kernel⟩, List.mem_of_getElem? (i := 15) (by decide +kernel), List.mem_of_getElem? (i := 566) (by decide +kernel), List.mem_of_getElem? (i := 567) (by decide +kernel)⟩
theorem lw_p25 : lw_okq (⟨"LineDispatch$Line", "enterJournal", "(II)V"⟩, 16) := ⟨⟨by decide +kernel, by decide +kernel⟩, List.mem_of_getElem? (i := 23) (by decide +kernel), List.mem_of_getElem? (i := 577) (by decide +kernel), List.mem_of_getElem? (i := 578) (by decide +kernel)⟩
theorem lw_p26 : lw_okq (⟨"LineDispatch$Line", "forgetFirstEntry", "()V"⟩, 16) := ⟨⟨by decide +kernel, by decide +kernel⟩, List.mem_of_getElem? (i := 23) (by decide +kernel), List.mem_of_getElem? (i := 581) (by decide +kernel), List.mem_of_getElem? (i := 582) (by decide +kernel)⟩
theorem lw_p27 : lw_okq (⟨"LineDispatch$Line", "removeEntries", "(I)V"⟩, 16) := ⟨⟨by decide +kernel, by decide +kernel⟩, List.mem_of_getElem? (i := 23) (by decide +kernel), List.mem_of_getElem? (i := 637) (by decide +kernel), List.mem_of_getElem? (i := 638) (by decide +kernel)⟩
theorem lw_p28 : lw_okq (⟨"LineDispatchModel", "reads", "()V"⟩, 24) := ⟨⟨by decide +kernel, by decide +kernel⟩, List.mem_of_getElem? (i := 701) (by decide +kernel), List.mem_of_getElem? (i := 796) (by decide +kernel), List.mem_of_getElem? (i := 797) (by decide +kernel)⟩
theorem lw_p29 : lw_okq (⟨"LineDispatchModel", "byteAt", "(I)I"⟩, 24) := ⟨⟨by decide +kernel, by decide +kernel⟩, List.mem_of_getElem? (i := 701) (by decide +kernel), List.mem_of_getElem? (i := 800) (by decide +kernel), List.mem_of_getElem? (i := 801) (by decide +kernel)⟩
theorem lw_p30 : lw_okq (⟨"LineDispatchModel", "requires", "(ZI)V"⟩, 24) := ⟨⟨by decide +kernel, by decide +kernel⟩, List.mem_of_getElem? (i := 701) (by decide +kernel), List.mem_of_getElem? (i := 808) (by decide +kernel), List.mem_of_getElem? (i := 809) (by decide +kernel)⟩
theorem lw_p31 : lw_okq (⟨"LineDispatchModel", "readLine", "()V"⟩, 24) := ⟨⟨by decide +kernel, by decide +kernel⟩, List.mem_of_getElem? (i := 701) (by decide +kernel), List.mem_of_getElem? (i := 812) (by decide +kernel), List.mem_of_getElem? (i := 813) (by decide +kernel)⟩
def lw_privs_2 : List (MethodName × Nat) := [(⟨"LineDispatch$Postures", "firstToGoAlone", "(LLineDispatch$Line;)I"⟩, 8), (⟨"LineDispatch$Postures", "goesAlone", "(LLineDispatch$Line;I)Z"⟩, 8), (⟨"LineDispatch", "howManyFree", "()I"⟩, 8), (⟨"LineDispatch", "against", "(LLineDispatch$Line;I)I"⟩, 8), (⟨"LineDispatch$Postures", "endsBehind", "(I)I"⟩, 8), (⟨"LineDispatch$Postures", "markNext", "(LLineDispatch$Line;I)V"⟩, 8), (⟨"LineDispatch", "planned", "(IZ)I"⟩, 8), (⟨"LineDispatch", "letAllGo", "(LLineDispatch$Line;I)I"⟩, 8), (⟨"LineDispatch", "firstBy", "(LLineDispatch$Line;I)I"⟩, 8), (⟨"LineDispatch$Line", "enterJournal", "(II)V"⟩, 16), (⟨"LineDispatch$Line", "forgetFirstEntry", "()V"⟩, 16), (⟨"LineDispatch$Line", "removeEntries", "(I)V"⟩, 16), (⟨"LineDispatchModel", "reads", "()V"⟩, 24), (⟨"LineDispatchModel", "byteAt", "(I)I"⟩, 24), (⟨"LineDispatchModel", "requires", "(ZI)V"⟩, 24), (⟨"LineDispatchModel", "readLine", "()V"⟩, 24)]
theorem lw_r2 : ∀ q ∈ lw_privs_2, lw_okq q := List.forall_mem_cons.mpr ⟨lw_p16, List.forall_mem_cons.mpr ⟨lw_p17, List.forall_mem_cons.mpr ⟨lw_p18, List.forall_mem_cons.mpr ⟨lw_p19, List.forall_mem_cons.mpr ⟨lw_p20, List.forall_mem_cons.mpr ⟨lw_p21, List.forall_mem_cons.mpr ⟨lw_p22, List.forall_mem_cons.mpr ⟨lw_p23, List.forall_mem_cons.mpr ⟨lw_p24, List.forall_mem_cons.mpr ⟨lw_p25, List.forall_mem_cons.mpr ⟨lw_p26, List.forall_mem_cons.mpr ⟨lw_p27, List.forall_mem_cons.mpr ⟨lw_p28, List.forall_mem_cons.mpr ⟨lw_p29, List.forall_mem_cons.mpr ⟨lw_p30, List.forall_mem_cons.mpr ⟨lw_p31, fun _ h => absurd h List.not_mem_nil⟩⟩⟩⟩⟩⟩⟩⟩⟩⟩⟩⟩⟩⟩⟩⟩
theorem lw_p32 : lw_okq (⟨"LineDispatchModel", "lineNow", "()I"⟩, 24) := ⟨⟨by decide +kernel, by decide +kernel⟩, List.mem_of_getElem? (i := 701) (by decide +kernel), List.mem_of_getElem? (i := 816) (by decide +kernel), List.mem_of_getElem? (i := 817) (by decide +kernel)⟩
theorem lw_p33 : lw_okq (⟨"LineDispatchModel", "is", "(IIIII)Z"⟩, 24) := ⟨⟨by decide +kernel, by decide +kernel⟩, List.mem_of_getElem? (i := 701) (by decide +kernel), List.mem_of_getElem? (i := 820) (by decide +kernel), List.mem_of_getElem? (i := 821) (by decide +kernel)⟩
theorem lw_p34 : lw_okq (⟨"LineDispatchModel", "hasRoom", "(I)Z"⟩, 24) := ⟨⟨by decide +kernel, by decide +kernel⟩, List.mem_of_getElem? (i := 701) (by decide +kernel), List.mem_of_getElem? (i := 824) (by decide +kernel), List.mem_of_getElem? (i := 825) (by decide +kernel)⟩
theorem lw_p35 : lw_okq (⟨"LineDispatchModel", "readPlace", "()V"⟩, 24) := ⟨⟨by decide +kernel, by decide +kernel⟩, List.mem_of_getElem? (i := 701) (by decide +kernel), List.mem_of_getElem? (i := 828) (by decide +kernel), List.mem_of_getElem? (i := 829) (by decide +kernel)⟩
theorem lw_p36 : lw_okq (⟨"LineDispatchModel", "readNumber", "(III)I"⟩, 24) := ⟨⟨by decide +kernel, by decide +kernel⟩, List.mem_of_getElem? (i := 701) (by decide +kernel), List.mem_of_getElem? (i := 832) (by decide +kernel), List.mem_of_getElem? (i := 833) (by decide +kernel)⟩
theorem lw_p37 : lw_okq (⟨"LineDispatchModel", "readTrain", "()V"⟩, 24) := ⟨⟨by decide +kernel, by decide +kernel⟩, List.mem_of_getElem? (i := 701) (by decide +kernel), List.mem_of_getElem? (i := 836) (by decide +kernel), List.mem_of_getElem? (i := 837) (by decide +kernel)⟩
theorem lw_p38 : lw_okq (⟨"LineDispatchModel", "keepBefore", "()V"⟩, 24) := ⟨⟨by decide +kernel, by decide +kernel⟩, List.mem_of_getElem? (i := 701) (by decide +kernel), List.mem_of_getElem? (i := 840) (by decide +kernel), List.mem_of_getElem? (i := 841) (by decide +kernel)⟩
theorem lw_p39 : lw_okq (⟨"LineDispatchModel", "areAllPlaces", "()Z"⟩, 24) := ⟨⟨by decide +kernel, by decide +kernel⟩, List.mem_of_getElem? (i := 701) (by decide +kernel), List.mem_of_getElem? (i := 844) (by decide +kernel), List.mem_of_getElem? (i := 845) (by decide +kernel)⟩
theorem lw_p40 : lw_okq (⟨"LineDispatchModel", "ofTrain", "(II)I"⟩, 24) := ⟨⟨by decide +kernel, by decide +kernel⟩, List.mem_of_getElem? (i := 701) (by decide +kernel), List.mem_of_getElem? (i := 848) (by decide +kernel), List.mem_of_getElem? (i := 849) (by decide +kernel)⟩
theorem lw_p41 : lw_okq (⟨"LineDispatchModel", "isHeldAll", "()Z"⟩, 24) := ⟨⟨by decide +kernel, by decide +kernel⟩, List.mem_of_getElem? (i := 701) (by decide +kernel), List.mem_of_getElem? (i := 852) (by decide +kernel), List.mem_of_getElem? (i := 853) (by decide +kernel)⟩
theorem lw_p42 : lw_okq (⟨"LineDispatchModel", "postureNow", "()I"⟩, 24) := ⟨⟨by decide +kernel, by decide +kernel⟩, List.mem_of_getElem? (i := 701) (by decide +kernel), List.mem_of_getElem? (i := 856) (by decide +kernel), List.mem_of_getElem? (i := 857) (by decide +kernel)⟩
theorem lw_p43 : lw_okq (⟨"LineDispatchModel", "isDoneIn", "(I)Z"⟩, 24) := ⟨⟨by decide +kernel, by decide +kernel⟩, List.mem_of_getElem? (i := 701) (by decide +kernel), List.mem_of_getElem? (i := 860) (by decide +kernel), List.mem_of_getElem? (i := 861) (by decide +kernel)⟩
theorem lw_p44 : lw_okq (⟨"LineDispatchModel", "decode", "(I)V"⟩, 24) := ⟨⟨by decide +kernel, by decide +kernel⟩, List.mem_of_getElem? (i := 701) (by decide +kernel), List.mem_of_getElem? (i := 867) (by decide +kernel), List.mem_of_getElem? (i := 868) (by decide +kernel)⟩
theorem lw_p45 : lw_okq (⟨"LineDispatchModel", "holds", "(I)Z"⟩, 24) := ⟨⟨by decide +kernel, by decide +kernel⟩, List.mem_of_getElem? (i := 701) (by decide +kernel), List.mem_of_getElem? (i := 871) (by decide +kernel), List.mem_of_getElem? (i := 872) (by decide +kernel)⟩
theorem lw_p46 : lw_okq (⟨"LineDispatchModel", "trainsFor", "(II)I"⟩, 24) := ⟨⟨by decide +kernel, by decide +kernel⟩, List.mem_of_getElem? (i := 701) (by decide +kernel), List.mem_of_getElem? (i := 875) (by decide +kernel), List.mem_of_getElem? (i := 876) (by decide +kernel)⟩
theorem lw_p47 : lw_okq (⟨"LineDispatchModel", "tracksFor", "(II)I"⟩, 24) := ⟨⟨by decide +kernel, by decide +kernel⟩, List.mem_of_getElem? (i := 701) (by decide +kernel), List.mem_of_getElem? (i := 882) (by decide +kernel), List.mem_of_getElem? (i := 883) (by decide +kernel)⟩
def lw_privs_3 : List (MethodName × Nat) := [(⟨"LineDispatchModel", "lineNow", "()I"⟩, 24), (⟨"LineDispatchModel", "is", "(IIIII)Z"⟩, 24), (⟨"LineDispatchModel", "hasRoom", "(I)Z"⟩, 24), (⟨"LineDispatchModel", "readPlace", "()V"⟩, 24), (⟨"LineDispatchModel", "readNumber", "(III)I"⟩, 24), (⟨"LineDispatchModel", "readTrain", "()V"⟩, 24), (⟨"LineDispatchModel", "keepBefore", "()V"⟩, 24), (⟨"LineDispatchModel", "areAllPlaces", "()Z"⟩, 24), (⟨"LineDispatchModel", "ofTrain", "(II)I"⟩, 24), (⟨"LineDispatchModel", "isHeldAll", "()Z"⟩, 24), (⟨"LineDispatchModel", "postureNow", "()I"⟩, 24), (⟨"LineDispatchModel", "isDoneIn", "(I)Z"⟩, 24), (⟨"LineDispatchModel", "decode", "(I)V"⟩, 24), (⟨"LineDispatchModel", "holds", "(I)Z"⟩, 24), (⟨"LineDispatchModel", "trainsFor", "(II)I"⟩, 24), (⟨"LineDispatchModel", "tracksFor", "(II)I"⟩, 24)]
theorem lw_r3 : ∀ q ∈ lw_privs_3, lw_okq q := List.forall_mem_cons.mpr ⟨lw_p32, List.forall_mem_cons.mpr ⟨lw_p33, List.forall_mem_cons.mpr ⟨lw_p34, List.forall_mem_cons.mpr ⟨lw_p35, List.forall_mem_cons.mpr ⟨lw_p36, List.forall_mem_cons.mpr ⟨lw_p37, List.forall_mem_cons.mpr ⟨lw_p38, List.forall_mem_cons.mpr ⟨lw_p39, List.forall_mem_cons.mpr ⟨lw_p40, List.forall_mem_cons.mpr ⟨lw_p41, List.forall_mem_cons.mpr ⟨lw_p42, List.forall_mem_cons.mpr ⟨lw_p43, List.forall_mem_cons.mpr ⟨lw_p44, List.forall_mem_cons.mpr ⟨lw_p45, List.forall_mem_cons.mpr ⟨lw_p46, List.forall_mem_cons.mpr ⟨lw_p47, fun _ h => absurd h List.not_mem_nil⟩⟩⟩⟩⟩⟩⟩⟩⟩⟩⟩⟩⟩⟩⟩⟩
theorem lw_p48 : lw_okq (⟨"LineDispatchModel", "ofPlace", "(II)I"⟩, 24) := ⟨⟨by decide +kernel, by decide +kernel⟩, List.mem_of_getElem? (i := 701) (by decide +kernel), List.mem_of_getElem? (i := 886) (by decide +kernel), List.mem_of_getElem? (i := 887) (by decide +kernel)⟩
theorem lw_p49 : lw_okq (⟨"LineDispatchModel", "isSafeNow", "()Z"⟩, 24) := ⟨⟨by decide +kernel, by decide +kernel⟩, List.mem_of_getElem? (i := 701) (by decide +kernel), List.mem_of_getElem? (i := 890) (by decide +kernel), List.mem_of_getElem? (i := 891) (by decide +kernel)⟩
theorem lw_p50 : lw_okq (⟨"LineDispatchModel", "explore", "(I)V"⟩, 24) := ⟨⟨by decide +kernel, by decide +kernel⟩, List.mem_of_getElem? (i := 701) (by decide +kernel), List.mem_of_getElem? (i := 894) (by decide +kernel), List.mem_of_getElem? (i := 895) (by decide +kernel)⟩
theorem lw_p51 : lw_okq (⟨"LineDispatchModel", "movedBy", "(I)I"⟩, 24) := ⟨⟨by decide +kernel, by decide +kernel⟩, List.mem_of_getElem? (i := 701) (by decide +kernel), List.mem_of_getElem? (i := 898) (by decide +kernel), List.mem_of_getElem? (i := 899) (by decide +kernel)⟩
theorem lw_p52 : lw_okq (⟨"LineDispatchModel", "nextFrom", "(II)I"⟩, 24) := ⟨⟨by decide +kernel, by decide +kernel⟩, List.mem_of_getElem? (i := 701) (by decide +kernel), List.mem_of_getElem? (i := 902) (by decide +kernel), List.mem_of_getElem? (i := 903) (by decide +kernel)⟩
theorem lw_p53 : lw_okq (⟨"LineDispatchModel", "encode", "()I"⟩, 24) := ⟨⟨by decide +kernel, by decide +kernel⟩, List.mem_of_getElem? (i := 701) (by decide +kernel), List.mem_of_getElem? (i := 906) (by decide +kernel), List.mem_of_getElem? (i := 907) (by decide +kernel)⟩
theorem lw_p54 : lw_okq (⟨"LineDispatchModel", "backBefore", "()V"⟩, 24) := ⟨⟨by decide +kernel, by decide +kernel⟩, List.mem_of_getElem? (i := 701) (by decide +kernel), List.mem_of_getElem? (i := 910) (by decide +kernel), List.mem_of_getElem? (i := 911) (by decide +kernel)⟩
theorem lw_p55 : lw_okq (⟨"LineDispatchModel", "withStatus", "(I)I"⟩, 24) := ⟨⟨by decide +kernel, by decide +kernel⟩, List.mem_of_getElem? (i := 701) (by decide +kernel), List.mem_of_getElem? (i := 922) (by decide +kernel), List.mem_of_getElem? (i := 923) (by decide +kernel)⟩
theorem lw_p56 : lw_okq (⟨"LineDispatchModel", "isPlain", "()Z"⟩, 24) := ⟨⟨by decide +kernel, by decide +kernel⟩, List.mem_of_getElem? (i := 701) (by decide +kernel), List.mem_of_getElem? (i := 926) (by decide +kernel), List.mem_of_getElem? (i := 927) (by decide +kernel)⟩
theorem lw_p57 : lw_okq (⟨"LineDispatchModel", "findSequence", "()V"⟩, 24) := ⟨⟨by decide +kernel, by decide +kernel⟩, List.mem_of_getElem? (i := 701) (by decide +kernel), List.mem_of_getElem? (i := 930) (by decide +kernel), List.mem_of_getElem? (i := 931) (by decide +kernel)⟩
theorem lw_p58 : lw_okq (⟨"LineDispatchModel", "goesAlone", "(I)Z"⟩, 24) := ⟨⟨by decide +kernel, by decide +kernel⟩, List.mem_of_getElem? (i := 701) (by decide +kernel), List.mem_of_getElem? (i := 934) (by decide +kernel), List.mem_of_getElem? (i := 935) (by decide +kernel)⟩
theorem lw_p59 : lw_okq (⟨"LineDispatchModel", "movesLeft", "()I"⟩, 24) := ⟨⟨by decide +kernel, by decide +kernel⟩, List.mem_of_getElem? (i := 701) (by decide +kernel), List.mem_of_getElem? (i := 938) (by decide +kernel), List.mem_of_getElem? (i := 939) (by decide +kernel)⟩
theorem lw_p60 : lw_okq (⟨"LineDispatchModel", "canGo", "()I"⟩, 24) := ⟨⟨by decide +kernel, by decide +kernel⟩, List.mem_of_getElem? (i := 701) (by decide +kernel), List.mem_of_getElem? (i := 942) (by decide +kernel), List.mem_of_getElem? (i := 943) (by decide +kernel)⟩
theorem lw_p61 : lw_okq (⟨"LineDispatchModel", "against", "(I)I"⟩, 24) := ⟨⟨by decide +kernel, by decide +kernel⟩, List.mem_of_getElem? (i := 701) (by decide +kernel), List.mem_of_getElem? (i := 946) (by decide +kernel), List.mem_of_getElem? (i := 947) (by decide +kernel)⟩
theorem lw_p62 : lw_okq (⟨"LineDispatchModel", "runsBetween", "(II)I"⟩, 24) := ⟨⟨by decide +kernel, by decide +kernel⟩, List.mem_of_getElem? (i := 701) (by decide +kernel), List.mem_of_getElem? (i := 950) (by decide +kernel), List.mem_of_getElem? (i := 951) (by decide +kernel)⟩
theorem lw_p63 : lw_okq (⟨"LineDispatchModel", "leftBy", "(I)I"⟩, 24) := ⟨⟨by decide +kernel, by decide +kernel⟩, List.mem_of_getElem? (i := 701) (by decide +kernel), List.mem_of_getElem? (i := 954) (by decide +kernel), List.mem_of_getElem? (i := 955) (by decide +kernel)⟩
def lw_privs_4 : List (MethodName × Nat) := [(⟨"LineDispatchModel", "ofPlace", "(II)I"⟩, 24), (⟨"LineDispatchModel", "isSafeNow", "()Z"⟩, 24), (⟨"LineDispatchModel", "explore", "(I)V"⟩, 24), (⟨"LineDispatchModel", "movedBy", "(I)I"⟩, 24), (⟨"LineDispatchModel", "nextFrom", "(II)I"⟩, 24), (⟨"LineDispatchModel", "encode", "()I"⟩, 24), (⟨"LineDispatchModel", "backBefore", "()V"⟩, 24), (⟨"LineDispatchModel", "withStatus", "(I)I"⟩, 24), (⟨"LineDispatchModel", "isPlain", "()Z"⟩, 24), (⟨"LineDispatchModel", "findSequence", "()V"⟩, 24), (⟨"LineDispatchModel", "goesAlone", "(I)Z"⟩, 24), (⟨"LineDispatchModel", "movesLeft", "()I"⟩, 24), (⟨"LineDispatchModel", "canGo", "()I"⟩, 24), (⟨"LineDispatchModel", "against", "(I)I"⟩, 24), (⟨"LineDispatchModel", "runsBetween", "(II)I"⟩, 24), (⟨"LineDispatchModel", "leftBy", "(I)I"⟩, 24)]
theorem lw_r4 : ∀ q ∈ lw_privs_4, lw_okq q := List.forall_mem_cons.mpr ⟨lw_p48, List.forall_mem_cons.mpr ⟨lw_p49, List.forall_mem_cons.mpr ⟨lw_p50, List.forall_mem_cons.mpr ⟨lw_p51, List.forall_mem_cons.mpr ⟨lw_p52, List.forall_mem_cons.mpr ⟨lw_p53, List.forall_mem_cons.mpr ⟨lw_p54, List.forall_mem_cons.mpr ⟨lw_p55, List.forall_mem_cons.mpr ⟨lw_p56, List.forall_mem_cons.mpr ⟨lw_p57, List.forall_mem_cons.mpr ⟨lw_p58, List.forall_mem_cons.mpr ⟨lw_p59, List.forall_mem_cons.mpr ⟨lw_p60, List.forall_mem_cons.mpr ⟨lw_p61, List.forall_mem_cons.mpr ⟨lw_p62, List.forall_mem_cons.mpr ⟨lw_p63, fun _ h => absurd h List.not_mem_nil⟩⟩⟩⟩⟩⟩⟩⟩⟩⟩⟩⟩⟩⟩⟩⟩
theorem lw_p64 : lw_okq (⟨"LineDispatchModel", "isPlace", "(I)Z"⟩, 24) := ⟨⟨by decide +kernel, by decide +kernel⟩, List.mem_of_getElem? (i := 701) (by decide +kernel), List.mem_of_getElem? (i := 962) (by decide +kernel), List.mem_of_getElem? (i := 963) (by decide +kernel)⟩
theorem lw_p65 : lw_okq (⟨"LineDispatchModel", "trackOf", "(II)I"⟩, 24) := ⟨⟨by decide +kernel, by decide +kernel⟩, List.mem_of_getElem? (i := 701) (by decide +kernel), List.mem_of_getElem? (i := 966) (by decide +kernel), List.mem_of_getElem? (i := 967) (by decide +kernel)⟩
theorem lw_p66 : lw_okq (⟨"LineDispatchModel", "trainsAt", "(I)I"⟩, 24) := ⟨⟨by decide +kernel, by decide +kernel⟩, List.mem_of_getElem? (i := 701) (by decide +kernel), List.mem_of_getElem? (i := 970) (by decide +kernel), List.mem_of_getElem? (i := 971) (by decide +kernel)⟩
theorem lw_p67 : lw_okq (⟨"LineDispatchModel", "isTrain", "(I)Z"⟩, 24) := ⟨⟨by decide +kernel, by decide +kernel⟩, List.mem_of_getElem? (i := 701) (by decide +kernel), List.mem_of_getElem? (i := 978) (by decide +kernel), List.mem_of_getElem? (i := 979) (by decide +kernel)⟩
theorem lw_p68 : lw_okq (⟨"LineDispatchModel", "minutesStill", "(I)I"⟩, 24) := ⟨⟨by decide +kernel, by decide +kernel⟩, List.mem_of_getElem? (i := 701) (by decide +kernel), List.mem_of_getElem? (i := 982) (by decide +kernel), List.mem_of_getElem? (i := 983) (by decide +kernel)⟩
theorem lw_p69 : lw_okq (⟨"LineDispatchModel", "minutesOf", "(II)I"⟩, 24) := ⟨⟨by decide +kernel, by decide +kernel⟩, List.mem_of_getElem? (i := 701) (by decide +kernel), List.mem_of_getElem? (i := 986) (by decide +kernel), List.mem_of_getElem? (i := 987) (by decide +kernel)⟩
theorem lw_p70 : lw_okq (⟨"LineDispatchModel", "firstAt", "(I)I"⟩, 24) := ⟨⟨by decide +kernel, by decide +kernel⟩, List.mem_of_getElem? (i := 701) (by decide +kernel), List.mem_of_getElem? (i := 998) (by decide +kernel), List.mem_of_getElem? (i := 999) (by decide +kernel)⟩
theorem lw_p71 : lw_okq (⟨"LineDispatchModel", "firstStuck", "(I)I"⟩, 24) := ⟨⟨by decide +kernel, by decide +kernel⟩, List.mem_of_getElem? (i := 701) (by decide +kernel), List.mem_of_getElem? (i := 1002) (by decide +kernel), List.mem_of_getElem? (i := 1003) (by decide +kernel)⟩
theorem lw_p72 : lw_okq (⟨"LineDispatchModel", "isEverDone", "(I)Z"⟩, 24) := ⟨⟨by decide +kernel, by decide +kernel⟩, List.mem_of_getElem? (i := 701) (by decide +kernel), List.mem_of_getElem? (i := 1006) (by decide +kernel), List.mem_of_getElem? (i := 1007) (by decide +kernel)⟩
theorem lw_p73 : lw_okq (⟨"LineDispatchModel", "planned", "(II)I"⟩, 24) := ⟨⟨by decide +kernel, by decide +kernel⟩, List.mem_of_getElem? (i := 701) (by decide +kernel), List.mem_of_getElem? (i := 1023) (by decide +kernel), List.mem_of_getElem? (i := 1024) (by decide +kernel)⟩
theorem lw_p74 : lw_okq (⟨"LineDispatchModel", "sends", "(I)I"⟩, 24) := ⟨⟨by decide +kernel, by decide +kernel⟩, List.mem_of_getElem? (i := 701) (by decide +kernel), List.mem_of_getElem? (i := 1027) (by decide +kernel), List.mem_of_getElem? (i := 1028) (by decide +kernel)⟩
theorem lw_p75 : lw_okq (⟨"LineDispatchModel", "firstBy", "(I)I"⟩, 24) := ⟨⟨by decide +kernel, by decide +kernel⟩, List.mem_of_getElem? (i := 701) (by decide +kernel), List.mem_of_getElem? (i := 1031) (by decide +kernel), List.mem_of_getElem? (i := 1032) (by decide +kernel)⟩
theorem lw_p76 : lw_okq (⟨"LineDispatchModel", "isAhead", "(III)Z"⟩, 24) := ⟨⟨by decide +kernel, by decide +kernel⟩, List.mem_of_getElem? (i := 701) (by decide +kernel), List.mem_of_getElem? (i := 1035) (by decide +kernel), List.mem_of_getElem? (i := 1036) (by decide +kernel)⟩
theorem lw_p77 : lw_okq (⟨"LineDispatchModel", "goes", "(I)V"⟩, 24) := ⟨⟨by decide +kernel, by decide +kernel⟩, List.mem_of_getElem? (i := 701) (by decide +kernel), List.mem_of_getElem? (i := 1039) (by decide +kernel), List.mem_of_getElem? (i := 1040) (by decide +kernel)⟩
theorem lw_p78 : lw_okq (⟨"LineDispatchModel", "enters", "(II)V"⟩, 24) := ⟨⟨by decide +kernel, by decide +kernel⟩, List.mem_of_getElem? (i := 701) (by decide +kernel), List.mem_of_getElem? (i := 1043) (by decide +kernel), List.mem_of_getElem? (i := 1044) (by decide +kernel)⟩
theorem lw_p79 : lw_okq (⟨"LineDispatchModel", "entry", "(II)I"⟩, 24) := ⟨⟨by decide +kernel, by decide +kernel⟩, List.mem_of_getElem? (i := 701) (by decide +kernel), List.mem_of_getElem? (i := 1047) (by decide +kernel), List.mem_of_getElem? (i := 1048) (by decide +kernel)⟩
def lw_privs_5 : List (MethodName × Nat) := [(⟨"LineDispatchModel", "isPlace", "(I)Z"⟩, 24), (⟨"LineDispatchModel", "trackOf", "(II)I"⟩, 24), (⟨"LineDispatchModel", "trainsAt", "(I)I"⟩, 24), (⟨"LineDispatchModel", "isTrain", "(I)Z"⟩, 24), (⟨"LineDispatchModel", "minutesStill", "(I)I"⟩, 24), (⟨"LineDispatchModel", "minutesOf", "(II)I"⟩, 24), (⟨"LineDispatchModel", "firstAt", "(I)I"⟩, 24), (⟨"LineDispatchModel", "firstStuck", "(I)I"⟩, 24), (⟨"LineDispatchModel", "isEverDone", "(I)Z"⟩, 24), (⟨"LineDispatchModel", "planned", "(II)I"⟩, 24), (⟨"LineDispatchModel", "sends", "(I)I"⟩, 24), (⟨"LineDispatchModel", "firstBy", "(I)I"⟩, 24), (⟨"LineDispatchModel", "isAhead", "(III)Z"⟩, 24), (⟨"LineDispatchModel", "goes", "(I)V"⟩, 24), (⟨"LineDispatchModel", "enters", "(II)V"⟩, 24), (⟨"LineDispatchModel", "entry", "(II)I"⟩, 24)]
theorem lw_r5 : ∀ q ∈ lw_privs_5, lw_okq q := List.forall_mem_cons.mpr ⟨lw_p64, List.forall_mem_cons.mpr ⟨lw_p65, List.forall_mem_cons.mpr ⟨lw_p66, List.forall_mem_cons.mpr ⟨lw_p67, List.forall_mem_cons.mpr ⟨lw_p68, List.forall_mem_cons.mpr ⟨lw_p69, List.forall_mem_cons.mpr ⟨lw_p70, List.forall_mem_cons.mpr ⟨lw_p71, List.forall_mem_cons.mpr ⟨lw_p72, List.forall_mem_cons.mpr ⟨lw_p73, List.forall_mem_cons.mpr ⟨lw_p74, List.forall_mem_cons.mpr ⟨lw_p75, List.forall_mem_cons.mpr ⟨lw_p76, List.forall_mem_cons.mpr ⟨lw_p77, List.forall_mem_cons.mpr ⟨lw_p78, List.forall_mem_cons.mpr ⟨lw_p79, fun _ h => absurd h List.not_mem_nil⟩⟩⟩⟩⟩⟩⟩⟩⟩⟩⟩⟩⟩⟩⟩⟩
theorem lw_p80 : lw_okq (⟨"LineDispatchModel", "goesOn", "(I)I"⟩, 24) := ⟨⟨by decide +kernel, by decide +kernel⟩, List.mem_of_getElem? (i := 701) (by decide +kernel), List.mem_of_getElem? (i := 1051) (by decide +kernel), List.mem_of_getElem? (i := 1052) (by decide +kernel)⟩
theorem lw_p81 : lw_okq (⟨"LineDispatchModel", "isGood", "(III)Z"⟩, 24) := ⟨⟨by decide +kernel, by decide +kernel⟩, List.mem_of_getElem? (i := 701) (by decide +kernel), List.mem_of_getElem? (i := 1080) (by decide +kernel), List.mem_of_getElem? (i := 1081) (by decide +kernel)⟩
theorem lw_p82 : lw_okq (⟨"LineDispatchModel", "leavesJournal", "(I)V"⟩, 24) := ⟨⟨by decide +kernel, by decide +kernel⟩, List.mem_of_getElem? (i := 701) (by decide +kernel), List.mem_of_getElem? (i := 1089) (by decide +kernel), List.mem_of_getElem? (i := 1090) (by decide +kernel)⟩
theorem lw_p83 : lw_okq (⟨"LineDispatchModel", "summed", "(III)I"⟩, 24) := ⟨⟨by decide +kernel, by decide +kernel⟩, List.mem_of_getElem? (i := 701) (by decide +kernel), List.mem_of_getElem? (i := 1133) (by decide +kernel), List.mem_of_getElem? (i := 1134) (by decide +kernel)⟩
def lw_privs_6 : List (MethodName × Nat) := [(⟨"LineDispatchModel", "goesOn", "(I)I"⟩, 24), (⟨"LineDispatchModel", "isGood", "(III)Z"⟩, 24), (⟨"LineDispatchModel", "leavesJournal", "(I)V"⟩, 24), (⟨"LineDispatchModel", "summed", "(III)I"⟩, 24)]
theorem lw_r6 : ∀ q ∈ lw_privs_6, lw_okq q := List.forall_mem_cons.mpr ⟨lw_p80, List.forall_mem_cons.mpr ⟨lw_p81, List.forall_mem_cons.mpr ⟨lw_p82, List.forall_mem_cons.mpr ⟨lw_p83, fun _ h => absurd h List.not_mem_nil⟩⟩⟩⟩
def lw_privs : List (MethodName × Nat) := lw_privs_1 ++ (lw_privs_2 ++ (lw_privs_3 ++ (lw_privs_4 ++ (lw_privs_5 ++ (lw_privs_6)))))
def lw_tbl : List Cond := k2_sels lw_privs ++ tables_1
theorem lw_privs_ok : ∀ q ∈ lw_privs, lw_okq q := by
  show ∀ q ∈ lw_privs_1 ++ (lw_privs_2 ++ (lw_privs_3 ++ (lw_privs_4 ++ (lw_privs_5 ++ (lw_privs_6))))), lw_okq q
  exact List.forall_mem_append.mpr ⟨lw_r1, List.forall_mem_append.mpr ⟨lw_r2, List.forall_mem_append.mpr ⟨lw_r3, List.forall_mem_append.mpr ⟨lw_r4, List.forall_mem_append.mpr ⟨lw_r5, lw_r6⟩⟩⟩⟩⟩
-- ===== end of PART A; then your names; then what follows =====
def RX0 : String := "LineDispatch$Line"
def TX0 : u_T := fun k => match k with
  | 0 => ("LineDispatch$Line", "places", "I", false)
  | 1 => ("LineDispatch$Line", "tracks", "[I", true)
  | 2 => ("LineDispatch$Line", "lengths", "[I", true)
  | 3 => ("LineDispatch$Line", "minutes", "[I", true)
  | 4 => ("LineDispatch$Line", "trains", "I", false)
  | 5 => ("LineDispatch$Line", "from", "[I", true)
  | 6 => ("LineDispatch$Line", "to", "[I", true)
  | 7 => ("LineDispatch$Line", "size", "[I", true)
  | 8 => ("LineDispatch$Line", "left", "[I", true)
  | 9 => ("LineDispatch$Line", "status", "[I", true)
  | 10 => ("LineDispatch$Line", "when", "[I", true)
  | 11 => ("LineDispatch$Line", "clock", "I", false)
  | 12 => ("LineDispatch$Line", "entries", "I", false)
  | 13 => ("LineDispatch$Line", "entryMinute", "[I", true)
  | 14 => ("LineDispatch$Line", "entryTrain", "[I", true)
  | _ => ("LineDispatch$Line", "entryPlace", "[I", true)
def tyX0 : Nat → FieldType := fun k => match k with
  | 0 => .int
  | 1 => .array .int
  | 2 => .array .int
  | 3 => .array .int
  | 4 => .int
  | 5 => .array .int
  | 6 => .array .int
  | 7 => .array .int
  | 8 => .array .int
  | 9 => .array .int
  | 10 => .array .int
  | 11 => .int
  | 12 => .int
  | 13 => .array .int
  | 14 => .array .int
  | _ => .array .int
abbrev wsX00 : List Cond := u_ws RX0 TX0 16
theorem nmX0 : ∀ a, a < 16 → ∀ b, b < 16 → a ≠ b → (TX0 a).2.1 ≠ (TX0 b).2.1 := by decide +kernel
theorem tyX0_ok : ∀ k, k < 16 → parseFieldDescriptor (TX0 k).2.2.1 = some (tyX0 k) := by decide +kernel
abbrev cX0_init : ByteArray := prog_2_method_1_code
def yX0_init : MethodName := ⟨RX0, "<init>", "()V"⟩
abbrev cX0_copyFrom : ByteArray := prog_2_method_2_code
def yX0_copyFrom : MethodName := ⟨RX0, "copyFrom", "(LLineDispatch$Line;)V"⟩
abbrev cX0_clearAll : ByteArray := prog_2_method_3_code
def yX0_clearAll : MethodName := ⟨RX0, "clearAll", "()V"⟩
abbrev cX0_hasPlace : ByteArray := prog_2_method_4_code
def yX0_hasPlace : MethodName := ⟨RX0, "hasPlace", "(I)Z"⟩
abbrev cX0_hasTrain : ByteArray := prog_2_method_5_code
def yX0_hasTrain : MethodName := ⟨RX0, "hasTrain", "(I)Z"⟩
abbrev cX0_hasAllToldPlaces : ByteArray := prog_2_method_6_code
def yX0_hasAllToldPlaces : MethodName := ⟨RX0, "hasAllToldPlaces", "()Z"⟩
abbrev cX0_openPlace : ByteArray := prog_2_method_7_code
def yX0_openPlace : MethodName := ⟨RX0, "openPlace", "()V"⟩
abbrev cX0_openTrack : ByteArray := prog_2_method_8_code
def yX0_openTrack : MethodName := ⟨RX0, "openTrack", "(I)V"⟩
abbrev cX0_openTrain : ByteArray := prog_2_method_9_code
def yX0_openTrain : MethodName := ⟨RX0, "openTrain", "(III)V"⟩
abbrev cX0_removeTrain : ByteArray := prog_2_method_10_code
def yX0_removeTrain : MethodName := ⟨RX0, "removeTrain", "(I)V"⟩
abbrev cX0_removeEntries : ByteArray := prog_2_method_11_code
def yX0_removeEntries : MethodName := ⟨RX0, "removeEntries", "(I)V"⟩
abbrev cX0_howMany : ByteArray := prog_2_method_12_code
def yX0_howMany : MethodName := ⟨RX0, "howMany", "(I)I"⟩
abbrev cX0_howManyThere : ByteArray := prog_2_method_13_code
def yX0_howManyThere : MethodName := ⟨RX0, "howManyThere", "(I)I"⟩
abbrev cX0_stepsLeft : ByteArray := prog_2_method_14_code
def yX0_stepsLeft : MethodName := ⟨RX0, "stepsLeft", "()I"⟩
abbrev cX0_spot : ByteArray := prog_2_method_15_code
def yX0_spot : MethodName := ⟨RX0, "spot", "(II)I"⟩
abbrev cX0_sectionAhead : ByteArray := prog_2_method_16_code
def yX0_sectionAhead : MethodName := ⟨RX0, "sectionAhead", "(II)I"⟩
abbrev cX0_minutesLeft : ByteArray := prog_2_method_17_code
def yX0_minutesLeft : MethodName := ⟨RX0, "minutesLeft", "(I)I"⟩
abbrev cX0_runnerIn : ByteArray := prog_2_method_18_code
def yX0_runnerIn : MethodName := ⟨RX0, "runnerIn", "(I)I"⟩
abbrev cX0_depart : ByteArray := prog_2_method_19_code
def yX0_depart : MethodName := ⟨RX0, "depart", "(I)V"⟩
abbrev cX0_enterJournal : ByteArray := prog_2_method_20_code
def yX0_enterJournal : MethodName := ⟨RX0, "enterJournal", "(II)V"⟩
abbrev cX0_forgetFirstEntry : ByteArray := prog_2_method_21_code
def yX0_forgetFirstEntry : MethodName := ⟨RX0, "forgetFirstEntry", "()V"⟩
abbrev cX0_passTime : ByteArray := prog_2_method_22_code
def yX0_passTime : MethodName := ⟨RX0, "passTime", "(I)I"⟩
abbrev cX0_latestEnd : ByteArray := prog_2_method_23_code
def yX0_latestEnd : MethodName := ⟨RX0, "latestEnd", "()I"⟩
abbrev cX0_waitForNext : ByteArray := prog_2_method_24_code
def yX0_waitForNext : MethodName := ⟨RX0, "waitForNext", "()I"⟩
def RX1 : String := "LineDispatch$Postures"
def TX1 : u_T := fun k => match k with
  | 0 => ("LineDispatch$Postures", "rooms", "[Z", true)
  | 1 => ("LineDispatch$Postures", "ends", "[I", true)
  | 2 => ("LineDispatch$Postures", "seen", "[B", true)
  | 3 => ("LineDispatch$Postures", "left", "[I", true)
  | 4 => ("LineDispatch$Postures", "there", "[I", true)
  | 5 => ("LineDispatch$Postures", "row", "[I", true)
  | 6 => ("LineDispatch$Postures", "roomsKnown", "Z", false)
  | _ => ("LineDispatch$Postures", "endsKnown", "Z", false)
def tyX1 : Nat → FieldType := fun k => match k with
  | 0 => .array .boolean
  | 1 => .array .int
  | 2 => .array .byte
  | 3 => .array .int
  | 4 => .array .int
  | 5 => .array .int
  | 6 => .boolean
  | _ => .boolean
abbrev wsX10 : List Cond := u_ws RX1 TX1 8
theorem nmX1 : ∀ a, a < 8 → ∀ b, b < 8 → a ≠ b → (TX1 a).2.1 ≠ (TX1 b).2.1 := by decide +kernel
theorem tyX1_ok : ∀ k, k < 8 → parseFieldDescriptor (TX1 k).2.2.1 = some (tyX1 k) := by decide +kernel
abbrev cX1_init : ByteArray := prog_3_method_1_code
def yX1_init : MethodName := ⟨RX1, "<init>", "()V"⟩
abbrev cX1_forget : ByteArray := prog_3_method_2_code
def yX1_forget : MethodName := ⟨RX1, "forget", "()V"⟩
abbrev cX1_learnRooms : ByteArray := prog_3_method_3_code
def yX1_learnRooms : MethodName := ⟨RX1, "learnRooms", "(LLineDispatch$Line;)V"⟩
abbrev cX1_fits : ByteArray := prog_3_method_4_code
def yX1_fits : MethodName := ⟨RX1, "fits", "(LLineDispatch$Line;II)Z"⟩
abbrev cX1_tracksFor : ByteArray := prog_3_method_5_code
def yX1_tracksFor : MethodName := ⟨RX1, "tracksFor", "(LLineDispatch$Line;II)I"⟩
abbrev cX1_trainsOf : ByteArray := prog_3_method_6_code
def yX1_trainsOf : MethodName := ⟨RX1, "trainsOf", "(LLineDispatch$Line;II)I"⟩
abbrev cX1_learn : ByteArray := prog_3_method_7_code
def yX1_learn : MethodName := ⟨RX1, "learn", "(LLineDispatch$Line;)V"⟩
abbrev cX1_learnEnds : ByteArray := prog_3_method_8_code
def yX1_learnEnds : MethodName := ⟨RX1, "learnEnds", "(LLineDispatch$Line;)V"⟩
abbrev cX1_highest : ByteArray := prog_3_method_9_code
def yX1_highest : MethodName := ⟨RX1, "highest", "(LLineDispatch$Line;I)I"⟩
abbrev cX1_learnOne : ByteArray := prog_3_method_10_code
def yX1_learnOne : MethodName := ⟨RX1, "learnOne", "(LLineDispatch$Line;)V"⟩
abbrev cX1_code : ByteArray := prog_3_method_11_code
def yX1_code : MethodName := ⟨RX1, "code", "()I"⟩
abbrev cX1_placeAll : ByteArray := prog_3_method_12_code
def yX1_placeAll : MethodName := ⟨RX1, "placeAll", "(LLineDispatch$Line;)V"⟩
abbrev cX1_look : ByteArray := prog_3_method_13_code
def yX1_look : MethodName := ⟨RX1, "look", "(LLineDispatch$Line;)V"⟩
abbrev cX1_canStep : ByteArray := prog_3_method_14_code
def yX1_canStep : MethodName := ⟨RX1, "canStep", "(LLineDispatch$Line;I)Z"⟩
abbrev cX1_endsBehind : ByteArray := prog_3_method_15_code
def yX1_endsBehind : MethodName := ⟨RX1, "endsBehind", "(I)I"⟩
abbrev cX1_isSafeBehind : ByteArray := prog_3_method_16_code
def yX1_isSafeBehind : MethodName := ⟨RX1, "isSafeBehind", "(I)Z"⟩
abbrev cX1_firstLostBehind : ByteArray := prog_3_method_17_code
def yX1_firstLostBehind : MethodName := ⟨RX1, "firstLostBehind", "(LLineDispatch$Line;I)I"⟩
abbrev cX1_firstAhead : ByteArray := prog_3_method_18_code
def yX1_firstAhead : MethodName := ⟨RX1, "firstAhead", "(LLineDispatch$Line;I)I"⟩
abbrev cX1_holdsAll : ByteArray := prog_3_method_19_code
def yX1_holdsAll : MethodName := ⟨RX1, "holdsAll", "(LLineDispatch$Line;)Z"⟩
abbrev cX1_isSafe : ByteArray := prog_3_method_20_code
def yX1_isSafe : MethodName := ⟨RX1, "isSafe", "()Z"⟩
abbrev cX1_reached : ByteArray := prog_3_method_21_code
def yX1_reached : MethodName := ⟨RX1, "reached", "(LLineDispatch$Line;Z)I"⟩
abbrev cX1_markNext : ByteArray := prog_3_method_22_code
def yX1_markNext : MethodName := ⟨RX1, "markNext", "(LLineDispatch$Line;I)V"⟩
abbrev cX1_goOneByOne : ByteArray := prog_3_method_23_code
def yX1_goOneByOne : MethodName := ⟨RX1, "goOneByOne", "(LLineDispatch$Line;)I"⟩
abbrev cX1_firstToGoAlone : ByteArray := prog_3_method_24_code
def yX1_firstToGoAlone : MethodName := ⟨RX1, "firstToGoAlone", "(LLineDispatch$Line;)I"⟩
abbrev cX1_goesAlone : ByteArray := prog_3_method_25_code
def yX1_goesAlone : MethodName := ⟨RX1, "goesAlone", "(LLineDispatch$Line;I)Z"⟩
def RX2 : String := "LineDispatch$Reader"
def TX2 : u_T := fun k => match k with
  | 0 => ("LineDispatch$Reader", "tape", "[B", true)
  | 1 => ("LineDispatch$Reader", "size", "I", false)
  | 2 => ("LineDispatch$Reader", "fault", "I", false)
  | 3 => ("LineDispatch$Reader", "faultAt", "I", false)
  | 4 => ("LineDispatch$Reader", "next", "I", false)
  | 5 => ("LineDispatch$Reader", "start", "I", false)
  | 6 => ("LineDispatch$Reader", "kind", "I", false)
  | _ => ("LineDispatch$Reader", "value", "I", false)
def tyX2 : Nat → FieldType := fun k => match k with
  | 0 => .array .byte
  | 1 => .int
  | 2 => .int
  | 3 => .int
  | 4 => .int
  | 5 => .int
  | 6 => .int
  | _ => .int
abbrev wsX20 : List Cond := u_ws RX2 TX2 8
theorem nmX2 : ∀ a, a < 8 → ∀ b, b < 8 → a ≠ b → (TX2 a).2.1 ≠ (TX2 b).2.1 := by decide +kernel
theorem tyX2_ok : ∀ k, k < 8 → parseFieldDescriptor (TX2 k).2.2.1 = some (tyX2 k) := by decide +kernel
abbrev cX2_init : ByteArray := prog_4_method_1_code
def yX2_init : MethodName := ⟨RX2, "<init>", "()V"⟩
abbrev cX2_readInto : ByteArray := prog_4_method_2_code
def yX2_readInto : MethodName := ⟨RX2, "readInto", "(LLineDispatch$Line;)I"⟩
abbrev cX2_failBehindAll : ByteArray := prog_4_method_3_code
def yX2_failBehindAll : MethodName := ⟨RX2, "failBehindAll", "(I)V"⟩
abbrev cX2_fail : ByteArray := prog_4_method_4_code
def yX2_fail : MethodName := ⟨RX2, "fail", "(I)Z"⟩
abbrev cX2_takeLine : ByteArray := prog_4_method_5_code
def yX2_takeLine : MethodName := ⟨RX2, "takeLine", "(LLineDispatch$Line;)Z"⟩
abbrev cX2_takePlace : ByteArray := prog_4_method_6_code
def yX2_takePlace : MethodName := ⟨RX2, "takePlace", "(LLineDispatch$Line;)Z"⟩
abbrev cX2_takeSection : ByteArray := prog_4_method_7_code
def yX2_takeSection : MethodName := ⟨RX2, "takeSection", "(LLineDispatch$Line;)Z"⟩
abbrev cX2_takeTrain : ByteArray := prog_4_method_8_code
def yX2_takeTrain : MethodName := ⟨RX2, "takeTrain", "(LLineDispatch$Line;)Z"⟩
abbrev cX2_takeNumber : ByteArray := prog_4_method_9_code
def yX2_takeNumber : MethodName := ⟨RX2, "takeNumber", "(II)Z"⟩
abbrev cX2_isNumberWithin : ByteArray := prog_4_method_10_code
def yX2_isNumberWithin : MethodName := ⟨RX2, "isNumberWithin", "(II)Z"⟩
abbrev cX2_takeSign : ByteArray := prog_4_method_11_code
def yX2_takeSign : MethodName := ⟨RX2, "takeSign", "()Z"⟩
abbrev cX2_takeToken : ByteArray := prog_4_method_12_code
def yX2_takeToken : MethodName := ⟨RX2, "takeToken", "()Z"⟩
abbrev cX2_kindOf : ByteArray := prog_4_method_13_code
def yX2_kindOf : MethodName := ⟨RX2, "kindOf", "(I)I"⟩
abbrev cX2_isWord : ByteArray := prog_4_method_14_code
def yX2_isWord : MethodName := ⟨RX2, "isWord", "(Ljava/lang/String;)Z"⟩
def RX3 : String := "LineDispatch$Sheet"
def TX3 : u_T := fun k => match k with
  | 0 => ("LineDispatch$Sheet", "size", "I", false)
  | 1 => ("LineDispatch$Sheet", "cells", "[I", true)
  | _ => ("LineDispatch$Sheet", "lane", "I", false)
def tyX3 : Nat → FieldType := fun k => match k with
  | 0 => .int
  | 1 => .array .int
  | _ => .int
abbrev wsX30 : List Cond := u_ws RX3 TX3 3
theorem nmX3 : ∀ a, a < 3 → ∀ b, b < 3 → a ≠ b → (TX3 a).2.1 ≠ (TX3 b).2.1 := by decide +kernel
theorem tyX3_ok : ∀ k, k < 3 → parseFieldDescriptor (TX3 k).2.2.1 = some (tyX3 k) := by decide +kernel
abbrev cX3_init : ByteArray := prog_5_method_1_code
def yX3_init : MethodName := ⟨RX3, "<init>", "()V"⟩
abbrev cX3_renew : ByteArray := prog_5_method_2_code
def yX3_renew : MethodName := ⟨RX3, "renew", "(II)V"⟩
abbrev cX3_faultOfCell : ByteArray := prog_5_method_3_code
def yX3_faultOfCell : MethodName := ⟨RX3, "faultOfCell", "(I)I"⟩
abbrev cX3_faultOfThree : ByteArray := prog_5_method_4_code
def yX3_faultOfThree : MethodName := ⟨RX3, "faultOfThree", "(II)I"⟩
abbrev cX3_put : ByteArray := prog_5_method_5_code
def yX3_put : MethodName := ⟨RX3, "put", "(II)V"⟩
def RX4 : String := "LineDispatch"
def TX4 : u_T := fun k => match k with
  | 0 => ("LineDispatch", "line", "LLineDispatch$Line;", true)
  | 1 => ("LineDispatch", "spare", "LLineDispatch$Line;", true)
  | 2 => ("LineDispatch", "images", "[LLineDispatch$Line;", true)
  | 3 => ("LineDispatch", "kept", "[Z", true)
  | 4 => ("LineDispatch", "sheets", "[LLineDispatch$Sheet;", true)
  | 5 => ("LineDispatch", "postures", "LLineDispatch$Postures;", true)
  | 6 => ("LineDispatch", "reader", "LLineDispatch$Reader;", true)
  | _ => ("LineDispatch", "latestTorn", "I", false)
def tyX4 : Nat → FieldType := fun k => match k with
  | 0 => .object "LineDispatch$Line"
  | 1 => .object "LineDispatch$Line"
  | 2 => .array (.object "LineDispatch$Line")
  | 3 => .array .boolean
  | 4 => .array (.object "LineDispatch$Sheet")
  | 5 => .object "LineDispatch$Postures"
  | 6 => .object "LineDispatch$Reader"
  | _ => .int
abbrev wsX40 : List Cond := u_ws RX4 TX4 8
theorem nmX4 : ∀ a, a < 8 → ∀ b, b < 8 → a ≠ b → (TX4 a).2.1 ≠ (TX4 b).2.1 := by decide +kernel
theorem tyX4_ok : ∀ k, k < 8 → parseFieldDescriptor (TX4 k).2.2.1 = some (tyX4 k) := by decide +kernel
abbrev cX4_init : ByteArray := prog_1_method_1_code
def yX4_init : MethodName := ⟨RX4, "<init>", "()V"⟩
abbrev cX4_feed : ByteArray := prog_1_method_2_code
def yX4_feed : MethodName := ⟨RX4, "feed", "(I)I"⟩
abbrev cX4_end : ByteArray := prog_1_method_3_code
def yX4_end : MethodName := ⟨RX4, "end", "(I)I"⟩
abbrev cX4_text : ByteArray := prog_1_method_4_code
def yX4_text : MethodName := ⟨RX4, "text", "()I"⟩
abbrev cX4_fault : ByteArray := prog_1_method_5_code
def yX4_fault : MethodName := ⟨RX4, "fault", "()I"⟩
abbrev cX4_rule : ByteArray := prog_1_method_6_code
def yX4_rule : MethodName := ⟨RX4, "rule", "(I)I"⟩
abbrev cX4_place : ByteArray := prog_1_method_7_code
def yX4_place : MethodName := ⟨RX4, "place", "(II)I"⟩
abbrev cX4_train : ByteArray := prog_1_method_8_code
def yX4_train : MethodName := ⟨RX4, "train", "(II)I"⟩
abbrev cX4_why : ByteArray := prog_1_method_9_code
def yX4_why : MethodName := ⟨RX4, "why", "(I)I"⟩
abbrev cX4_who : ByteArray := prog_1_method_10_code
def yX4_who : MethodName := ⟨RX4, "who", "(I)I"⟩
abbrev cX4_order : ByteArray := prog_1_method_11_code
def yX4_order : MethodName := ⟨RX4, "order", "(I)I"⟩
abbrev cX4_reach : ByteArray := prog_1_method_12_code
def yX4_reach : MethodName := ⟨RX4, "reach", "(I)I"⟩
abbrev cX4_plan : ByteArray := prog_1_method_13_code
def yX4_plan : MethodName := ⟨RX4, "plan", "(II)I"⟩
abbrev cX4_best : ByteArray := prog_1_method_14_code
def yX4_best : MethodName := ⟨RX4, "best", "()I"⟩
abbrev cX4_let : ByteArray := prog_1_method_15_code
def yX4_let : MethodName := ⟨RX4, "let", "(I)I"⟩
abbrev cX4_tick : ByteArray := prog_1_method_16_code
def yX4_tick : MethodName := ⟨RX4, "tick", "(I)I"⟩
abbrev cX4_send : ByteArray := prog_1_method_17_code
def yX4_send : MethodName := ⟨RX4, "send", "(I)I"⟩
abbrev cX4_journal : ByteArray := prog_1_method_18_code
def yX4_journal : MethodName := ⟨RX4, "journal", "(II)I"⟩
abbrev cX4_add : ByteArray := prog_1_method_19_code
def yX4_add : MethodName := ⟨RX4, "add", "(III)I"⟩
abbrev cX4_drop : ByteArray := prog_1_method_20_code
def yX4_drop : MethodName := ⟨RX4, "drop", "(I)I"⟩
abbrev cX4_draw : ByteArray := prog_1_method_21_code
def yX4_draw : MethodName := ⟨RX4, "draw", "(II)I"⟩
abbrev cX4_keep : ByteArray := prog_1_method_22_code
def yX4_keep : MethodName := ⟨RX4, "keep", "(I)I"⟩
abbrev cX4_back : ByteArray := prog_1_method_23_code
def yX4_back : MethodName := ⟨RX4, "back", "(I)I"⟩
abbrev cX4_sheet : ByteArray := prog_1_method_24_code
def yX4_sheet : MethodName := ⟨RX4, "sheet", "(III)I"⟩
abbrev cX4_lay : ByteArray := prog_1_method_25_code
def yX4_lay : MethodName := ⟨RX4, "lay", "(III)I"⟩
abbrev cX4_read : ByteArray := prog_1_method_26_code
def yX4_read : MethodName := ⟨RX4, "read", "(IIII)I"⟩
abbrev cX4_torn : ByteArray := prog_1_method_27_code
def yX4_torn : MethodName := ⟨RX4, "torn", "()I"⟩
abbrev cX4_count : ByteArray := prog_1_method_28_code
def yX4_count : MethodName := ⟨RX4, "count", "(I)I"⟩
abbrev cX4_isRule : ByteArray := prog_1_method_29_code
def yX4_isRule : MethodName := ⟨RX4, "isRule", "(I)Z"⟩
abbrev cX4_isImage : ByteArray := prog_1_method_30_code
def yX4_isImage : MethodName := ⟨RX4, "isImage", "(I)Z"⟩
abbrev cX4_isSheet : ByteArray := prog_1_method_31_code
def yX4_isSheet : MethodName := ⟨RX4, "isSheet", "(I)Z"⟩
abbrev cX4_isLane : ByteArray := prog_1_method_32_code
def yX4_isLane : MethodName := ⟨RX4, "isLane", "(I)Z"⟩
abbrev cX4_sum : ByteArray := prog_1_method_33_code
def yX4_sum : MethodName := ⟨RX4, "sum", "([II)I"⟩
abbrev cX4_faultBehindAll : ByteArray := prog_1_method_34_code
def yX4_faultBehindAll : MethodName := ⟨RX4, "faultBehindAll", "(LLineDispatch$Line;)I"⟩
abbrev cX4_isPlain : ByteArray := prog_1_method_35_code
def yX4_isPlain : MethodName := ⟨RX4, "isPlain", "()Z"⟩
abbrev cX4_against : ByteArray := prog_1_method_36_code
def yX4_against : MethodName := ⟨RX4, "against", "(LLineDispatch$Line;I)I"⟩
abbrev cX4_letAllGo : ByteArray := prog_1_method_37_code
def yX4_letAllGo : MethodName := ⟨RX4, "letAllGo", "(LLineDispatch$Line;I)I"⟩
abbrev cX4_firstBy : ByteArray := prog_1_method_38_code
def yX4_firstBy : MethodName := ⟨RX4, "firstBy", "(LLineDispatch$Line;I)I"⟩
abbrev cX4_isAhead : ByteArray := prog_1_method_39_code
def yX4_isAhead : MethodName := ⟨RX4, "isAhead", "(LLineDispatch$Line;III)Z"⟩
abbrev cX4_howManyFree : ByteArray := prog_1_method_40_code
def yX4_howManyFree : MethodName := ⟨RX4, "howManyFree", "()I"⟩
abbrev cX4_planned : ByteArray := prog_1_method_41_code
def yX4_planned : MethodName := ⟨RX4, "planned", "(IZ)I"⟩
def RX5 : String := "LineDispatchModel"
def TX5 : u_T := fun k => match k with
  | 0 => ("LineDispatchModel", "st", "[I", true)
  | 1 => ("LineDispatchModel", "draft", "[I", true)
  | 2 => ("LineDispatchModel", "before", "[I", true)
  | 3 => ("LineDispatchModel", "kept", "[I", true)
  | 4 => ("LineDispatchModel", "isKept", "[Z", true)
  | 5 => ("LineDispatchModel", "tape", "[I", true)
  | 6 => ("LineDispatchModel", "taped", "I", false)
  | 7 => ("LineDispatchModel", "pos", "I", false)
  | 8 => ("LineDispatchModel", "begun", "I", false)
  | 9 => ("LineDispatchModel", "sort", "I", false)
  | 10 => ("LineDispatchModel", "figure", "I", false)
  | 11 => ("LineDispatchModel", "fault", "I", false)
  | 12 => ("LineDispatchModel", "wrongAt", "I", false)
  | 13 => ("LineDispatchModel", "spot", "[I", true)
  | 14 => ("LineDispatchModel", "queue", "[I", true)
  | 15 => ("LineDispatchModel", "isSeen", "[Z", true)
  | 16 => ("LineDispatchModel", "isSafe", "[Z", true)
  | 17 => ("LineDispatchModel", "queued", "I", false)
  | 18 => ("LineDispatchModel", "sequence", "[I", true)
  | 19 => ("LineDispatchModel", "sequenceMany", "I", false)
  | 20 => ("LineDispatchModel", "lanes", "[I", true)
  | 21 => ("LineDispatchModel", "sizes", "[I", true)
  | 22 => ("LineDispatchModel", "cells", "[I", true)
  | _ => ("LineDispatchModel", "torn", "I", false)
def tyX5 : Nat → FieldType := fun k => match k with
  | 0 => .array .int
  | 1 => .array .int
  | 2 => .array .int
  | 3 => .array .int
  | 4 => .array .boolean
  | 5 => .array .int
  | 6 => .int
  | 7 => .int
  | 8 => .int
  | 9 => .int
  | 10 => .int
  | 11 => .int
  | 12 => .int
  | 13 => .array .int
  | 14 => .array .int
  | 15 => .array .boolean
  | 16 => .array .boolean
  | 17 => .int
  | 18 => .array .int
  | 19 => .int
  | 20 => .array .int
  | 21 => .array .int
  | 22 => .array .int
  | _ => .int
abbrev wsX50 : List Cond := u_ws RX5 TX5 24
theorem nmX5 : ∀ a, a < 24 → ∀ b, b < 24 → a ≠ b → (TX5 a).2.1 ≠ (TX5 b).2.1 := by decide +kernel
theorem tyX5_ok : ∀ k, k < 24 → parseFieldDescriptor (TX5 k).2.2.1 = some (tyX5 k) := by decide +kernel
abbrev cX5_init : ByteArray := prog_7_method_1_code
def yX5_init : MethodName := ⟨RX5, "<init>", "()V"⟩
abbrev cX5_in : ByteArray := prog_7_method_3_code
def yX5_in : MethodName := ⟨RX5, "in", "(JJJ)Z"⟩
abbrev cX5_flag : ByteArray := prog_7_method_4_code
def yX5_flag : MethodName := ⟨RX5, "flag", "(Z)I"⟩
abbrev cX5_keepBefore : ByteArray := prog_7_method_5_code
def yX5_keepBefore : MethodName := ⟨RX5, "keepBefore", "()V"⟩
abbrev cX5_backBefore : ByteArray := prog_7_method_6_code
def yX5_backBefore : MethodName := ⟨RX5, "backBefore", "()V"⟩
abbrev cX5_feed : ByteArray := prog_7_method_7_code
def yX5_feed : MethodName := ⟨RX5, "feed", "(I)I"⟩
abbrev cX5_end : ByteArray := prog_7_method_8_code
def yX5_end : MethodName := ⟨RX5, "end", "(I)I"⟩
abbrev cX5_requires : ByteArray := prog_7_method_9_code
def yX5_requires : MethodName := ⟨RX5, "requires", "(ZI)V"⟩
abbrev cX5_byteAt : ByteArray := prog_7_method_10_code
def yX5_byteAt : MethodName := ⟨RX5, "byteAt", "(I)I"⟩
abbrev cX5_is : ByteArray := prog_7_method_11_code
def yX5_is : MethodName := ⟨RX5, "is", "(IIIII)Z"⟩
abbrev cX5_lineNow : ByteArray := prog_7_method_12_code
def yX5_lineNow : MethodName := ⟨RX5, "lineNow", "()I"⟩
abbrev cX5_hasRoom : ByteArray := prog_7_method_13_code
def yX5_hasRoom : MethodName := ⟨RX5, "hasRoom", "(I)Z"⟩
abbrev cX5_reads : ByteArray := prog_7_method_14_code
def yX5_reads : MethodName := ⟨RX5, "reads", "()V"⟩
abbrev cX5_readNumber : ByteArray := prog_7_method_15_code
def yX5_readNumber : MethodName := ⟨RX5, "readNumber", "(III)I"⟩
abbrev cX5_readPlace : ByteArray := prog_7_method_16_code
def yX5_readPlace : MethodName := ⟨RX5, "readPlace", "()V"⟩
abbrev cX5_readTrain : ByteArray := prog_7_method_17_code
def yX5_readTrain : MethodName := ⟨RX5, "readTrain", "()V"⟩
abbrev cX5_readLine : ByteArray := prog_7_method_18_code
def yX5_readLine : MethodName := ⟨RX5, "readLine", "()V"⟩
abbrev cX5_areAllPlaces : ByteArray := prog_7_method_19_code
def yX5_areAllPlaces : MethodName := ⟨RX5, "areAllPlaces", "()Z"⟩
abbrev cX5_isHeldAll : ByteArray := prog_7_method_20_code
def yX5_isHeldAll : MethodName := ⟨RX5, "isHeldAll", "()Z"⟩
abbrev cX5_isSafeNow : ByteArray := prog_7_method_21_code
def yX5_isSafeNow : MethodName := ⟨RX5, "isSafeNow", "()Z"⟩
abbrev cX5_text : ByteArray := prog_7_method_22_code
def yX5_text : MethodName := ⟨RX5, "text", "()I"⟩
abbrev cX5_fault : ByteArray := prog_7_method_23_code
def yX5_fault : MethodName := ⟨RX5, "fault", "()I"⟩
abbrev cX5_isPlace : ByteArray := prog_7_method_24_code
def yX5_isPlace : MethodName := ⟨RX5, "isPlace", "(I)Z"⟩
abbrev cX5_isTrain : ByteArray := prog_7_method_25_code
def yX5_isTrain : MethodName := ⟨RX5, "isTrain", "(I)Z"⟩
abbrev cX5_ofTrain : ByteArray := prog_7_method_26_code
def yX5_ofTrain : MethodName := ⟨RX5, "ofTrain", "(II)I"⟩
abbrev cX5_ofPlace : ByteArray := prog_7_method_27_code
def yX5_ofPlace : MethodName := ⟨RX5, "ofPlace", "(II)I"⟩
abbrev cX5_nextFrom : ByteArray := prog_7_method_28_code
def yX5_nextFrom : MethodName := ⟨RX5, "nextFrom", "(II)I"⟩
abbrev cX5_isDoneIn : ByteArray := prog_7_method_29_code
def yX5_isDoneIn : MethodName := ⟨RX5, "isDoneIn", "(I)Z"⟩
abbrev cX5_minutesOf : ByteArray := prog_7_method_30_code
def yX5_minutesOf : MethodName := ⟨RX5, "minutesOf", "(II)I"⟩
abbrev cX5_minutesStill : ByteArray := prog_7_method_31_code
def yX5_minutesStill : MethodName := ⟨RX5, "minutesStill", "(I)I"⟩
abbrev cX5_withStatus : ByteArray := prog_7_method_32_code
def yX5_withStatus : MethodName := ⟨RX5, "withStatus", "(I)I"⟩
abbrev cX5_movesLeft : ByteArray := prog_7_method_33_code
def yX5_movesLeft : MethodName := ⟨RX5, "movesLeft", "()I"⟩
abbrev cX5_weightOf : ByteArray := prog_7_method_34_code
def yX5_weightOf : MethodName := ⟨RX5, "weightOf", "(I)I"⟩
abbrev cX5_postureNow : ByteArray := prog_7_method_35_code
def yX5_postureNow : MethodName := ⟨RX5, "postureNow", "()I"⟩
abbrev cX5_decode : ByteArray := prog_7_method_36_code
def yX5_decode : MethodName := ⟨RX5, "decode", "(I)V"⟩
abbrev cX5_encode : ByteArray := prog_7_method_37_code
def yX5_encode : MethodName := ⟨RX5, "encode", "()I"⟩
abbrev cX5_tracksFor : ByteArray := prog_7_method_38_code
def yX5_tracksFor : MethodName := ⟨RX5, "tracksFor", "(II)I"⟩
abbrev cX5_trainsFor : ByteArray := prog_7_method_39_code
def yX5_trainsFor : MethodName := ⟨RX5, "trainsFor", "(II)I"⟩
abbrev cX5_holds : ByteArray := prog_7_method_40_code
def yX5_holds : MethodName := ⟨RX5, "holds", "(I)Z"⟩
abbrev cX5_movedBy : ByteArray := prog_7_method_41_code
def yX5_movedBy : MethodName := ⟨RX5, "movedBy", "(I)I"⟩
abbrev cX5_explore : ByteArray := prog_7_method_42_code
def yX5_explore : MethodName := ⟨RX5, "explore", "(I)V"⟩
abbrev cX5_goesAlone : ByteArray := prog_7_method_43_code
def yX5_goesAlone : MethodName := ⟨RX5, "goesAlone", "(I)Z"⟩
abbrev cX5_findSequence : ByteArray := prog_7_method_44_code
def yX5_findSequence : MethodName := ⟨RX5, "findSequence", "()V"⟩
abbrev cX5_isPlain : ByteArray := prog_7_method_45_code
def yX5_isPlain : MethodName := ⟨RX5, "isPlain", "()Z"⟩
abbrev cX5_leftBy : ByteArray := prog_7_method_46_code
def yX5_leftBy : MethodName := ⟨RX5, "leftBy", "(I)I"⟩
abbrev cX5_runsBetween : ByteArray := prog_7_method_47_code
def yX5_runsBetween : MethodName := ⟨RX5, "runsBetween", "(II)I"⟩
abbrev cX5_against : ByteArray := prog_7_method_48_code
def yX5_against : MethodName := ⟨RX5, "against", "(I)I"⟩
abbrev cX5_canGo : ByteArray := prog_7_method_49_code
def yX5_canGo : MethodName := ⟨RX5, "canGo", "()I"⟩
abbrev cX5_rule : ByteArray := prog_7_method_50_code
def yX5_rule : MethodName := ⟨RX5, "rule", "(I)I"⟩
abbrev cX5_trackOf : ByteArray := prog_7_method_51_code
def yX5_trackOf : MethodName := ⟨RX5, "trackOf", "(II)I"⟩
abbrev cX5_trainsAt : ByteArray := prog_7_method_52_code
def yX5_trainsAt : MethodName := ⟨RX5, "trainsAt", "(I)I"⟩
abbrev cX5_place : ByteArray := prog_7_method_53_code
def yX5_place : MethodName := ⟨RX5, "place", "(II)I"⟩
abbrev cX5_train : ByteArray := prog_7_method_54_code
def yX5_train : MethodName := ⟨RX5, "train", "(II)I"⟩
abbrev cX5_why : ByteArray := prog_7_method_55_code
def yX5_why : MethodName := ⟨RX5, "why", "(I)I"⟩
abbrev cX5_firstAt : ByteArray := prog_7_method_56_code
def yX5_firstAt : MethodName := ⟨RX5, "firstAt", "(I)I"⟩
abbrev cX5_isEverDone : ByteArray := prog_7_method_57_code
def yX5_isEverDone : MethodName := ⟨RX5, "isEverDone", "(I)Z"⟩
abbrev cX5_firstStuck : ByteArray := prog_7_method_58_code
def yX5_firstStuck : MethodName := ⟨RX5, "firstStuck", "(I)I"⟩
abbrev cX5_who : ByteArray := prog_7_method_59_code
def yX5_who : MethodName := ⟨RX5, "who", "(I)I"⟩
abbrev cX5_order : ByteArray := prog_7_method_60_code
def yX5_order : MethodName := ⟨RX5, "order", "(I)I"⟩
abbrev cX5_reach : ByteArray := prog_7_method_61_code
def yX5_reach : MethodName := ⟨RX5, "reach", "(I)I"⟩
abbrev cX5_enters : ByteArray := prog_7_method_62_code
def yX5_enters : MethodName := ⟨RX5, "enters", "(II)V"⟩
abbrev cX5_entry : ByteArray := prog_7_method_63_code
def yX5_entry : MethodName := ⟨RX5, "entry", "(II)I"⟩
abbrev cX5_goes : ByteArray := prog_7_method_64_code
def yX5_goes : MethodName := ⟨RX5, "goes", "(I)V"⟩
abbrev cX5_goesOn : ByteArray := prog_7_method_65_code
def yX5_goesOn : MethodName := ⟨RX5, "goesOn", "(I)I"⟩
abbrev cX5_isAhead : ByteArray := prog_7_method_66_code
def yX5_isAhead : MethodName := ⟨RX5, "isAhead", "(III)Z"⟩
abbrev cX5_firstBy : ByteArray := prog_7_method_67_code
def yX5_firstBy : MethodName := ⟨RX5, "firstBy", "(I)I"⟩
abbrev cX5_sends : ByteArray := prog_7_method_68_code
def yX5_sends : MethodName := ⟨RX5, "sends", "(I)I"⟩
abbrev cX5_planned : ByteArray := prog_7_method_69_code
def yX5_planned : MethodName := ⟨RX5, "planned", "(II)I"⟩
abbrev cX5_plan : ByteArray := prog_7_method_70_code
def yX5_plan : MethodName := ⟨RX5, "plan", "(II)I"⟩
abbrev cX5_best : ByteArray := prog_7_method_71_code
def yX5_best : MethodName := ⟨RX5, "best", "()I"⟩
abbrev cX5_let : ByteArray := prog_7_method_72_code
def yX5_let : MethodName := ⟨RX5, "let", "(I)I"⟩
abbrev cX5_tick : ByteArray := prog_7_method_73_code
def yX5_tick : MethodName := ⟨RX5, "tick", "(I)I"⟩
abbrev cX5_send : ByteArray := prog_7_method_74_code
def yX5_send : MethodName := ⟨RX5, "send", "(I)I"⟩
abbrev cX5_journal : ByteArray := prog_7_method_75_code
def yX5_journal : MethodName := ⟨RX5, "journal", "(II)I"⟩
abbrev cX5_isGood : ByteArray := prog_7_method_76_code
def yX5_isGood : MethodName := ⟨RX5, "isGood", "(III)Z"⟩
abbrev cX5_add : ByteArray := prog_7_method_77_code
def yX5_add : MethodName := ⟨RX5, "add", "(III)I"⟩
abbrev cX5_leavesJournal : ByteArray := prog_7_method_78_code
def yX5_leavesJournal : MethodName := ⟨RX5, "leavesJournal", "(I)V"⟩
abbrev cX5_drop : ByteArray := prog_7_method_79_code
def yX5_drop : MethodName := ⟨RX5, "drop", "(I)I"⟩
abbrev cX5_draw : ByteArray := prog_7_method_80_code
def yX5_draw : MethodName := ⟨RX5, "draw", "(II)I"⟩
abbrev cX5_keep : ByteArray := prog_7_method_81_code
def yX5_keep : MethodName := ⟨RX5, "keep", "(I)I"⟩
abbrev cX5_back : ByteArray := prog_7_method_82_code
def yX5_back : MethodName := ⟨RX5, "back", "(I)I"⟩
abbrev cX5_isSheet : ByteArray := prog_7_method_83_code
def yX5_isSheet : MethodName := ⟨RX5, "isSheet", "(II)Z"⟩
abbrev cX5_sheet : ByteArray := prog_7_method_84_code
def yX5_sheet : MethodName := ⟨RX5, "sheet", "(III)I"⟩
abbrev cX5_lay : ByteArray := prog_7_method_85_code
def yX5_lay : MethodName := ⟨RX5, "lay", "(III)I"⟩
abbrev cX5_read : ByteArray := prog_7_method_86_code
def yX5_read : MethodName := ⟨RX5, "read", "(IIII)I"⟩
abbrev cX5_torn : ByteArray := prog_7_method_87_code
def yX5_torn : MethodName := ⟨RX5, "torn", "()I"⟩
abbrev cX5_summed : ByteArray := prog_7_method_88_code
def yX5_summed : MethodName := ⟨RX5, "summed", "(III)I"⟩
abbrev cX5_count : ByteArray := prog_7_method_89_code
def yX5_count : MethodName := ⟨RX5, "count", "(I)I"⟩
def RJx145de : String := "java/io/Serializable"
def TJx145de : u_T := fun k => match k with
  | _ => ("", "", "", false)
def tyJx145de : Nat → FieldType := fun k => match k with
  | _ => .int
abbrev wsJx145de0 : List Cond := u_ws RJx145de TJx145de 0
theorem nmJx145de : ∀ a, a < 0 → ∀ b, b < 0 → a ≠ b → (TJx145de a).2.1 ≠ (TJx145de b).2.1 := by decide +kernel
theorem tyJx145de_ok : ∀ k, k < 0 → parseFieldDescriptor (TJx145de k).2.2.1 = some (tyJx145de k) := by decide +kernel
def RJx9f9b0 : String := "java/lang/CharSequence"
def TJx9f9b0 : u_T := fun k => match k with
  | _ => ("", "", "", false)
def tyJx9f9b0 : Nat → FieldType := fun k => match k with
  | _ => .int
abbrev wsJx9f9b00 : List Cond := u_ws RJx9f9b0 TJx9f9b0 0
theorem nmJx9f9b0 : ∀ a, a < 0 → ∀ b, b < 0 → a ≠ b → (TJx9f9b0 a).2.1 ≠ (TJx9f9b0 b).2.1 := by decide +kernel
theorem tyJx9f9b0_ok : ∀ k, k < 0 → parseFieldDescriptor (TJx9f9b0 k).2.2.1 = some (tyJx9f9b0 k) := by decide +kernel
def RJxb160c : String := "java/lang/Comparable"
def TJxb160c : u_T := fun k => match k with
  | _ => ("", "", "", false)
def tyJxb160c : Nat → FieldType := fun k => match k with
  | _ => .int
abbrev wsJxb160c0 : List Cond := u_ws RJxb160c TJxb160c 0
theorem nmJxb160c : ∀ a, a < 0 → ∀ b, b < 0 → a ≠ b → (TJxb160c a).2.1 ≠ (TJxb160c b).2.1 := by decide +kernel
theorem tyJxb160c_ok : ∀ k, k < 0 → parseFieldDescriptor (TJxb160c k).2.2.1 = some (tyJxb160c k) := by decide +kernel
def RJ9 : String := "java/lang/Math"
def TJ9 : u_T := fun k => match k with
  | _ => ("", "", "", false)
def tyJ9 : Nat → FieldType := fun k => match k with
  | _ => .int
abbrev wsJ90 : List Cond := u_ws RJ9 TJ9 0
theorem nmJ9 : ∀ a, a < 0 → ∀ b, b < 0 → a ≠ b → (TJ9 a).2.1 ≠ (TJ9 b).2.1 := by decide +kernel
theorem tyJ9_ok : ∀ k, k < 0 → parseFieldDescriptor (TJ9 k).2.2.1 = some (tyJ9 k) := by decide +kernel
abbrev cJ9_abs_0f7a4 : ByteArray := prog_8_method_59_code
def yJ9_abs_0f7a4 : MethodName := ⟨RJ9, "abs", "(I)I"⟩
abbrev cJ9_max_7cf53 : ByteArray := prog_8_method_65_code
def yJ9_max_7cf53 : MethodName := ⟨RJ9, "max", "(II)I"⟩
def RJ0 : String := "java/lang/String"
def TJ0 : u_T := fun k => match k with
  | _ => ("", "", "", false)
def tyJ0 : Nat → FieldType := fun k => match k with
  | _ => .int
abbrev wsJ00 : List Cond := u_ws RJ0 TJ0 0
theorem nmJ0 : ∀ a, a < 0 → ∀ b, b < 0 → a ≠ b → (TJ0 a).2.1 ≠ (TJ0 b).2.1 := by decide +kernel
theorem tyJ0_ok : ∀ k, k < 0 → parseFieldDescriptor (TJ0 k).2.2.1 = some (tyJ0 k) := by decide +kernel
abbrev cJ0_length_8abf5 : ByteArray := prog_9_method_54_code
def yJ0_length_8abf5 : MethodName := ⟨RJ0, "length", "()I"⟩
abbrev cJ0_charAt_5068e : ByteArray := prog_9_method_56_code
def yJ0_charAt_5068e : MethodName := ⟨RJ0, "charAt", "(I)C"⟩
abbrev cJ0_coder_7d493 : ByteArray := prog_9_method_152_code
def yJ0_coder_7d493 : MethodName := ⟨RJ0, "coder", "()B"⟩
abbrev cJ0_isLatin1_aae02 : ByteArray := prog_9_method_154_code
def yJ0_isLatin1_aae02 : MethodName := ⟨RJ0, "isLatin1", "()Z"⟩
abbrev cJ0_checkIndex_df160 : ByteArray := prog_9_method_155_code
def yJ0_checkIndex_df160 : MethodName := ⟨RJ0, "checkIndex", "(II)V"⟩
def RJ1 : String := "java/lang/StringLatin1"
def TJ1 : u_T := fun k => match k with
  | _ => ("", "", "", false)
def tyJ1 : Nat → FieldType := fun k => match k with
  | _ => .int
abbrev wsJ10 : List Cond := u_ws RJ1 TJ1 0
theorem nmJ1 : ∀ a, a < 0 → ∀ b, b < 0 → a ≠ b → (TJ1 a).2.1 ≠ (TJ1 b).2.1 := by decide +kernel
theorem tyJ1_ok : ∀ k, k < 0 → parseFieldDescriptor (TJ1 k).2.2.1 = some (tyJ1 k) := by decide +kernel
abbrev cJ1_charAt_3b067 : ByteArray := prog_10_method_2_code
def yJ1_charAt_3b067 : MethodName := ⟨RJ1, "charAt", "([BI)C"⟩
def RJ2 : String := "java/lang/StringUTF16"
def TJ2 : u_T := fun k => match k with
  | _ => ("", "", "", false)
def tyJ2 : Nat → FieldType := fun k => match k with
  | _ => .int
abbrev wsJ20 : List Cond := u_ws RJ2 TJ2 0
theorem nmJ2 : ∀ a, a < 0 → ∀ b, b < 0 → a ≠ b → (TJ2 a).2.1 ≠ (TJ2 b).2.1 := by decide +kernel
theorem tyJ2_ok : ∀ k, k < 0 → parseFieldDescriptor (TJ2 k).2.2.1 = some (tyJ2 k) := by decide +kernel
abbrev cJ2_getChar_3b067 : ByteArray := prog_11_method_5_code
def yJ2_getChar_3b067 : MethodName := ⟨RJ2, "getChar", "([BI)C"⟩
abbrev cJ2_length_9d52b : ByteArray := prog_11_method_6_code
def yJ2_length_9d52b : MethodName := ⟨RJ2, "length", "([B)I"⟩
abbrev cJ2_charAt_3b067 : ByteArray := prog_11_method_83_code
def yJ2_charAt_3b067 : MethodName := ⟨RJ2, "charAt", "([BI)C"⟩
abbrev cJ2_checkIndex_2214a : ByteArray := prog_11_method_91_code
def yJ2_checkIndex_2214a : MethodName := ⟨RJ2, "checkIndex", "(I[B)V"⟩
def RJ10 : String := "java/lang/System"
def TJ10 : u_T := fun k => match k with
  | _ => ("", "", "", false)
def tyJ10 : Nat → FieldType := fun k => match k with
  | _ => .int
abbrev wsJ100 : List Cond := u_ws RJ10 TJ10 0
theorem nmJ10 : ∀ a, a < 0 → ∀ b, b < 0 → a ≠ b → (TJ10 a).2.1 ≠ (TJ10 b).2.1 := by decide +kernel
theorem tyJ10_ok : ∀ k, k < 0 → parseFieldDescriptor (TJ10 k).2.2.1 = some (tyJ10 k) := by decide +kernel
def RJxfd54e : String := "java/lang/constant/Constable"
def TJxfd54e : u_T := fun k => match k with
  | _ => ("", "", "", false)
def tyJxfd54e : Nat → FieldType := fun k => match k with
  | _ => .int
abbrev wsJxfd54e0 : List Cond := u_ws RJxfd54e TJxfd54e 0
theorem nmJxfd54e : ∀ a, a < 0 → ∀ b, b < 0 → a ≠ b → (TJxfd54e a).2.1 ≠ (TJxfd54e b).2.1 := by decide +kernel
theorem tyJxfd54e_ok : ∀ k, k < 0 → parseFieldDescriptor (TJxfd54e k).2.2.1 = some (tyJxfd54e k) := by decide +kernel
def RJx3cf43 : String := "java/lang/constant/ConstantDesc"
def TJx3cf43 : u_T := fun k => match k with
  | _ => ("", "", "", false)
def tyJx3cf43 : Nat → FieldType := fun k => match k with
  | _ => .int
abbrev wsJx3cf430 : List Cond := u_ws RJx3cf43 TJx3cf43 0
theorem nmJx3cf43 : ∀ a, a < 0 → ∀ b, b < 0 → a ≠ b → (TJx3cf43 a).2.1 ≠ (TJx3cf43 b).2.1 := by decide +kernel
theorem tyJx3cf43_ok : ∀ k, k < 0 → parseFieldDescriptor (TJx3cf43 k).2.2.1 = some (tyJx3cf43 k) := by decide +kernel
def RJ7 : String := "java/util/Arrays"
def TJ7 : u_T := fun k => match k with
  | _ => ("", "", "", false)
def tyJ7 : Nat → FieldType := fun k => match k with
  | _ => .int
abbrev wsJ70 : List Cond := u_ws RJ7 TJ7 0
theorem nmJ7 : ∀ a, a < 0 → ∀ b, b < 0 → a ≠ b → (TJ7 a).2.1 ≠ (TJ7 b).2.1 := by decide +kernel
theorem tyJ7_ok : ∀ k, k < 0 → parseFieldDescriptor (TJ7 k).2.2.1 = some (tyJ7 k) := by decide +kernel
abbrev cJ7_fill_53178 : ByteArray := prog_13_method_103_code
def yJ7_fill_53178 : MethodName := ⟨RJ7, "fill", "([II)V"⟩
abbrev cJ7_fill_031fb : ByteArray := prog_13_method_109_code
def yJ7_fill_031fb : MethodName := ⟨RJ7, "fill", "([BB)V"⟩
def RJ3 : String := "jdk/internal/util/Preconditions"
def TJ3 : u_T := fun k => match k with
  | _ => ("", "", "", false)
def tyJ3 : Nat → FieldType := fun k => match k with
  | _ => .int
abbrev wsJ30 : List Cond := u_ws RJ3 TJ3 0
theorem nmJ3 : ∀ a, a < 0 → ∀ b, b < 0 → a ≠ b → (TJ3 a).2.1 ≠ (TJ3 b).2.1 := by decide +kernel
theorem tyJ3_ok : ∀ k, k < 0 → parseFieldDescriptor (TJ3 k).2.2.1 = some (tyJ3 k) := by decide +kernel
abbrev cJ3_checkIndex_8e157 : ByteArray := prog_14_method_11_code
def yJ3_checkIndex_8e157 : MethodName := ⟨RJ3, "checkIndex", "(IILjava/util/function/BiFunction;)I"⟩
def RL : String := "LineDispatchLaw"
abbrev cL_law : ByteArray := code
def yL_law : MethodName := ⟨RL, "law", "([I)Z"⟩
abbrev vwCl : List vw_C := [(RX0, TX0, 16), (RX1, TX1, 8), (RX2, TX2, 8), (RX3, TX3, 3), (RX4, TX4, 8), (RX5, TX5, 24)]
theorem lw_good : lw_tbl.all goodWord = true := by decide +kernel
end
section
theorem dX0_init_0 : decode cX0_init 0 = .ok (.aload_n 0, 1) := by decide +kernel
theorem dX0_init_1 : decode cX0_init 1 = .ok (.invokespecial 3, 3) := by decide +kernel
theorem dX0_init_4 : decode cX0_init 4 = .ok (.aload_n 0, 1) := by decide +kernel
theorem dX0_init_5 : decode cX0_init 5 = .ok (.bipush 6, 2) := by decide +kernel
theorem dX0_init_7 : decode cX0_init 7 = .ok (.newarray .int, 2) := by decide +kernel
theorem dX0_init_9 : decode cX0_init 9 = .ok (.putfield 9, 3) := by decide +kernel
theorem dX0_init_12 : decode cX0_init 12 = .ok (.aload_n 0, 1) := by decide +kernel
theorem dX0_init_13 : decode cX0_init 13 = .ok (.bipush 18, 2) := by decide +kernel
theorem dX0_init_15 : decode cX0_init 15 = .ok (.newarray .int, 2) := by decide +kernel
theorem dX0_init_17 : decode cX0_init 17 = .ok (.putfield 15, 3) := by decide +kernel
theorem dX0_init_20 : decode cX0_init 20 = .ok (.aload_n 0, 1) := by decide +kernel
theorem dX0_init_21 : decode cX0_init 21 = .ok (.bipush 6, 2) := by decide +kernel
theorem dX0_init_23 : decode cX0_init 23 = .ok (.newarray .int, 2) := by decide +kernel
theorem dX0_init_25 : decode cX0_init 25 = .ok (.putfield 18, 3) := by decide +kernel
theorem dX0_init_28 : decode cX0_init 28 = .ok (.aload_n 0, 1) := by decide +kernel
theorem dX0_init_29 : decode cX0_init 29 = .ok (.iconst 4, 1) := by decide +kernel
theorem dX0_init_30 : decode cX0_init 30 = .ok (.newarray .int, 2) := by decide +kernel
theorem dX0_init_32 : decode cX0_init 32 = .ok (.putfield 21, 3) := by decide +kernel
theorem dX0_init_35 : decode cX0_init 35 = .ok (.aload_n 0, 1) := by decide +kernel
theorem dX0_init_36 : decode cX0_init 36 = .ok (.iconst 4, 1) := by decide +kernel
theorem dX0_init_37 : decode cX0_init 37 = .ok (.newarray .int, 2) := by decide +kernel
theorem dX0_init_39 : decode cX0_init 39 = .ok (.putfield 24, 3) := by decide +kernel
theorem dX0_init_42 : decode cX0_init 42 = .ok (.aload_n 0, 1) := by decide +kernel
theorem dX0_init_43 : decode cX0_init 43 = .ok (.iconst 4, 1) := by decide +kernel
theorem dX0_init_44 : decode cX0_init 44 = .ok (.newarray .int, 2) := by decide +kernel
theorem dX0_init_46 : decode cX0_init 46 = .ok (.putfield 27, 3) := by decide +kernel
theorem dX0_init_49 : decode cX0_init 49 = .ok (.aload_n 0, 1) := by decide +kernel
theorem dX0_init_50 : decode cX0_init 50 = .ok (.iconst 4, 1) := by decide +kernel
theorem dX0_init_51 : decode cX0_init 51 = .ok (.newarray .int, 2) := by decide +kernel
theorem dX0_init_53 : decode cX0_init 53 = .ok (.putfield 30, 3) := by decide +kernel
theorem dX0_init_56 : decode cX0_init 56 = .ok (.aload_n 0, 1) := by decide +kernel
theorem dX0_init_57 : decode cX0_init 57 = .ok (.iconst 4, 1) := by decide +kernel
theorem dX0_init_58 : decode cX0_init 58 = .ok (.newarray .int, 2) := by decide +kernel
theorem dX0_init_60 : decode cX0_init 60 = .ok (.putfield 33, 3) := by decide +kernel
theorem dX0_init_63 : decode cX0_init 63 = .ok (.aload_n 0, 1) := by decide +kernel
theorem dX0_init_64 : decode cX0_init 64 = .ok (.iconst 4, 1) := by decide +kernel
theorem dX0_init_65 : decode cX0_init 65 = .ok (.newarray .int, 2) := by decide +kernel
theorem dX0_init_67 : decode cX0_init 67 = .ok (.putfield 36, 3) := by decide +kernel
theorem dX0_init_70 : decode cX0_init 70 = .ok (.aload_n 0, 1) := by decide +kernel
theorem dX0_init_71 : decode cX0_init 71 = .ok (.bipush 60, 2) := by decide +kernel
theorem dX0_init_73 : decode cX0_init 73 = .ok (.newarray .int, 2) := by decide +kernel
theorem dX0_init_75 : decode cX0_init 75 = .ok (.putfield 39, 3) := by decide +kernel
theorem dX0_init_78 : decode cX0_init 78 = .ok (.aload_n 0, 1) := by decide +kernel
theorem dX0_init_79 : decode cX0_init 79 = .ok (.bipush 60, 2) := by decide +kernel
theorem dX0_init_81 : decode cX0_init 81 = .ok (.newarray .int, 2) := by decide +kernel
theorem dX0_init_83 : decode cX0_init 83 = .ok (.putfield 42, 3) := by decide +kernel
theorem dX0_init_86 : decode cX0_init 86 = .ok (.aload_n 0, 1) := by decide +kernel
theorem dX0_init_87 : decode cX0_init 87 = .ok (.bipush 60, 2) := by decide +kernel
theorem dX0_init_89 : decode cX0_init 89 = .ok (.newarray .int, 2) := by decide +kernel
theorem dX0_init_91 : decode cX0_init 91 = .ok (.putfield 45, 3) := by decide +kernel
theorem dX0_init_94 : decode cX0_init 94 = .ok (.return_, 1) := by decide +kernel
theorem dX0_copyFrom_0 : decode cX0_copyFrom 0 = .ok (.aload_n 0, 1) := by decide +kernel
theorem dX0_copyFrom_1 : decode cX0_copyFrom 1 = .ok (.aload_n 1, 1) := by decide +kernel
theorem dX0_copyFrom_2 : decode cX0_copyFrom 2 = .ok (.getfield 48, 3) := by decide +kernel
theorem dX0_copyFrom_5 : decode cX0_copyFrom 5 = .ok (.putfield 48, 3) := by decide +kernel
theorem dX0_copyFrom_8 : decode cX0_copyFrom 8 = .ok (.aload_n 1, 1) := by decide +kernel
theorem dX0_copyFrom_9 : decode cX0_copyFrom 9 = .ok (.getfield 9, 3) := by decide +kernel
theorem dX0_copyFrom_12 : decode cX0_copyFrom 12 = .ok (.iconst 0, 1) := by decide +kernel
theorem dX0_copyFrom_13 : decode cX0_copyFrom 13 = .ok (.aload_n 0, 1) := by decide +kernel
theorem dX0_copyFrom_14 : decode cX0_copyFrom 14 = .ok (.getfield 9, 3) := by decide +kernel
theorem dX0_copyFrom_17 : decode cX0_copyFrom 17 = .ok (.iconst 0, 1) := by decide +kernel
theorem dX0_copyFrom_18 : decode cX0_copyFrom 18 = .ok (.bipush 6, 2) := by decide +kernel
theorem dX0_copyFrom_20 : decode cX0_copyFrom 20 = .ok (.invokestatic 52, 3) := by decide +kernel
theorem dX0_copyFrom_23 : decode cX0_copyFrom 23 = .ok (.aload_n 1, 1) := by decide +kernel
theorem dX0_copyFrom_24 : decode cX0_copyFrom 24 = .ok (.getfield 15, 3) := by decide +kernel
theorem dX0_copyFrom_27 : decode cX0_copyFrom 27 = .ok (.iconst 0, 1) := by decide +kernel
theorem dX0_copyFrom_28 : decode cX0_copyFrom 28 = .ok (.aload_n 0, 1) := by decide +kernel
theorem dX0_copyFrom_29 : decode cX0_copyFrom 29 = .ok (.getfield 15, 3) := by decide +kernel
theorem dX0_copyFrom_32 : decode cX0_copyFrom 32 = .ok (.iconst 0, 1) := by decide +kernel
theorem dX0_copyFrom_33 : decode cX0_copyFrom 33 = .ok (.bipush 18, 2) := by decide +kernel
theorem dX0_copyFrom_35 : decode cX0_copyFrom 35 = .ok (.invokestatic 52, 3) := by decide +kernel
theorem dX0_copyFrom_38 : decode cX0_copyFrom 38 = .ok (.aload_n 1, 1) := by decide +kernel
theorem dX0_copyFrom_39 : decode cX0_copyFrom 39 = .ok (.getfield 18, 3) := by decide +kernel
theorem dX0_copyFrom_42 : decode cX0_copyFrom 42 = .ok (.iconst 0, 1) := by decide +kernel
theorem dX0_copyFrom_43 : decode cX0_copyFrom 43 = .ok (.aload_n 0, 1) := by decide +kernel
theorem dX0_copyFrom_44 : decode cX0_copyFrom 44 = .ok (.getfield 18, 3) := by decide +kernel
theorem dX0_copyFrom_47 : decode cX0_copyFrom 47 = .ok (.iconst 0, 1) := by decide +kernel
theorem dX0_copyFrom_48 : decode cX0_copyFrom 48 = .ok (.bipush 6, 2) := by decide +kernel
theorem dX0_copyFrom_50 : decode cX0_copyFrom 50 = .ok (.invokestatic 52, 3) := by decide +kernel
theorem dX0_copyFrom_53 : decode cX0_copyFrom 53 = .ok (.aload_n 0, 1) := by decide +kernel
theorem dX0_copyFrom_54 : decode cX0_copyFrom 54 = .ok (.aload_n 1, 1) := by decide +kernel
theorem dX0_copyFrom_55 : decode cX0_copyFrom 55 = .ok (.getfield 58, 3) := by decide +kernel
theorem dX0_copyFrom_58 : decode cX0_copyFrom 58 = .ok (.putfield 58, 3) := by decide +kernel
theorem dX0_copyFrom_61 : decode cX0_copyFrom 61 = .ok (.aload_n 1, 1) := by decide +kernel
theorem dX0_copyFrom_62 : decode cX0_copyFrom 62 = .ok (.getfield 21, 3) := by decide +kernel
theorem dX0_copyFrom_65 : decode cX0_copyFrom 65 = .ok (.iconst 0, 1) := by decide +kernel
theorem dX0_copyFrom_66 : decode cX0_copyFrom 66 = .ok (.aload_n 0, 1) := by decide +kernel
theorem dX0_copyFrom_67 : decode cX0_copyFrom 67 = .ok (.getfield 21, 3) := by decide +kernel
theorem dX0_copyFrom_70 : decode cX0_copyFrom 70 = .ok (.iconst 0, 1) := by decide +kernel
theorem dX0_copyFrom_71 : decode cX0_copyFrom 71 = .ok (.iconst 4, 1) := by decide +kernel
theorem dX0_copyFrom_72 : decode cX0_copyFrom 72 = .ok (.invokestatic 52, 3) := by decide +kernel
theorem dX0_copyFrom_75 : decode cX0_copyFrom 75 = .ok (.aload_n 1, 1) := by decide +kernel
theorem dX0_copyFrom_76 : decode cX0_copyFrom 76 = .ok (.getfield 24, 3) := by decide +kernel
theorem dX0_copyFrom_79 : decode cX0_copyFrom 79 = .ok (.iconst 0, 1) := by decide +kernel
theorem dX0_copyFrom_80 : decode cX0_copyFrom 80 = .ok (.aload_n 0, 1) := by decide +kernel
theorem dX0_copyFrom_81 : decode cX0_copyFrom 81 = .ok (.getfield 24, 3) := by decide +kernel
theorem dX0_copyFrom_84 : decode cX0_copyFrom 84 = .ok (.iconst 0, 1) := by decide +kernel
theorem dX0_copyFrom_85 : decode cX0_copyFrom 85 = .ok (.iconst 4, 1) := by decide +kernel
theorem dX0_copyFrom_86 : decode cX0_copyFrom 86 = .ok (.invokestatic 52, 3) := by decide +kernel
theorem dX0_copyFrom_89 : decode cX0_copyFrom 89 = .ok (.aload_n 1, 1) := by decide +kernel
theorem dX0_copyFrom_90 : decode cX0_copyFrom 90 = .ok (.getfield 27, 3) := by decide +kernel
theorem dX0_copyFrom_93 : decode cX0_copyFrom 93 = .ok (.iconst 0, 1) := by decide +kernel
theorem dX0_copyFrom_94 : decode cX0_copyFrom 94 = .ok (.aload_n 0, 1) := by decide +kernel
theorem dX0_copyFrom_95 : decode cX0_copyFrom 95 = .ok (.getfield 27, 3) := by decide +kernel
theorem dX0_copyFrom_98 : decode cX0_copyFrom 98 = .ok (.iconst 0, 1) := by decide +kernel
theorem dX0_copyFrom_99 : decode cX0_copyFrom 99 = .ok (.iconst 4, 1) := by decide +kernel
theorem dX0_copyFrom_100 : decode cX0_copyFrom 100 = .ok (.invokestatic 52, 3) := by decide +kernel
theorem dX0_copyFrom_103 : decode cX0_copyFrom 103 = .ok (.aload_n 1, 1) := by decide +kernel
theorem dX0_copyFrom_104 : decode cX0_copyFrom 104 = .ok (.getfield 30, 3) := by decide +kernel
theorem dX0_copyFrom_107 : decode cX0_copyFrom 107 = .ok (.iconst 0, 1) := by decide +kernel
theorem dX0_copyFrom_108 : decode cX0_copyFrom 108 = .ok (.aload_n 0, 1) := by decide +kernel
theorem dX0_copyFrom_109 : decode cX0_copyFrom 109 = .ok (.getfield 30, 3) := by decide +kernel
theorem dX0_copyFrom_112 : decode cX0_copyFrom 112 = .ok (.iconst 0, 1) := by decide +kernel
theorem dX0_copyFrom_113 : decode cX0_copyFrom 113 = .ok (.iconst 4, 1) := by decide +kernel
theorem dX0_copyFrom_114 : decode cX0_copyFrom 114 = .ok (.invokestatic 52, 3) := by decide +kernel
theorem dX0_copyFrom_117 : decode cX0_copyFrom 117 = .ok (.aload_n 1, 1) := by decide +kernel
theorem dX0_copyFrom_118 : decode cX0_copyFrom 118 = .ok (.getfield 33, 3) := by decide +kernel
theorem dX0_copyFrom_121 : decode cX0_copyFrom 121 = .ok (.iconst 0, 1) := by decide +kernel
theorem dX0_copyFrom_122 : decode cX0_copyFrom 122 = .ok (.aload_n 0, 1) := by decide +kernel
theorem dX0_copyFrom_123 : decode cX0_copyFrom 123 = .ok (.getfield 33, 3) := by decide +kernel
theorem dX0_copyFrom_126 : decode cX0_copyFrom 126 = .ok (.iconst 0, 1) := by decide +kernel
theorem dX0_copyFrom_127 : decode cX0_copyFrom 127 = .ok (.iconst 4, 1) := by decide +kernel
theorem dX0_copyFrom_128 : decode cX0_copyFrom 128 = .ok (.invokestatic 52, 3) := by decide +kernel
theorem dX0_copyFrom_131 : decode cX0_copyFrom 131 = .ok (.aload_n 1, 1) := by decide +kernel
theorem dX0_copyFrom_132 : decode cX0_copyFrom 132 = .ok (.getfield 36, 3) := by decide +kernel
theorem dX0_copyFrom_135 : decode cX0_copyFrom 135 = .ok (.iconst 0, 1) := by decide +kernel
theorem dX0_copyFrom_136 : decode cX0_copyFrom 136 = .ok (.aload_n 0, 1) := by decide +kernel
theorem dX0_copyFrom_137 : decode cX0_copyFrom 137 = .ok (.getfield 36, 3) := by decide +kernel
theorem dX0_copyFrom_140 : decode cX0_copyFrom 140 = .ok (.iconst 0, 1) := by decide +kernel
theorem dX0_copyFrom_141 : decode cX0_copyFrom 141 = .ok (.iconst 4, 1) := by decide +kernel
theorem dX0_copyFrom_142 : decode cX0_copyFrom 142 = .ok (.invokestatic 52, 3) := by decide +kernel
theorem dX0_copyFrom_145 : decode cX0_copyFrom 145 = .ok (.aload_n 0, 1) := by decide +kernel
theorem dX0_copyFrom_146 : decode cX0_copyFrom 146 = .ok (.aload_n 1, 1) := by decide +kernel
theorem dX0_copyFrom_147 : decode cX0_copyFrom 147 = .ok (.getfield 61, 3) := by decide +kernel
theorem dX0_copyFrom_150 : decode cX0_copyFrom 150 = .ok (.putfield 61, 3) := by decide +kernel
theorem dX0_copyFrom_153 : decode cX0_copyFrom 153 = .ok (.aload_n 0, 1) := by decide +kernel
theorem dX0_copyFrom_154 : decode cX0_copyFrom 154 = .ok (.aload_n 1, 1) := by decide +kernel
theorem dX0_copyFrom_155 : decode cX0_copyFrom 155 = .ok (.getfield 64, 3) := by decide +kernel
theorem dX0_copyFrom_158 : decode cX0_copyFrom 158 = .ok (.putfield 64, 3) := by decide +kernel
theorem dX0_copyFrom_161 : decode cX0_copyFrom 161 = .ok (.aload_n 1, 1) := by decide +kernel
theorem dX0_copyFrom_162 : decode cX0_copyFrom 162 = .ok (.getfield 39, 3) := by decide +kernel
theorem dX0_copyFrom_165 : decode cX0_copyFrom 165 = .ok (.iconst 0, 1) := by decide +kernel
theorem dX0_copyFrom_166 : decode cX0_copyFrom 166 = .ok (.aload_n 0, 1) := by decide +kernel
theorem dX0_copyFrom_167 : decode cX0_copyFrom 167 = .ok (.getfield 39, 3) := by decide +kernel
theorem dX0_copyFrom_170 : decode cX0_copyFrom 170 = .ok (.iconst 0, 1) := by decide +kernel
theorem dX0_copyFrom_171 : decode cX0_copyFrom 171 = .ok (.bipush 60, 2) := by decide +kernel
theorem dX0_copyFrom_173 : decode cX0_copyFrom 173 = .ok (.invokestatic 52, 3) := by decide +kernel
theorem dX0_copyFrom_176 : decode cX0_copyFrom 176 = .ok (.aload_n 1, 1) := by decide +kernel
theorem dX0_copyFrom_177 : decode cX0_copyFrom 177 = .ok (.getfield 42, 3) := by decide +kernel
theorem dX0_copyFrom_180 : decode cX0_copyFrom 180 = .ok (.iconst 0, 1) := by decide +kernel
theorem dX0_copyFrom_181 : decode cX0_copyFrom 181 = .ok (.aload_n 0, 1) := by decide +kernel
theorem dX0_copyFrom_182 : decode cX0_copyFrom 182 = .ok (.getfield 42, 3) := by decide +kernel
theorem dX0_copyFrom_185 : decode cX0_copyFrom 185 = .ok (.iconst 0, 1) := by decide +kernel
theorem dX0_copyFrom_186 : decode cX0_copyFrom 186 = .ok (.bipush 60, 2) := by decide +kernel
theorem dX0_copyFrom_188 : decode cX0_copyFrom 188 = .ok (.invokestatic 52, 3) := by decide +kernel
theorem dX0_copyFrom_191 : decode cX0_copyFrom 191 = .ok (.aload_n 1, 1) := by decide +kernel
theorem dX0_copyFrom_192 : decode cX0_copyFrom 192 = .ok (.getfield 45, 3) := by decide +kernel
theorem dX0_copyFrom_195 : decode cX0_copyFrom 195 = .ok (.iconst 0, 1) := by decide +kernel
theorem dX0_copyFrom_196 : decode cX0_copyFrom 196 = .ok (.aload_n 0, 1) := by decide +kernel
theorem dX0_copyFrom_197 : decode cX0_copyFrom 197 = .ok (.getfield 45, 3) := by decide +kernel
theorem dX0_copyFrom_200 : decode cX0_copyFrom 200 = .ok (.iconst 0, 1) := by decide +kernel
theorem dX0_copyFrom_201 : decode cX0_copyFrom 201 = .ok (.bipush 60, 2) := by decide +kernel
theorem dX0_copyFrom_203 : decode cX0_copyFrom 203 = .ok (.invokestatic 52, 3) := by decide +kernel
theorem dX0_copyFrom_206 : decode cX0_copyFrom 206 = .ok (.return_, 1) := by decide +kernel
theorem dX0_clearAll_0 : decode cX0_clearAll 0 = .ok (.aload_n 0, 1) := by decide +kernel
theorem dX0_clearAll_1 : decode cX0_clearAll 1 = .ok (.iconst 0, 1) := by decide +kernel
theorem dX0_clearAll_2 : decode cX0_clearAll 2 = .ok (.putfield 48, 3) := by decide +kernel
theorem dX0_clearAll_5 : decode cX0_clearAll 5 = .ok (.aload_n 0, 1) := by decide +kernel
theorem dX0_clearAll_6 : decode cX0_clearAll 6 = .ok (.iconst 0, 1) := by decide +kernel
theorem dX0_clearAll_7 : decode cX0_clearAll 7 = .ok (.putfield 58, 3) := by decide +kernel
theorem dX0_clearAll_10 : decode cX0_clearAll 10 = .ok (.aload_n 0, 1) := by decide +kernel
theorem dX0_clearAll_11 : decode cX0_clearAll 11 = .ok (.iconst 0, 1) := by decide +kernel
theorem dX0_clearAll_12 : decode cX0_clearAll 12 = .ok (.putfield 61, 3) := by decide +kernel
theorem dX0_clearAll_15 : decode cX0_clearAll 15 = .ok (.aload_n 0, 1) := by decide +kernel
theorem dX0_clearAll_16 : decode cX0_clearAll 16 = .ok (.iconst 0, 1) := by decide +kernel
theorem dX0_clearAll_17 : decode cX0_clearAll 17 = .ok (.putfield 64, 3) := by decide +kernel
theorem dX0_clearAll_20 : decode cX0_clearAll 20 = .ok (.return_, 1) := by decide +kernel
theorem dX0_hasPlace_0 : decode cX0_hasPlace 0 = .ok (.iload_n 1, 1) := by decide +kernel
theorem dX0_hasPlace_1 : decode cX0_hasPlace 1 = .ok (.ifCond .lt 15, 3) := by decide +kernel
theorem dX0_hasPlace_4 : decode cX0_hasPlace 4 = .ok (.iload_n 1, 1) := by decide +kernel
theorem dX0_hasPlace_5 : decode cX0_hasPlace 5 = .ok (.aload_n 0, 1) := by decide +kernel
theorem dX0_hasPlace_6 : decode cX0_hasPlace 6 = .ok (.getfield 48, 3) := by decide +kernel
theorem dX0_hasPlace_9 : decode cX0_hasPlace 9 = .ok (.if_icmp .ge 7, 3) := by decide +kernel
theorem dX0_hasPlace_12 : decode cX0_hasPlace 12 = .ok (.iconst 1, 1) := by decide +kernel
theorem dX0_hasPlace_13 : decode cX0_hasPlace 13 = .ok (.goto 4, 3) := by decide +kernel
theorem dX0_hasPlace_16 : decode cX0_hasPlace 16 = .ok (.iconst 0, 1) := by decide +kernel
theorem dX0_hasPlace_17 : decode cX0_hasPlace 17 = .ok (.ireturn, 1) := by decide +kernel
theorem dX0_hasTrain_0 : decode cX0_hasTrain 0 = .ok (.iload_n 1, 1) := by decide +kernel
theorem dX0_hasTrain_1 : decode cX0_hasTrain 1 = .ok (.ifCond .lt 15, 3) := by decide +kernel
theorem dX0_hasTrain_4 : decode cX0_hasTrain 4 = .ok (.iload_n 1, 1) := by decide +kernel
theorem dX0_hasTrain_5 : decode cX0_hasTrain 5 = .ok (.aload_n 0, 1) := by decide +kernel
theorem dX0_hasTrain_6 : decode cX0_hasTrain 6 = .ok (.getfield 58, 3) := by decide +kernel
theorem dX0_hasTrain_9 : decode cX0_hasTrain 9 = .ok (.if_icmp .ge 7, 3) := by decide +kernel
theorem dX0_hasTrain_12 : decode cX0_hasTrain 12 = .ok (.iconst 1, 1) := by decide +kernel
theorem dX0_hasTrain_13 : decode cX0_hasTrain 13 = .ok (.goto 4, 3) := by decide +kernel
theorem dX0_hasTrain_16 : decode cX0_hasTrain 16 = .ok (.iconst 0, 1) := by decide +kernel
theorem dX0_hasTrain_17 : decode cX0_hasTrain 17 = .ok (.ireturn, 1) := by decide +kernel
theorem dX0_hasAllToldPlaces_0 : decode cX0_hasAllToldPlaces 0 = .ok (.iconst 0, 1) := by decide +kernel
theorem dX0_hasAllToldPlaces_1 : decode cX0_hasAllToldPlaces 1 = .ok (.istore_n 1, 1) := by decide +kernel
theorem dX0_hasAllToldPlaces_2 : decode cX0_hasAllToldPlaces 2 = .ok (.iload_n 1, 1) := by decide +kernel
theorem dX0_hasAllToldPlaces_3 : decode cX0_hasAllToldPlaces 3 = .ok (.aload_n 0, 1) := by decide +kernel
theorem dX0_hasAllToldPlaces_4 : decode cX0_hasAllToldPlaces 4 = .ok (.getfield 58, 3) := by decide +kernel
theorem dX0_hasAllToldPlaces_7 : decode cX0_hasAllToldPlaces 7 = .ok (.if_icmp .ge 37, 3) := by decide +kernel
theorem dX0_hasAllToldPlaces_10 : decode cX0_hasAllToldPlaces 10 = .ok (.aload_n 0, 1) := by decide +kernel
theorem dX0_hasAllToldPlaces_11 : decode cX0_hasAllToldPlaces 11 = .ok (.getfield 21, 3) := by decide +kernel
theorem dX0_hasAllToldPlaces_14 : decode cX0_hasAllToldPlaces 14 = .ok (.iload_n 1, 1) := by decide +kernel
theorem dX0_hasAllToldPlaces_15 : decode cX0_hasAllToldPlaces 15 = .ok (.iaload, 1) := by decide +kernel
theorem dX0_hasAllToldPlaces_16 : decode cX0_hasAllToldPlaces 16 = .ok (.aload_n 0, 1) := by decide +kernel
theorem dX0_hasAllToldPlaces_17 : decode cX0_hasAllToldPlaces 17 = .ok (.getfield 48, 3) := by decide +kernel
theorem dX0_hasAllToldPlaces_20 : decode cX0_hasAllToldPlaces 20 = .ok (.if_icmp .ge 16, 3) := by decide +kernel
theorem dX0_hasAllToldPlaces_23 : decode cX0_hasAllToldPlaces 23 = .ok (.aload_n 0, 1) := by decide +kernel
theorem dX0_hasAllToldPlaces_24 : decode cX0_hasAllToldPlaces 24 = .ok (.getfield 24, 3) := by decide +kernel
theorem dX0_hasAllToldPlaces_27 : decode cX0_hasAllToldPlaces 27 = .ok (.iload_n 1, 1) := by decide +kernel
theorem dX0_hasAllToldPlaces_28 : decode cX0_hasAllToldPlaces 28 = .ok (.iaload, 1) := by decide +kernel
theorem dX0_hasAllToldPlaces_29 : decode cX0_hasAllToldPlaces 29 = .ok (.aload_n 0, 1) := by decide +kernel
theorem dX0_hasAllToldPlaces_30 : decode cX0_hasAllToldPlaces 30 = .ok (.getfield 48, 3) := by decide +kernel
theorem dX0_hasAllToldPlaces_33 : decode cX0_hasAllToldPlaces 33 = .ok (.if_icmp .lt 5, 3) := by decide +kernel
theorem dX0_hasAllToldPlaces_36 : decode cX0_hasAllToldPlaces 36 = .ok (.iconst 0, 1) := by decide +kernel
theorem dX0_hasAllToldPlaces_37 : decode cX0_hasAllToldPlaces 37 = .ok (.ireturn, 1) := by decide +kernel
theorem dX0_hasAllToldPlaces_38 : decode cX0_hasAllToldPlaces 38 = .ok (.iinc 1 1, 3) := by decide +kernel
theorem dX0_hasAllToldPlaces_41 : decode cX0_hasAllToldPlaces 41 = .ok (.goto (-39), 3) := by decide +kernel
theorem dX0_hasAllToldPlaces_44 : decode cX0_hasAllToldPlaces 44 = .ok (.iconst 1, 1) := by decide +kernel
theorem dX0_hasAllToldPlaces_45 : decode cX0_hasAllToldPlaces 45 = .ok (.ireturn, 1) := by decide +kernel
theorem dX0_openPlace_0 : decode cX0_openPlace 0 = .ok (.aload_n 0, 1) := by decide +kernel
theorem dX0_openPlace_1 : decode cX0_openPlace 1 = .ok (.getfield 48, 3) := by decide +kernel
theorem dX0_openPlace_4 : decode cX0_openPlace 4 = .ok (.bipush 6, 2) := by decide +kernel
theorem dX0_openPlace_6 : decode cX0_openPlace 6 = .ok (.if_icmp .ge 33, 3) := by decide +kernel
theorem dX0_openPlace_9 : decode cX0_openPlace 9 = .ok (.aload_n 0, 1) := by decide +kernel
theorem dX0_openPlace_10 : decode cX0_openPlace 10 = .ok (.getfield 9, 3) := by decide +kernel
theorem dX0_openPlace_13 : decode cX0_openPlace 13 = .ok (.aload_n 0, 1) := by decide +kernel
theorem dX0_openPlace_14 : decode cX0_openPlace 14 = .ok (.getfield 48, 3) := by decide +kernel
theorem dX0_openPlace_17 : decode cX0_openPlace 17 = .ok (.iconst 0, 1) := by decide +kernel
theorem dX0_openPlace_18 : decode cX0_openPlace 18 = .ok (.iastore, 1) := by decide +kernel
theorem dX0_openPlace_19 : decode cX0_openPlace 19 = .ok (.aload_n 0, 1) := by decide +kernel
theorem dX0_openPlace_20 : decode cX0_openPlace 20 = .ok (.getfield 18, 3) := by decide +kernel
theorem dX0_openPlace_23 : decode cX0_openPlace 23 = .ok (.aload_n 0, 1) := by decide +kernel
theorem dX0_openPlace_24 : decode cX0_openPlace 24 = .ok (.getfield 48, 3) := by decide +kernel
theorem dX0_openPlace_27 : decode cX0_openPlace 27 = .ok (.iconst 1, 1) := by decide +kernel
theorem dX0_openPlace_28 : decode cX0_openPlace 28 = .ok (.iastore, 1) := by decide +kernel
theorem dX0_openPlace_29 : decode cX0_openPlace 29 = .ok (.aload_n 0, 1) := by decide +kernel
theorem dX0_openPlace_30 : decode cX0_openPlace 30 = .ok (.dup, 1) := by decide +kernel
theorem dX0_openPlace_31 : decode cX0_openPlace 31 = .ok (.getfield 48, 3) := by decide +kernel
theorem dX0_openPlace_34 : decode cX0_openPlace 34 = .ok (.iconst 1, 1) := by decide +kernel
theorem dX0_openPlace_35 : decode cX0_openPlace 35 = .ok (.iadd, 1) := by decide +kernel
theorem dX0_openPlace_36 : decode cX0_openPlace 36 = .ok (.putfield 48, 3) := by decide +kernel
theorem dX0_openPlace_39 : decode cX0_openPlace 39 = .ok (.return_, 1) := by decide +kernel
theorem dX0_openTrack_0 : decode cX0_openTrack 0 = .ok (.aload_n 0, 1) := by decide +kernel
theorem dX0_openTrack_1 : decode cX0_openTrack 1 = .ok (.getfield 48, 3) := by decide +kernel
theorem dX0_openTrack_4 : decode cX0_openTrack 4 = .ok (.iconst 1, 1) := by decide +kernel
theorem dX0_openTrack_5 : decode cX0_openTrack 5 = .ok (.isub, 1) := by decide +kernel
theorem dX0_openTrack_6 : decode cX0_openTrack 6 = .ok (.istore_n 2, 1) := by decide +kernel
theorem dX0_openTrack_7 : decode cX0_openTrack 7 = .ok (.iload_n 2, 1) := by decide +kernel
theorem dX0_openTrack_8 : decode cX0_openTrack 8 = .ok (.ifCond .lt 13, 3) := by decide +kernel
theorem dX0_openTrack_11 : decode cX0_openTrack 11 = .ok (.aload_n 0, 1) := by decide +kernel
theorem dX0_openTrack_12 : decode cX0_openTrack 12 = .ok (.getfield 9, 3) := by decide +kernel
theorem dX0_openTrack_15 : decode cX0_openTrack 15 = .ok (.iload_n 2, 1) := by decide +kernel
theorem dX0_openTrack_16 : decode cX0_openTrack 16 = .ok (.iaload, 1) := by decide +kernel
theorem dX0_openTrack_17 : decode cX0_openTrack 17 = .ok (.iconst 3, 1) := by decide +kernel
theorem dX0_openTrack_18 : decode cX0_openTrack 18 = .ok (.if_icmp .lt 4, 3) := by decide +kernel
theorem dX0_openTrack_21 : decode cX0_openTrack 21 = .ok (.return_, 1) := by decide +kernel
theorem dX0_openTrack_22 : decode cX0_openTrack 22 = .ok (.iload_n 2, 1) := by decide +kernel
theorem dX0_openTrack_23 : decode cX0_openTrack 23 = .ok (.iconst 3, 1) := by decide +kernel
theorem dX0_openTrack_24 : decode cX0_openTrack 24 = .ok (.imul, 1) := by decide +kernel
theorem dX0_openTrack_25 : decode cX0_openTrack 25 = .ok (.istore_n 3, 1) := by decide +kernel
theorem dX0_openTrack_26 : decode cX0_openTrack 26 = .ok (.iload_n 3, 1) := by decide +kernel
theorem dX0_openTrack_27 : decode cX0_openTrack 27 = .ok (.aload_n 0, 1) := by decide +kernel
theorem dX0_openTrack_28 : decode cX0_openTrack 28 = .ok (.getfield 9, 3) := by decide +kernel
theorem dX0_openTrack_31 : decode cX0_openTrack 31 = .ok (.iload_n 2, 1) := by decide +kernel
theorem dX0_openTrack_32 : decode cX0_openTrack 32 = .ok (.iaload, 1) := by decide +kernel
theorem dX0_openTrack_33 : decode cX0_openTrack 33 = .ok (.iadd, 1) := by decide +kernel
theorem dX0_openTrack_34 : decode cX0_openTrack 34 = .ok (.istore 4, 2) := by decide +kernel
theorem dX0_openTrack_36 : decode cX0_openTrack 36 = .ok (.iload 4, 2) := by decide +kernel
theorem dX0_openTrack_38 : decode cX0_openTrack 38 = .ok (.iload_n 3, 1) := by decide +kernel
theorem dX0_openTrack_39 : decode cX0_openTrack 39 = .ok (.if_icmp .le 38, 3) := by decide +kernel
theorem dX0_openTrack_42 : decode cX0_openTrack 42 = .ok (.aload_n 0, 1) := by decide +kernel
theorem dX0_openTrack_43 : decode cX0_openTrack 43 = .ok (.getfield 15, 3) := by decide +kernel
theorem dX0_openTrack_46 : decode cX0_openTrack 46 = .ok (.iload 4, 2) := by decide +kernel
theorem dX0_openTrack_48 : decode cX0_openTrack 48 = .ok (.iconst 1, 1) := by decide +kernel
theorem dX0_openTrack_49 : decode cX0_openTrack 49 = .ok (.isub, 1) := by decide +kernel
theorem dX0_openTrack_50 : decode cX0_openTrack 50 = .ok (.iaload, 1) := by decide +kernel
theorem dX0_openTrack_51 : decode cX0_openTrack 51 = .ok (.iload_n 1, 1) := by decide +kernel
theorem dX0_openTrack_52 : decode cX0_openTrack 52 = .ok (.if_icmp .ge 25, 3) := by decide +kernel
theorem dX0_openTrack_55 : decode cX0_openTrack 55 = .ok (.aload_n 0, 1) := by decide +kernel
theorem dX0_openTrack_56 : decode cX0_openTrack 56 = .ok (.getfield 15, 3) := by decide +kernel
theorem dX0_openTrack_59 : decode cX0_openTrack 59 = .ok (.iload 4, 2) := by decide +kernel
theorem dX0_openTrack_61 : decode cX0_openTrack 61 = .ok (.aload_n 0, 1) := by decide +kernel
theorem dX0_openTrack_62 : decode cX0_openTrack 62 = .ok (.getfield 15, 3) := by decide +kernel
theorem dX0_openTrack_65 : decode cX0_openTrack 65 = .ok (.iload 4, 2) := by decide +kernel
theorem dX0_openTrack_67 : decode cX0_openTrack 67 = .ok (.iconst 1, 1) := by decide +kernel
theorem dX0_openTrack_68 : decode cX0_openTrack 68 = .ok (.isub, 1) := by decide +kernel
theorem dX0_openTrack_69 : decode cX0_openTrack 69 = .ok (.iaload, 1) := by decide +kernel
theorem dX0_openTrack_70 : decode cX0_openTrack 70 = .ok (.iastore, 1) := by decide +kernel
theorem dX0_openTrack_71 : decode cX0_openTrack 71 = .ok (.iinc 4 (-1), 3) := by decide +kernel
theorem dX0_openTrack_74 : decode cX0_openTrack 74 = .ok (.goto (-38), 3) := by decide +kernel
theorem dX0_openTrack_77 : decode cX0_openTrack 77 = .ok (.aload_n 0, 1) := by decide +kernel
theorem dX0_openTrack_78 : decode cX0_openTrack 78 = .ok (.getfield 15, 3) := by decide +kernel
theorem dX0_openTrack_81 : decode cX0_openTrack 81 = .ok (.iload 4, 2) := by decide +kernel
theorem dX0_openTrack_83 : decode cX0_openTrack 83 = .ok (.iload_n 1, 1) := by decide +kernel
theorem dX0_openTrack_84 : decode cX0_openTrack 84 = .ok (.iastore, 1) := by decide +kernel
theorem dX0_openTrack_85 : decode cX0_openTrack 85 = .ok (.aload_n 0, 1) := by decide +kernel
theorem dX0_openTrack_86 : decode cX0_openTrack 86 = .ok (.getfield 9, 3) := by decide +kernel
theorem dX0_openTrack_89 : decode cX0_openTrack 89 = .ok (.iload_n 2, 1) := by decide +kernel
theorem dX0_openTrack_90 : decode cX0_openTrack 90 = .ok (.dup2, 1) := by decide +kernel
theorem dX0_openTrack_91 : decode cX0_openTrack 91 = .ok (.iaload, 1) := by decide +kernel
theorem dX0_openTrack_92 : decode cX0_openTrack 92 = .ok (.iconst 1, 1) := by decide +kernel
theorem dX0_openTrack_93 : decode cX0_openTrack 93 = .ok (.iadd, 1) := by decide +kernel
theorem dX0_openTrack_94 : decode cX0_openTrack 94 = .ok (.iastore, 1) := by decide +kernel
theorem dX0_openTrack_95 : decode cX0_openTrack 95 = .ok (.return_, 1) := by decide +kernel
theorem dX0_openTrain_0 : decode cX0_openTrain 0 = .ok (.aload_n 0, 1) := by decide +kernel
theorem dX0_openTrain_1 : decode cX0_openTrain 1 = .ok (.getfield 58, 3) := by decide +kernel
theorem dX0_openTrain_4 : decode cX0_openTrain 4 = .ok (.iconst 4, 1) := by decide +kernel
theorem dX0_openTrain_5 : decode cX0_openTrain 5 = .ok (.if_icmp .ge 78, 3) := by decide +kernel
theorem dX0_openTrain_8 : decode cX0_openTrain 8 = .ok (.aload_n 0, 1) := by decide +kernel
theorem dX0_openTrain_9 : decode cX0_openTrain 9 = .ok (.getfield 21, 3) := by decide +kernel
theorem dX0_openTrain_12 : decode cX0_openTrain 12 = .ok (.aload_n 0, 1) := by decide +kernel
theorem dX0_openTrain_13 : decode cX0_openTrain 13 = .ok (.getfield 58, 3) := by decide +kernel
theorem dX0_openTrain_16 : decode cX0_openTrain 16 = .ok (.iload_n 1, 1) := by decide +kernel
theorem dX0_openTrain_17 : decode cX0_openTrain 17 = .ok (.iastore, 1) := by decide +kernel
theorem dX0_openTrain_18 : decode cX0_openTrain 18 = .ok (.aload_n 0, 1) := by decide +kernel
theorem dX0_openTrain_19 : decode cX0_openTrain 19 = .ok (.getfield 24, 3) := by decide +kernel
theorem dX0_openTrain_22 : decode cX0_openTrain 22 = .ok (.aload_n 0, 1) := by decide +kernel
theorem dX0_openTrain_23 : decode cX0_openTrain 23 = .ok (.getfield 58, 3) := by decide +kernel
theorem dX0_openTrain_26 : decode cX0_openTrain 26 = .ok (.iload_n 2, 1) := by decide +kernel
theorem dX0_openTrain_27 : decode cX0_openTrain 27 = .ok (.iastore, 1) := by decide +kernel
theorem dX0_openTrain_28 : decode cX0_openTrain 28 = .ok (.aload_n 0, 1) := by decide +kernel
theorem dX0_openTrain_29 : decode cX0_openTrain 29 = .ok (.getfield 27, 3) := by decide +kernel
theorem dX0_openTrain_32 : decode cX0_openTrain 32 = .ok (.aload_n 0, 1) := by decide +kernel
theorem dX0_openTrain_33 : decode cX0_openTrain 33 = .ok (.getfield 58, 3) := by decide +kernel
theorem dX0_openTrain_36 : decode cX0_openTrain 36 = .ok (.iload_n 3, 1) := by decide +kernel
theorem dX0_openTrain_37 : decode cX0_openTrain 37 = .ok (.iastore, 1) := by decide +kernel
theorem dX0_openTrain_38 : decode cX0_openTrain 38 = .ok (.aload_n 0, 1) := by decide +kernel
theorem dX0_openTrain_39 : decode cX0_openTrain 39 = .ok (.getfield 30, 3) := by decide +kernel
theorem dX0_openTrain_42 : decode cX0_openTrain 42 = .ok (.aload_n 0, 1) := by decide +kernel
theorem dX0_openTrain_43 : decode cX0_openTrain 43 = .ok (.getfield 58, 3) := by decide +kernel
theorem dX0_openTrain_46 : decode cX0_openTrain 46 = .ok (.iload_n 2, 1) := by decide +kernel
theorem dX0_openTrain_47 : decode cX0_openTrain 47 = .ok (.iload_n 1, 1) := by decide +kernel
theorem dX0_openTrain_48 : decode cX0_openTrain 48 = .ok (.isub, 1) := by decide +kernel
theorem dX0_openTrain_49 : decode cX0_openTrain 49 = .ok (.invokestatic 67, 3) := by decide +kernel
theorem dX0_openTrain_52 : decode cX0_openTrain 52 = .ok (.iastore, 1) := by decide +kernel
theorem dX0_openTrain_53 : decode cX0_openTrain 53 = .ok (.aload_n 0, 1) := by decide +kernel
theorem dX0_openTrain_54 : decode cX0_openTrain 54 = .ok (.getfield 33, 3) := by decide +kernel
theorem dX0_openTrain_57 : decode cX0_openTrain 57 = .ok (.aload_n 0, 1) := by decide +kernel
theorem dX0_openTrain_58 : decode cX0_openTrain 58 = .ok (.getfield 58, 3) := by decide +kernel
theorem dX0_openTrain_61 : decode cX0_openTrain 61 = .ok (.iconst 0, 1) := by decide +kernel
theorem dX0_openTrain_62 : decode cX0_openTrain 62 = .ok (.iastore, 1) := by decide +kernel
theorem dX0_openTrain_63 : decode cX0_openTrain 63 = .ok (.aload_n 0, 1) := by decide +kernel
theorem dX0_openTrain_64 : decode cX0_openTrain 64 = .ok (.getfield 36, 3) := by decide +kernel
theorem dX0_openTrain_67 : decode cX0_openTrain 67 = .ok (.aload_n 0, 1) := by decide +kernel
theorem dX0_openTrain_68 : decode cX0_openTrain 68 = .ok (.getfield 58, 3) := by decide +kernel
theorem dX0_openTrain_71 : decode cX0_openTrain 71 = .ok (.iconst 0, 1) := by decide +kernel
theorem dX0_openTrain_72 : decode cX0_openTrain 72 = .ok (.iastore, 1) := by decide +kernel
theorem dX0_openTrain_73 : decode cX0_openTrain 73 = .ok (.aload_n 0, 1) := by decide +kernel
theorem dX0_openTrain_74 : decode cX0_openTrain 74 = .ok (.dup, 1) := by decide +kernel
theorem dX0_openTrain_75 : decode cX0_openTrain 75 = .ok (.getfield 58, 3) := by decide +kernel
theorem dX0_openTrain_78 : decode cX0_openTrain 78 = .ok (.iconst 1, 1) := by decide +kernel
theorem dX0_openTrain_79 : decode cX0_openTrain 79 = .ok (.iadd, 1) := by decide +kernel
theorem dX0_openTrain_80 : decode cX0_openTrain 80 = .ok (.putfield 58, 3) := by decide +kernel
theorem dX0_openTrain_83 : decode cX0_openTrain 83 = .ok (.return_, 1) := by decide +kernel
theorem dX0_removeTrain_0 : decode cX0_removeTrain 0 = .ok (.iload_n 1, 1) := by decide +kernel
theorem dX0_removeTrain_1 : decode cX0_removeTrain 1 = .ok (.istore_n 2, 1) := by decide +kernel
theorem dX0_removeTrain_2 : decode cX0_removeTrain 2 = .ok (.iload_n 2, 1) := by decide +kernel
theorem dX0_removeTrain_3 : decode cX0_removeTrain 3 = .ok (.aload_n 0, 1) := by decide +kernel
theorem dX0_removeTrain_4 : decode cX0_removeTrain 4 = .ok (.getfield 58, 3) := by decide +kernel
theorem dX0_removeTrain_7 : decode cX0_removeTrain 7 = .ok (.iconst 1, 1) := by decide +kernel
theorem dX0_removeTrain_8 : decode cX0_removeTrain 8 = .ok (.isub, 1) := by decide +kernel
theorem dX0_removeTrain_9 : decode cX0_removeTrain 9 = .ok (.if_icmp .ge 93, 3) := by decide +kernel
theorem dX0_removeTrain_12 : decode cX0_removeTrain 12 = .ok (.aload_n 0, 1) := by decide +kernel
theorem dX0_removeTrain_13 : decode cX0_removeTrain 13 = .ok (.getfield 21, 3) := by decide +kernel
theorem dX0_removeTrain_16 : decode cX0_removeTrain 16 = .ok (.iload_n 2, 1) := by decide +kernel
theorem dX0_removeTrain_17 : decode cX0_removeTrain 17 = .ok (.aload_n 0, 1) := by decide +kernel
theorem dX0_removeTrain_18 : decode cX0_removeTrain 18 = .ok (.getfield 21, 3) := by decide +kernel
theorem dX0_removeTrain_21 : decode cX0_removeTrain 21 = .ok (.iload_n 2, 1) := by decide +kernel
theorem dX0_removeTrain_22 : decode cX0_removeTrain 22 = .ok (.iconst 1, 1) := by decide +kernel
theorem dX0_removeTrain_23 : decode cX0_removeTrain 23 = .ok (.iadd, 1) := by decide +kernel
theorem dX0_removeTrain_24 : decode cX0_removeTrain 24 = .ok (.iaload, 1) := by decide +kernel
theorem dX0_removeTrain_25 : decode cX0_removeTrain 25 = .ok (.iastore, 1) := by decide +kernel
theorem dX0_removeTrain_26 : decode cX0_removeTrain 26 = .ok (.aload_n 0, 1) := by decide +kernel
theorem dX0_removeTrain_27 : decode cX0_removeTrain 27 = .ok (.getfield 24, 3) := by decide +kernel
theorem dX0_removeTrain_30 : decode cX0_removeTrain 30 = .ok (.iload_n 2, 1) := by decide +kernel
theorem dX0_removeTrain_31 : decode cX0_removeTrain 31 = .ok (.aload_n 0, 1) := by decide +kernel
theorem dX0_removeTrain_32 : decode cX0_removeTrain 32 = .ok (.getfield 24, 3) := by decide +kernel
theorem dX0_removeTrain_35 : decode cX0_removeTrain 35 = .ok (.iload_n 2, 1) := by decide +kernel
theorem dX0_removeTrain_36 : decode cX0_removeTrain 36 = .ok (.iconst 1, 1) := by decide +kernel
theorem dX0_removeTrain_37 : decode cX0_removeTrain 37 = .ok (.iadd, 1) := by decide +kernel
theorem dX0_removeTrain_38 : decode cX0_removeTrain 38 = .ok (.iaload, 1) := by decide +kernel
theorem dX0_removeTrain_39 : decode cX0_removeTrain 39 = .ok (.iastore, 1) := by decide +kernel
theorem dX0_removeTrain_40 : decode cX0_removeTrain 40 = .ok (.aload_n 0, 1) := by decide +kernel
theorem dX0_removeTrain_41 : decode cX0_removeTrain 41 = .ok (.getfield 27, 3) := by decide +kernel
theorem dX0_removeTrain_44 : decode cX0_removeTrain 44 = .ok (.iload_n 2, 1) := by decide +kernel
theorem dX0_removeTrain_45 : decode cX0_removeTrain 45 = .ok (.aload_n 0, 1) := by decide +kernel
theorem dX0_removeTrain_46 : decode cX0_removeTrain 46 = .ok (.getfield 27, 3) := by decide +kernel
theorem dX0_removeTrain_49 : decode cX0_removeTrain 49 = .ok (.iload_n 2, 1) := by decide +kernel
theorem dX0_removeTrain_50 : decode cX0_removeTrain 50 = .ok (.iconst 1, 1) := by decide +kernel
theorem dX0_removeTrain_51 : decode cX0_removeTrain 51 = .ok (.iadd, 1) := by decide +kernel
theorem dX0_removeTrain_52 : decode cX0_removeTrain 52 = .ok (.iaload, 1) := by decide +kernel
theorem dX0_removeTrain_53 : decode cX0_removeTrain 53 = .ok (.iastore, 1) := by decide +kernel
theorem dX0_removeTrain_54 : decode cX0_removeTrain 54 = .ok (.aload_n 0, 1) := by decide +kernel
theorem dX0_removeTrain_55 : decode cX0_removeTrain 55 = .ok (.getfield 30, 3) := by decide +kernel
theorem dX0_removeTrain_58 : decode cX0_removeTrain 58 = .ok (.iload_n 2, 1) := by decide +kernel
theorem dX0_removeTrain_59 : decode cX0_removeTrain 59 = .ok (.aload_n 0, 1) := by decide +kernel
theorem dX0_removeTrain_60 : decode cX0_removeTrain 60 = .ok (.getfield 30, 3) := by decide +kernel
theorem dX0_removeTrain_63 : decode cX0_removeTrain 63 = .ok (.iload_n 2, 1) := by decide +kernel
theorem dX0_removeTrain_64 : decode cX0_removeTrain 64 = .ok (.iconst 1, 1) := by decide +kernel
theorem dX0_removeTrain_65 : decode cX0_removeTrain 65 = .ok (.iadd, 1) := by decide +kernel
theorem dX0_removeTrain_66 : decode cX0_removeTrain 66 = .ok (.iaload, 1) := by decide +kernel
theorem dX0_removeTrain_67 : decode cX0_removeTrain 67 = .ok (.iastore, 1) := by decide +kernel
theorem dX0_removeTrain_68 : decode cX0_removeTrain 68 = .ok (.aload_n 0, 1) := by decide +kernel
theorem dX0_removeTrain_69 : decode cX0_removeTrain 69 = .ok (.getfield 33, 3) := by decide +kernel
theorem dX0_removeTrain_72 : decode cX0_removeTrain 72 = .ok (.iload_n 2, 1) := by decide +kernel
theorem dX0_removeTrain_73 : decode cX0_removeTrain 73 = .ok (.aload_n 0, 1) := by decide +kernel
theorem dX0_removeTrain_74 : decode cX0_removeTrain 74 = .ok (.getfield 33, 3) := by decide +kernel
theorem dX0_removeTrain_77 : decode cX0_removeTrain 77 = .ok (.iload_n 2, 1) := by decide +kernel
theorem dX0_removeTrain_78 : decode cX0_removeTrain 78 = .ok (.iconst 1, 1) := by decide +kernel
theorem dX0_removeTrain_79 : decode cX0_removeTrain 79 = .ok (.iadd, 1) := by decide +kernel
theorem dX0_removeTrain_80 : decode cX0_removeTrain 80 = .ok (.iaload, 1) := by decide +kernel
theorem dX0_removeTrain_81 : decode cX0_removeTrain 81 = .ok (.iastore, 1) := by decide +kernel
theorem dX0_removeTrain_82 : decode cX0_removeTrain 82 = .ok (.aload_n 0, 1) := by decide +kernel
theorem dX0_removeTrain_83 : decode cX0_removeTrain 83 = .ok (.getfield 36, 3) := by decide +kernel
theorem dX0_removeTrain_86 : decode cX0_removeTrain 86 = .ok (.iload_n 2, 1) := by decide +kernel
theorem dX0_removeTrain_87 : decode cX0_removeTrain 87 = .ok (.aload_n 0, 1) := by decide +kernel
theorem dX0_removeTrain_88 : decode cX0_removeTrain 88 = .ok (.getfield 36, 3) := by decide +kernel
theorem dX0_removeTrain_91 : decode cX0_removeTrain 91 = .ok (.iload_n 2, 1) := by decide +kernel
theorem dX0_removeTrain_92 : decode cX0_removeTrain 92 = .ok (.iconst 1, 1) := by decide +kernel
theorem dX0_removeTrain_93 : decode cX0_removeTrain 93 = .ok (.iadd, 1) := by decide +kernel
theorem dX0_removeTrain_94 : decode cX0_removeTrain 94 = .ok (.iaload, 1) := by decide +kernel
theorem dX0_removeTrain_95 : decode cX0_removeTrain 95 = .ok (.iastore, 1) := by decide +kernel
theorem dX0_removeTrain_96 : decode cX0_removeTrain 96 = .ok (.iinc 2 1, 3) := by decide +kernel
theorem dX0_removeTrain_99 : decode cX0_removeTrain 99 = .ok (.goto (-97), 3) := by decide +kernel
theorem dX0_removeTrain_102 : decode cX0_removeTrain 102 = .ok (.aload_n 0, 1) := by decide +kernel
theorem dX0_removeTrain_103 : decode cX0_removeTrain 103 = .ok (.dup, 1) := by decide +kernel
theorem dX0_removeTrain_104 : decode cX0_removeTrain 104 = .ok (.getfield 58, 3) := by decide +kernel
theorem dX0_removeTrain_107 : decode cX0_removeTrain 107 = .ok (.iconst 1, 1) := by decide +kernel
theorem dX0_removeTrain_108 : decode cX0_removeTrain 108 = .ok (.isub, 1) := by decide +kernel
theorem dX0_removeTrain_109 : decode cX0_removeTrain 109 = .ok (.putfield 58, 3) := by decide +kernel
theorem dX0_removeTrain_112 : decode cX0_removeTrain 112 = .ok (.aload_n 0, 1) := by decide +kernel
theorem dX0_removeTrain_113 : decode cX0_removeTrain 113 = .ok (.iload_n 1, 1) := by decide +kernel
theorem dX0_removeTrain_114 : decode cX0_removeTrain 114 = .ok (.invokevirtual 73, 3) := by decide +kernel
theorem dX0_removeTrain_117 : decode cX0_removeTrain 117 = .ok (.return_, 1) := by decide +kernel
theorem dX0_removeEntries_0 : decode cX0_removeEntries 0 = .ok (.iconst 0, 1) := by decide +kernel
theorem dX0_removeEntries_1 : decode cX0_removeEntries 1 = .ok (.istore_n 2, 1) := by decide +kernel
theorem dX0_removeEntries_2 : decode cX0_removeEntries 2 = .ok (.iconst 0, 1) := by decide +kernel
theorem dX0_removeEntries_3 : decode cX0_removeEntries 3 = .ok (.istore_n 3, 1) := by decide +kernel
theorem dX0_removeEntries_4 : decode cX0_removeEntries 4 = .ok (.iload_n 3, 1) := by decide +kernel
theorem dX0_removeEntries_5 : decode cX0_removeEntries 5 = .ok (.aload_n 0, 1) := by decide +kernel
theorem dX0_removeEntries_6 : decode cX0_removeEntries 6 = .ok (.getfield 64, 3) := by decide +kernel
theorem dX0_removeEntries_9 : decode cX0_removeEntries 9 = .ok (.if_icmp .ge 79, 3) := by decide +kernel
theorem dX0_removeEntries_12 : decode cX0_removeEntries 12 = .ok (.aload_n 0, 1) := by decide +kernel
theorem dX0_removeEntries_13 : decode cX0_removeEntries 13 = .ok (.getfield 42, 3) := by decide +kernel
theorem dX0_removeEntries_16 : decode cX0_removeEntries 16 = .ok (.iload_n 3, 1) := by decide +kernel
theorem dX0_removeEntries_17 : decode cX0_removeEntries 17 = .ok (.iaload, 1) := by decide +kernel
theorem dX0_removeEntries_18 : decode cX0_removeEntries 18 = .ok (.iload_n 1, 1) := by decide +kernel
theorem dX0_removeEntries_19 : decode cX0_removeEntries 19 = .ok (.if_icmp .eq 63, 3) := by decide +kernel
theorem dX0_removeEntries_22 : decode cX0_removeEntries 22 = .ok (.aload_n 0, 1) := by decide +kernel
theorem dX0_removeEntries_23 : decode cX0_removeEntries 23 = .ok (.getfield 39, 3) := by decide +kernel
theorem dX0_removeEntries_26 : decode cX0_removeEntries 26 = .ok (.iload_n 2, 1) := by decide +kernel
theorem dX0_removeEntries_27 : decode cX0_removeEntries 27 = .ok (.aload_n 0, 1) := by decide +kernel
theorem dX0_removeEntries_28 : decode cX0_removeEntries 28 = .ok (.getfield 39, 3) := by decide +kernel
theorem dX0_removeEntries_31 : decode cX0_removeEntries 31 = .ok (.iload_n 3, 1) := by decide +kernel
theorem dX0_removeEntries_32 : decode cX0_removeEntries 32 = .ok (.iaload, 1) := by decide +kernel
theorem dX0_removeEntries_33 : decode cX0_removeEntries 33 = .ok (.iastore, 1) := by decide +kernel
theorem dX0_removeEntries_34 : decode cX0_removeEntries 34 = .ok (.aload_n 0, 1) := by decide +kernel
theorem dX0_removeEntries_35 : decode cX0_removeEntries 35 = .ok (.getfield 42, 3) := by decide +kernel
theorem dX0_removeEntries_38 : decode cX0_removeEntries 38 = .ok (.iload_n 2, 1) := by decide +kernel
theorem dX0_removeEntries_39 : decode cX0_removeEntries 39 = .ok (.aload_n 0, 1) := by decide +kernel
theorem dX0_removeEntries_40 : decode cX0_removeEntries 40 = .ok (.getfield 42, 3) := by decide +kernel
theorem dX0_removeEntries_43 : decode cX0_removeEntries 43 = .ok (.iload_n 3, 1) := by decide +kernel
theorem dX0_removeEntries_44 : decode cX0_removeEntries 44 = .ok (.iaload, 1) := by decide +kernel
theorem dX0_removeEntries_45 : decode cX0_removeEntries 45 = .ok (.iload_n 1, 1) := by decide +kernel
theorem dX0_removeEntries_46 : decode cX0_removeEntries 46 = .ok (.if_icmp .le 14, 3) := by decide +kernel
theorem dX0_removeEntries_49 : decode cX0_removeEntries 49 = .ok (.aload_n 0, 1) := by decide +kernel
theorem dX0_removeEntries_50 : decode cX0_removeEntries 50 = .ok (.getfield 42, 3) := by decide +kernel
theorem dX0_removeEntries_53 : decode cX0_removeEntries 53 = .ok (.iload_n 3, 1) := by decide +kernel
theorem dX0_removeEntries_54 : decode cX0_removeEntries 54 = .ok (.iaload, 1) := by decide +kernel
theorem dX0_removeEntries_55 : decode cX0_removeEntries 55 = .ok (.iconst 1, 1) := by decide +kernel
theorem dX0_removeEntries_56 : decode cX0_removeEntries 56 = .ok (.isub, 1) := by decide +kernel
theorem dX0_removeEntries_57 : decode cX0_removeEntries 57 = .ok (.goto 9, 3) := by decide +kernel
theorem dX0_removeEntries_60 : decode cX0_removeEntries 60 = .ok (.aload_n 0, 1) := by decide +kernel
theorem dX0_removeEntries_61 : decode cX0_removeEntries 61 = .ok (.getfield 42, 3) := by decide +kernel
theorem dX0_removeEntries_64 : decode cX0_removeEntries 64 = .ok (.iload_n 3, 1) := by decide +kernel
theorem dX0_removeEntries_65 : decode cX0_removeEntries 65 = .ok (.iaload, 1) := by decide +kernel
theorem dX0_removeEntries_66 : decode cX0_removeEntries 66 = .ok (.iastore, 1) := by decide +kernel
theorem dX0_removeEntries_67 : decode cX0_removeEntries 67 = .ok (.aload_n 0, 1) := by decide +kernel
theorem dX0_removeEntries_68 : decode cX0_removeEntries 68 = .ok (.getfield 45, 3) := by decide +kernel
theorem dX0_removeEntries_71 : decode cX0_removeEntries 71 = .ok (.iload_n 2, 1) := by decide +kernel
theorem dX0_removeEntries_72 : decode cX0_removeEntries 72 = .ok (.aload_n 0, 1) := by decide +kernel
theorem dX0_removeEntries_73 : decode cX0_removeEntries 73 = .ok (.getfield 45, 3) := by decide +kernel
theorem dX0_removeEntries_76 : decode cX0_removeEntries 76 = .ok (.iload_n 3, 1) := by decide +kernel
theorem dX0_removeEntries_77 : decode cX0_removeEntries 77 = .ok (.iaload, 1) := by decide +kernel
theorem dX0_removeEntries_78 : decode cX0_removeEntries 78 = .ok (.iastore, 1) := by decide +kernel
theorem dX0_removeEntries_79 : decode cX0_removeEntries 79 = .ok (.iinc 2 1, 3) := by decide +kernel
theorem dX0_removeEntries_82 : decode cX0_removeEntries 82 = .ok (.iinc 3 1, 3) := by decide +kernel
theorem dX0_removeEntries_85 : decode cX0_removeEntries 85 = .ok (.goto (-81), 3) := by decide +kernel
theorem dX0_removeEntries_88 : decode cX0_removeEntries 88 = .ok (.aload_n 0, 1) := by decide +kernel
theorem dX0_removeEntries_89 : decode cX0_removeEntries 89 = .ok (.iload_n 2, 1) := by decide +kernel
theorem dX0_removeEntries_90 : decode cX0_removeEntries 90 = .ok (.putfield 64, 3) := by decide +kernel
theorem dX0_removeEntries_93 : decode cX0_removeEntries 93 = .ok (.return_, 1) := by decide +kernel
theorem dX0_howMany_0 : decode cX0_howMany 0 = .ok (.iconst 0, 1) := by decide +kernel
theorem dX0_howMany_1 : decode cX0_howMany 1 = .ok (.istore_n 2, 1) := by decide +kernel
theorem dX0_howMany_2 : decode cX0_howMany 2 = .ok (.iconst 0, 1) := by decide +kernel
theorem dX0_howMany_3 : decode cX0_howMany 3 = .ok (.istore_n 3, 1) := by decide +kernel
theorem dX0_howMany_4 : decode cX0_howMany 4 = .ok (.iload_n 3, 1) := by decide +kernel
theorem dX0_howMany_5 : decode cX0_howMany 5 = .ok (.aload_n 0, 1) := by decide +kernel
theorem dX0_howMany_6 : decode cX0_howMany 6 = .ok (.getfield 58, 3) := by decide +kernel
theorem dX0_howMany_9 : decode cX0_howMany 9 = .ok (.if_icmp .ge 27, 3) := by decide +kernel
theorem dX0_howMany_12 : decode cX0_howMany 12 = .ok (.iload_n 2, 1) := by decide +kernel
theorem dX0_howMany_13 : decode cX0_howMany 13 = .ok (.aload_n 0, 1) := by decide +kernel
theorem dX0_howMany_14 : decode cX0_howMany 14 = .ok (.getfield 33, 3) := by decide +kernel
theorem dX0_howMany_17 : decode cX0_howMany 17 = .ok (.iload_n 3, 1) := by decide +kernel
theorem dX0_howMany_18 : decode cX0_howMany 18 = .ok (.iaload, 1) := by decide +kernel
theorem dX0_howMany_19 : decode cX0_howMany 19 = .ok (.iload_n 1, 1) := by decide +kernel
theorem dX0_howMany_20 : decode cX0_howMany 20 = .ok (.if_icmp .ne 7, 3) := by decide +kernel
theorem dX0_howMany_23 : decode cX0_howMany 23 = .ok (.iconst 1, 1) := by decide +kernel
theorem dX0_howMany_24 : decode cX0_howMany 24 = .ok (.goto 4, 3) := by decide +kernel
theorem dX0_howMany_27 : decode cX0_howMany 27 = .ok (.iconst 0, 1) := by decide +kernel
theorem dX0_howMany_28 : decode cX0_howMany 28 = .ok (.iadd, 1) := by decide +kernel
theorem dX0_howMany_29 : decode cX0_howMany 29 = .ok (.istore_n 2, 1) := by decide +kernel
theorem dX0_howMany_30 : decode cX0_howMany 30 = .ok (.iinc 3 1, 3) := by decide +kernel
theorem dX0_howMany_33 : decode cX0_howMany 33 = .ok (.goto (-29), 3) := by decide +kernel
theorem dX0_howMany_36 : decode cX0_howMany 36 = .ok (.iload_n 2, 1) := by decide +kernel
theorem dX0_howMany_37 : decode cX0_howMany 37 = .ok (.ireturn, 1) := by decide +kernel
theorem dX0_howManyThere_0 : decode cX0_howManyThere 0 = .ok (.iconst 0, 1) := by decide +kernel
theorem dX0_howManyThere_1 : decode cX0_howManyThere 1 = .ok (.istore_n 2, 1) := by decide +kernel
theorem dX0_howManyThere_2 : decode cX0_howManyThere 2 = .ok (.iconst 0, 1) := by decide +kernel
theorem dX0_howManyThere_3 : decode cX0_howManyThere 3 = .ok (.istore_n 3, 1) := by decide +kernel
theorem dX0_howManyThere_4 : decode cX0_howManyThere 4 = .ok (.iload_n 3, 1) := by decide +kernel
theorem dX0_howManyThere_5 : decode cX0_howManyThere 5 = .ok (.aload_n 0, 1) := by decide +kernel
theorem dX0_howManyThere_6 : decode cX0_howManyThere 6 = .ok (.getfield 58, 3) := by decide +kernel
theorem dX0_howManyThere_9 : decode cX0_howManyThere 9 = .ok (.if_icmp .ge 41, 3) := by decide +kernel
theorem dX0_howManyThere_12 : decode cX0_howManyThere 12 = .ok (.iload_n 2, 1) := by decide +kernel
theorem dX0_howManyThere_13 : decode cX0_howManyThere 13 = .ok (.aload_n 0, 1) := by decide +kernel
theorem dX0_howManyThere_14 : decode cX0_howManyThere 14 = .ok (.getfield 30, 3) := by decide +kernel
theorem dX0_howManyThere_17 : decode cX0_howManyThere 17 = .ok (.iload_n 3, 1) := by decide +kernel
theorem dX0_howManyThere_18 : decode cX0_howManyThere 18 = .ok (.iaload, 1) := by decide +kernel
theorem dX0_howManyThere_19 : decode cX0_howManyThere 19 = .ok (.ifCond .le 22, 3) := by decide +kernel
theorem dX0_howManyThere_22 : decode cX0_howManyThere 22 = .ok (.aload_n 0, 1) := by decide +kernel
theorem dX0_howManyThere_23 : decode cX0_howManyThere 23 = .ok (.iload_n 3, 1) := by decide +kernel
theorem dX0_howManyThere_24 : decode cX0_howManyThere 24 = .ok (.aload_n 0, 1) := by decide +kernel
theorem dX0_howManyThere_25 : decode cX0_howManyThere 25 = .ok (.getfield 30, 3) := by decide +kernel
theorem dX0_howManyThere_28 : decode cX0_howManyThere 28 = .ok (.iload_n 3, 1) := by decide +kernel
theorem dX0_howManyThere_29 : decode cX0_howManyThere 29 = .ok (.iaload, 1) := by decide +kernel
theorem dX0_howManyThere_30 : decode cX0_howManyThere 30 = .ok (.invokevirtual 77, 3) := by decide +kernel
theorem dX0_howManyThere_33 : decode cX0_howManyThere 33 = .ok (.iload_n 1, 1) := by decide +kernel
theorem dX0_howManyThere_34 : decode cX0_howManyThere 34 = .ok (.if_icmp .ne 7, 3) := by decide +kernel
theorem dX0_howManyThere_37 : decode cX0_howManyThere 37 = .ok (.iconst 1, 1) := by decide +kernel
theorem dX0_howManyThere_38 : decode cX0_howManyThere 38 = .ok (.goto 4, 3) := by decide +kernel
theorem dX0_howManyThere_41 : decode cX0_howManyThere 41 = .ok (.iconst 0, 1) := by decide +kernel
theorem dX0_howManyThere_42 : decode cX0_howManyThere 42 = .ok (.iadd, 1) := by decide +kernel
theorem dX0_howManyThere_43 : decode cX0_howManyThere 43 = .ok (.istore_n 2, 1) := by decide +kernel
theorem dX0_howManyThere_44 : decode cX0_howManyThere 44 = .ok (.iinc 3 1, 3) := by decide +kernel
theorem dX0_howManyThere_47 : decode cX0_howManyThere 47 = .ok (.goto (-43), 3) := by decide +kernel
theorem dX0_howManyThere_50 : decode cX0_howManyThere 50 = .ok (.iload_n 2, 1) := by decide +kernel
theorem dX0_howManyThere_51 : decode cX0_howManyThere 51 = .ok (.ireturn, 1) := by decide +kernel
theorem dX0_stepsLeft_0 : decode cX0_stepsLeft 0 = .ok (.iconst 0, 1) := by decide +kernel
theorem dX0_stepsLeft_1 : decode cX0_stepsLeft 1 = .ok (.istore_n 1, 1) := by decide +kernel
theorem dX0_stepsLeft_2 : decode cX0_stepsLeft 2 = .ok (.iconst 0, 1) := by decide +kernel
theorem dX0_stepsLeft_3 : decode cX0_stepsLeft 3 = .ok (.istore_n 2, 1) := by decide +kernel
theorem dX0_stepsLeft_4 : decode cX0_stepsLeft 4 = .ok (.iload_n 2, 1) := by decide +kernel
theorem dX0_stepsLeft_5 : decode cX0_stepsLeft 5 = .ok (.aload_n 0, 1) := by decide +kernel
theorem dX0_stepsLeft_6 : decode cX0_stepsLeft 6 = .ok (.getfield 58, 3) := by decide +kernel
theorem dX0_stepsLeft_9 : decode cX0_stepsLeft 9 = .ok (.if_icmp .ge 18, 3) := by decide +kernel
theorem dX0_stepsLeft_12 : decode cX0_stepsLeft 12 = .ok (.iload_n 1, 1) := by decide +kernel
theorem dX0_stepsLeft_13 : decode cX0_stepsLeft 13 = .ok (.aload_n 0, 1) := by decide +kernel
theorem dX0_stepsLeft_14 : decode cX0_stepsLeft 14 = .ok (.getfield 30, 3) := by decide +kernel
theorem dX0_stepsLeft_17 : decode cX0_stepsLeft 17 = .ok (.iload_n 2, 1) := by decide +kernel
theorem dX0_stepsLeft_18 : decode cX0_stepsLeft 18 = .ok (.iaload, 1) := by decide +kernel
theorem dX0_stepsLeft_19 : decode cX0_stepsLeft 19 = .ok (.iadd, 1) := by decide +kernel
theorem dX0_stepsLeft_20 : decode cX0_stepsLeft 20 = .ok (.istore_n 1, 1) := by decide +kernel
theorem dX0_stepsLeft_21 : decode cX0_stepsLeft 21 = .ok (.iinc 2 1, 3) := by decide +kernel
theorem dX0_stepsLeft_24 : decode cX0_stepsLeft 24 = .ok (.goto (-20), 3) := by decide +kernel
theorem dX0_stepsLeft_27 : decode cX0_stepsLeft 27 = .ok (.iload_n 1, 1) := by decide +kernel
theorem dX0_stepsLeft_28 : decode cX0_stepsLeft 28 = .ok (.ireturn, 1) := by decide +kernel
theorem dX0_spot_0 : decode cX0_spot 0 = .ok (.aload_n 0, 1) := by decide +kernel
theorem dX0_spot_1 : decode cX0_spot 1 = .ok (.getfield 24, 3) := by decide +kernel
theorem dX0_spot_4 : decode cX0_spot 4 = .ok (.iload_n 1, 1) := by decide +kernel
theorem dX0_spot_5 : decode cX0_spot 5 = .ok (.iaload, 1) := by decide +kernel
theorem dX0_spot_6 : decode cX0_spot 6 = .ok (.aload_n 0, 1) := by decide +kernel
theorem dX0_spot_7 : decode cX0_spot 7 = .ok (.getfield 21, 3) := by decide +kernel
theorem dX0_spot_10 : decode cX0_spot 10 = .ok (.iload_n 1, 1) := by decide +kernel
theorem dX0_spot_11 : decode cX0_spot 11 = .ok (.iaload, 1) := by decide +kernel
theorem dX0_spot_12 : decode cX0_spot 12 = .ok (.if_icmp .le 14, 3) := by decide +kernel
theorem dX0_spot_15 : decode cX0_spot 15 = .ok (.aload_n 0, 1) := by decide +kernel
theorem dX0_spot_16 : decode cX0_spot 16 = .ok (.getfield 24, 3) := by decide +kernel
theorem dX0_spot_19 : decode cX0_spot 19 = .ok (.iload_n 1, 1) := by decide +kernel
theorem dX0_spot_20 : decode cX0_spot 20 = .ok (.iaload, 1) := by decide +kernel
theorem dX0_spot_21 : decode cX0_spot 21 = .ok (.iload_n 2, 1) := by decide +kernel
theorem dX0_spot_22 : decode cX0_spot 22 = .ok (.isub, 1) := by decide +kernel
theorem dX0_spot_23 : decode cX0_spot 23 = .ok (.goto 11, 3) := by decide +kernel
theorem dX0_spot_26 : decode cX0_spot 26 = .ok (.aload_n 0, 1) := by decide +kernel
theorem dX0_spot_27 : decode cX0_spot 27 = .ok (.getfield 24, 3) := by decide +kernel
theorem dX0_spot_30 : decode cX0_spot 30 = .ok (.iload_n 1, 1) := by decide +kernel
theorem dX0_spot_31 : decode cX0_spot 31 = .ok (.iaload, 1) := by decide +kernel
theorem dX0_spot_32 : decode cX0_spot 32 = .ok (.iload_n 2, 1) := by decide +kernel
theorem dX0_spot_33 : decode cX0_spot 33 = .ok (.iadd, 1) := by decide +kernel
theorem dX0_spot_34 : decode cX0_spot 34 = .ok (.ireturn, 1) := by decide +kernel
theorem dX0_sectionAhead_0 : decode cX0_sectionAhead 0 = .ok (.aload_n 0, 1) := by decide +kernel
theorem dX0_sectionAhead_1 : decode cX0_sectionAhead 1 = .ok (.getfield 24, 3) := by decide +kernel
theorem dX0_sectionAhead_4 : decode cX0_sectionAhead 4 = .ok (.iload_n 1, 1) := by decide +kernel
theorem dX0_sectionAhead_5 : decode cX0_sectionAhead 5 = .ok (.iaload, 1) := by decide +kernel
theorem dX0_sectionAhead_6 : decode cX0_sectionAhead 6 = .ok (.aload_n 0, 1) := by decide +kernel
theorem dX0_sectionAhead_7 : decode cX0_sectionAhead 7 = .ok (.getfield 21, 3) := by decide +kernel
theorem dX0_sectionAhead_10 : decode cX0_sectionAhead 10 = .ok (.iload_n 1, 1) := by decide +kernel
theorem dX0_sectionAhead_11 : decode cX0_sectionAhead 11 = .ok (.iaload, 1) := by decide +kernel
theorem dX0_sectionAhead_12 : decode cX0_sectionAhead 12 = .ok (.if_icmp .le 14, 3) := by decide +kernel
theorem dX0_sectionAhead_15 : decode cX0_sectionAhead 15 = .ok (.aload_n 0, 1) := by decide +kernel
theorem dX0_sectionAhead_16 : decode cX0_sectionAhead 16 = .ok (.getfield 24, 3) := by decide +kernel
theorem dX0_sectionAhead_19 : decode cX0_sectionAhead 19 = .ok (.iload_n 1, 1) := by decide +kernel
theorem dX0_sectionAhead_20 : decode cX0_sectionAhead 20 = .ok (.iaload, 1) := by decide +kernel
theorem dX0_sectionAhead_21 : decode cX0_sectionAhead 21 = .ok (.iload_n 2, 1) := by decide +kernel
theorem dX0_sectionAhead_22 : decode cX0_sectionAhead 22 = .ok (.isub, 1) := by decide +kernel
theorem dX0_sectionAhead_23 : decode cX0_sectionAhead 23 = .ok (.goto 13, 3) := by decide +kernel
theorem dX0_sectionAhead_26 : decode cX0_sectionAhead 26 = .ok (.aload_n 0, 1) := by decide +kernel
theorem dX0_sectionAhead_27 : decode cX0_sectionAhead 27 = .ok (.getfield 24, 3) := by decide +kernel
theorem dX0_sectionAhead_30 : decode cX0_sectionAhead 30 = .ok (.iload_n 1, 1) := by decide +kernel
theorem dX0_sectionAhead_31 : decode cX0_sectionAhead 31 = .ok (.iaload, 1) := by decide +kernel
theorem dX0_sectionAhead_32 : decode cX0_sectionAhead 32 = .ok (.iload_n 2, 1) := by decide +kernel
theorem dX0_sectionAhead_33 : decode cX0_sectionAhead 33 = .ok (.iadd, 1) := by decide +kernel
theorem dX0_sectionAhead_34 : decode cX0_sectionAhead 34 = .ok (.iconst 1, 1) := by decide +kernel
theorem dX0_sectionAhead_35 : decode cX0_sectionAhead 35 = .ok (.isub, 1) := by decide +kernel
theorem dX0_sectionAhead_36 : decode cX0_sectionAhead 36 = .ok (.ireturn, 1) := by decide +kernel
theorem dX0_minutesLeft_0 : decode cX0_minutesLeft 0 = .ok (.iconst 0, 1) := by decide +kernel
theorem dX0_minutesLeft_1 : decode cX0_minutesLeft 1 = .ok (.istore_n 2, 1) := by decide +kernel
theorem dX0_minutesLeft_2 : decode cX0_minutesLeft 2 = .ok (.aload_n 0, 1) := by decide +kernel
theorem dX0_minutesLeft_3 : decode cX0_minutesLeft 3 = .ok (.getfield 30, 3) := by decide +kernel
theorem dX0_minutesLeft_6 : decode cX0_minutesLeft 6 = .ok (.iload_n 1, 1) := by decide +kernel
theorem dX0_minutesLeft_7 : decode cX0_minutesLeft 7 = .ok (.iaload, 1) := by decide +kernel
theorem dX0_minutesLeft_8 : decode cX0_minutesLeft 8 = .ok (.istore_n 3, 1) := by decide +kernel
theorem dX0_minutesLeft_9 : decode cX0_minutesLeft 9 = .ok (.iload_n 3, 1) := by decide +kernel
theorem dX0_minutesLeft_10 : decode cX0_minutesLeft 10 = .ok (.ifCond .le 23, 3) := by decide +kernel
theorem dX0_minutesLeft_13 : decode cX0_minutesLeft 13 = .ok (.iload_n 2, 1) := by decide +kernel
theorem dX0_minutesLeft_14 : decode cX0_minutesLeft 14 = .ok (.aload_n 0, 1) := by decide +kernel
theorem dX0_minutesLeft_15 : decode cX0_minutesLeft 15 = .ok (.getfield 18, 3) := by decide +kernel
theorem dX0_minutesLeft_18 : decode cX0_minutesLeft 18 = .ok (.aload_n 0, 1) := by decide +kernel
theorem dX0_minutesLeft_19 : decode cX0_minutesLeft 19 = .ok (.iload_n 1, 1) := by decide +kernel
theorem dX0_minutesLeft_20 : decode cX0_minutesLeft 20 = .ok (.iload_n 3, 1) := by decide +kernel
theorem dX0_minutesLeft_21 : decode cX0_minutesLeft 21 = .ok (.invokevirtual 81, 3) := by decide +kernel
theorem dX0_minutesLeft_24 : decode cX0_minutesLeft 24 = .ok (.iaload, 1) := by decide +kernel
theorem dX0_minutesLeft_25 : decode cX0_minutesLeft 25 = .ok (.iadd, 1) := by decide +kernel
theorem dX0_minutesLeft_26 : decode cX0_minutesLeft 26 = .ok (.istore_n 2, 1) := by decide +kernel
theorem dX0_minutesLeft_27 : decode cX0_minutesLeft 27 = .ok (.iinc 3 (-1), 3) := by decide +kernel
theorem dX0_minutesLeft_30 : decode cX0_minutesLeft 30 = .ok (.goto (-21), 3) := by decide +kernel
theorem dX0_minutesLeft_33 : decode cX0_minutesLeft 33 = .ok (.iload_n 2, 1) := by decide +kernel
theorem dX0_minutesLeft_34 : decode cX0_minutesLeft 34 = .ok (.ireturn, 1) := by decide +kernel
theorem dX0_runnerIn_0 : decode cX0_runnerIn 0 = .ok (.iconst 0, 1) := by decide +kernel
theorem dX0_runnerIn_1 : decode cX0_runnerIn 1 = .ok (.istore_n 2, 1) := by decide +kernel
theorem dX0_runnerIn_2 : decode cX0_runnerIn 2 = .ok (.iload_n 2, 1) := by decide +kernel
theorem dX0_runnerIn_3 : decode cX0_runnerIn 3 = .ok (.aload_n 0, 1) := by decide +kernel
theorem dX0_runnerIn_4 : decode cX0_runnerIn 4 = .ok (.getfield 58, 3) := by decide +kernel
theorem dX0_runnerIn_7 : decode cX0_runnerIn 7 = .ok (.if_icmp .ge 38, 3) := by decide +kernel
theorem dX0_runnerIn_10 : decode cX0_runnerIn 10 = .ok (.aload_n 0, 1) := by decide +kernel
theorem dX0_runnerIn_11 : decode cX0_runnerIn 11 = .ok (.getfield 33, 3) := by decide +kernel
theorem dX0_runnerIn_14 : decode cX0_runnerIn 14 = .ok (.iload_n 2, 1) := by decide +kernel
theorem dX0_runnerIn_15 : decode cX0_runnerIn 15 = .ok (.iaload, 1) := by decide +kernel
theorem dX0_runnerIn_16 : decode cX0_runnerIn 16 = .ok (.iconst 1, 1) := by decide +kernel
theorem dX0_runnerIn_17 : decode cX0_runnerIn 17 = .ok (.if_icmp .ne 22, 3) := by decide +kernel
theorem dX0_runnerIn_20 : decode cX0_runnerIn 20 = .ok (.aload_n 0, 1) := by decide +kernel
theorem dX0_runnerIn_21 : decode cX0_runnerIn 21 = .ok (.iload_n 2, 1) := by decide +kernel
theorem dX0_runnerIn_22 : decode cX0_runnerIn 22 = .ok (.aload_n 0, 1) := by decide +kernel
theorem dX0_runnerIn_23 : decode cX0_runnerIn 23 = .ok (.getfield 30, 3) := by decide +kernel
theorem dX0_runnerIn_26 : decode cX0_runnerIn 26 = .ok (.iload_n 2, 1) := by decide +kernel
theorem dX0_runnerIn_27 : decode cX0_runnerIn 27 = .ok (.iaload, 1) := by decide +kernel
theorem dX0_runnerIn_28 : decode cX0_runnerIn 28 = .ok (.iconst 1, 1) := by decide +kernel
theorem dX0_runnerIn_29 : decode cX0_runnerIn 29 = .ok (.iadd, 1) := by decide +kernel
theorem dX0_runnerIn_30 : decode cX0_runnerIn 30 = .ok (.invokevirtual 81, 3) := by decide +kernel
theorem dX0_runnerIn_33 : decode cX0_runnerIn 33 = .ok (.iload_n 1, 1) := by decide +kernel
theorem dX0_runnerIn_34 : decode cX0_runnerIn 34 = .ok (.if_icmp .ne 5, 3) := by decide +kernel
theorem dX0_runnerIn_37 : decode cX0_runnerIn 37 = .ok (.iload_n 2, 1) := by decide +kernel
theorem dX0_runnerIn_38 : decode cX0_runnerIn 38 = .ok (.ireturn, 1) := by decide +kernel
theorem dX0_runnerIn_39 : decode cX0_runnerIn 39 = .ok (.iinc 2 1, 3) := by decide +kernel
theorem dX0_runnerIn_42 : decode cX0_runnerIn 42 = .ok (.goto (-40), 3) := by decide +kernel
theorem dX0_runnerIn_45 : decode cX0_runnerIn 45 = .ok (.bipush (-4), 2) := by decide +kernel
theorem dX0_runnerIn_47 : decode cX0_runnerIn 47 = .ok (.ireturn, 1) := by decide +kernel
theorem dX0_depart_0 : decode cX0_depart 0 = .ok (.aload_n 0, 1) := by decide +kernel
theorem dX0_depart_1 : decode cX0_depart 1 = .ok (.getfield 30, 3) := by decide +kernel
theorem dX0_depart_4 : decode cX0_depart 4 = .ok (.iload_n 1, 1) := by decide +kernel
theorem dX0_depart_5 : decode cX0_depart 5 = .ok (.iaload, 1) := by decide +kernel
theorem dX0_depart_6 : decode cX0_depart 6 = .ok (.iconst 1, 1) := by decide +kernel
theorem dX0_depart_7 : decode cX0_depart 7 = .ok (.if_icmp .ge 4, 3) := by decide +kernel
theorem dX0_depart_10 : decode cX0_depart 10 = .ok (.return_, 1) := by decide +kernel
theorem dX0_depart_11 : decode cX0_depart 11 = .ok (.aload_n 0, 1) := by decide +kernel
theorem dX0_depart_12 : decode cX0_depart 12 = .ok (.iload_n 1, 1) := by decide +kernel
theorem dX0_depart_13 : decode cX0_depart 13 = .ok (.aload_n 0, 1) := by decide +kernel
theorem dX0_depart_14 : decode cX0_depart 14 = .ok (.iload_n 1, 1) := by decide +kernel
theorem dX0_depart_15 : decode cX0_depart 15 = .ok (.aload_n 0, 1) := by decide +kernel
theorem dX0_depart_16 : decode cX0_depart 16 = .ok (.getfield 30, 3) := by decide +kernel
theorem dX0_depart_19 : decode cX0_depart 19 = .ok (.iload_n 1, 1) := by decide +kernel
theorem dX0_depart_20 : decode cX0_depart 20 = .ok (.iaload, 1) := by decide +kernel
theorem dX0_depart_21 : decode cX0_depart 21 = .ok (.invokevirtual 77, 3) := by decide +kernel
theorem dX0_depart_24 : decode cX0_depart 24 = .ok (.invokevirtual 84, 3) := by decide +kernel
theorem dX0_depart_27 : decode cX0_depart 27 = .ok (.aload_n 0, 1) := by decide +kernel
theorem dX0_depart_28 : decode cX0_depart 28 = .ok (.getfield 36, 3) := by decide +kernel
theorem dX0_depart_31 : decode cX0_depart 31 = .ok (.iload_n 1, 1) := by decide +kernel
theorem dX0_depart_32 : decode cX0_depart 32 = .ok (.aload_n 0, 1) := by decide +kernel
theorem dX0_depart_33 : decode cX0_depart 33 = .ok (.getfield 61, 3) := by decide +kernel
theorem dX0_depart_36 : decode cX0_depart 36 = .ok (.aload_n 0, 1) := by decide +kernel
theorem dX0_depart_37 : decode cX0_depart 37 = .ok (.getfield 18, 3) := by decide +kernel
theorem dX0_depart_40 : decode cX0_depart 40 = .ok (.aload_n 0, 1) := by decide +kernel
theorem dX0_depart_41 : decode cX0_depart 41 = .ok (.iload_n 1, 1) := by decide +kernel
theorem dX0_depart_42 : decode cX0_depart 42 = .ok (.aload_n 0, 1) := by decide +kernel
theorem dX0_depart_43 : decode cX0_depart 43 = .ok (.getfield 30, 3) := by decide +kernel
theorem dX0_depart_46 : decode cX0_depart 46 = .ok (.iload_n 1, 1) := by decide +kernel
theorem dX0_depart_47 : decode cX0_depart 47 = .ok (.iaload, 1) := by decide +kernel
theorem dX0_depart_48 : decode cX0_depart 48 = .ok (.invokevirtual 81, 3) := by decide +kernel
theorem dX0_depart_51 : decode cX0_depart 51 = .ok (.iaload, 1) := by decide +kernel
theorem dX0_depart_52 : decode cX0_depart 52 = .ok (.iadd, 1) := by decide +kernel
theorem dX0_depart_53 : decode cX0_depart 53 = .ok (.iastore, 1) := by decide +kernel
theorem dX0_depart_54 : decode cX0_depart 54 = .ok (.aload_n 0, 1) := by decide +kernel
theorem dX0_depart_55 : decode cX0_depart 55 = .ok (.getfield 30, 3) := by decide +kernel
theorem dX0_depart_58 : decode cX0_depart 58 = .ok (.iload_n 1, 1) := by decide +kernel
theorem dX0_depart_59 : decode cX0_depart 59 = .ok (.dup2, 1) := by decide +kernel
theorem dX0_depart_60 : decode cX0_depart 60 = .ok (.iaload, 1) := by decide +kernel
theorem dX0_depart_61 : decode cX0_depart 61 = .ok (.iconst 1, 1) := by decide +kernel
theorem dX0_depart_62 : decode cX0_depart 62 = .ok (.isub, 1) := by decide +kernel
theorem dX0_depart_63 : decode cX0_depart 63 = .ok (.iastore, 1) := by decide +kernel
theorem dX0_depart_64 : decode cX0_depart 64 = .ok (.aload_n 0, 1) := by decide +kernel
theorem dX0_depart_65 : decode cX0_depart 65 = .ok (.getfield 33, 3) := by decide +kernel
theorem dX0_depart_68 : decode cX0_depart 68 = .ok (.iload_n 1, 1) := by decide +kernel
theorem dX0_depart_69 : decode cX0_depart 69 = .ok (.iconst 1, 1) := by decide +kernel
theorem dX0_depart_70 : decode cX0_depart 70 = .ok (.iastore, 1) := by decide +kernel
theorem dX0_depart_71 : decode cX0_depart 71 = .ok (.return_, 1) := by decide +kernel
theorem dX0_enterJournal_0 : decode cX0_enterJournal 0 = .ok (.aload_n 0, 1) := by decide +kernel
theorem dX0_enterJournal_1 : decode cX0_enterJournal 1 = .ok (.getfield 64, 3) := by decide +kernel
theorem dX0_enterJournal_4 : decode cX0_enterJournal 4 = .ok (.bipush 60, 2) := by decide +kernel
theorem dX0_enterJournal_6 : decode cX0_enterJournal 6 = .ok (.if_icmp .lt 7, 3) := by decide +kernel
theorem dX0_enterJournal_9 : decode cX0_enterJournal 9 = .ok (.aload_n 0, 1) := by decide +kernel
theorem dX0_enterJournal_10 : decode cX0_enterJournal 10 = .ok (.invokevirtual 88, 3) := by decide +kernel
theorem dX0_enterJournal_13 : decode cX0_enterJournal 13 = .ok (.aload_n 0, 1) := by decide +kernel
theorem dX0_enterJournal_14 : decode cX0_enterJournal 14 = .ok (.getfield 64, 3) := by decide +kernel
theorem dX0_enterJournal_17 : decode cX0_enterJournal 17 = .ok (.istore_n 3, 1) := by decide +kernel
theorem dX0_enterJournal_18 : decode cX0_enterJournal 18 = .ok (.iload_n 3, 1) := by decide +kernel
theorem dX0_enterJournal_19 : decode cX0_enterJournal 19 = .ok (.ifCond .le 78, 3) := by decide +kernel
theorem dX0_enterJournal_22 : decode cX0_enterJournal 22 = .ok (.aload_n 0, 1) := by decide +kernel
theorem dX0_enterJournal_23 : decode cX0_enterJournal 23 = .ok (.getfield 39, 3) := by decide +kernel
theorem dX0_enterJournal_26 : decode cX0_enterJournal 26 = .ok (.iload_n 3, 1) := by decide +kernel
theorem dX0_enterJournal_27 : decode cX0_enterJournal 27 = .ok (.iconst 1, 1) := by decide +kernel
theorem dX0_enterJournal_28 : decode cX0_enterJournal 28 = .ok (.isub, 1) := by decide +kernel
theorem dX0_enterJournal_29 : decode cX0_enterJournal 29 = .ok (.iaload, 1) := by decide +kernel
theorem dX0_enterJournal_30 : decode cX0_enterJournal 30 = .ok (.aload_n 0, 1) := by decide +kernel
theorem dX0_enterJournal_31 : decode cX0_enterJournal 31 = .ok (.getfield 61, 3) := by decide +kernel
theorem dX0_enterJournal_34 : decode cX0_enterJournal 34 = .ok (.if_icmp .ne 63, 3) := by decide +kernel
theorem dX0_enterJournal_37 : decode cX0_enterJournal 37 = .ok (.aload_n 0, 1) := by decide +kernel
theorem dX0_enterJournal_38 : decode cX0_enterJournal 38 = .ok (.getfield 42, 3) := by decide +kernel
theorem dX0_enterJournal_41 : decode cX0_enterJournal 41 = .ok (.iload_n 3, 1) := by decide +kernel
theorem dX0_enterJournal_42 : decode cX0_enterJournal 42 = .ok (.iconst 1, 1) := by decide +kernel
theorem dX0_enterJournal_43 : decode cX0_enterJournal 43 = .ok (.isub, 1) := by decide +kernel
theorem dX0_enterJournal_44 : decode cX0_enterJournal 44 = .ok (.iaload, 1) := by decide +kernel
theorem dX0_enterJournal_45 : decode cX0_enterJournal 45 = .ok (.iload_n 1, 1) := by decide +kernel
theorem dX0_enterJournal_46 : decode cX0_enterJournal 46 = .ok (.if_icmp .le 51, 3) := by decide +kernel
theorem dX0_enterJournal_49 : decode cX0_enterJournal 49 = .ok (.aload_n 0, 1) := by decide +kernel
theorem dX0_enterJournal_50 : decode cX0_enterJournal 50 = .ok (.getfield 39, 3) := by decide +kernel
theorem dX0_enterJournal_53 : decode cX0_enterJournal 53 = .ok (.iload_n 3, 1) := by decide +kernel
theorem dX0_enterJournal_54 : decode cX0_enterJournal 54 = .ok (.aload_n 0, 1) := by decide +kernel
theorem dX0_enterJournal_55 : decode cX0_enterJournal 55 = .ok (.getfield 39, 3) := by decide +kernel
theorem dX0_enterJournal_58 : decode cX0_enterJournal 58 = .ok (.iload_n 3, 1) := by decide +kernel
theorem dX0_enterJournal_59 : decode cX0_enterJournal 59 = .ok (.iconst 1, 1) := by decide +kernel
theorem dX0_enterJournal_60 : decode cX0_enterJournal 60 = .ok (.isub, 1) := by decide +kernel
theorem dX0_enterJournal_61 : decode cX0_enterJournal 61 = .ok (.iaload, 1) := by decide +kernel
theorem dX0_enterJournal_62 : decode cX0_enterJournal 62 = .ok (.iastore, 1) := by decide +kernel
theorem dX0_enterJournal_63 : decode cX0_enterJournal 63 = .ok (.aload_n 0, 1) := by decide +kernel
theorem dX0_enterJournal_64 : decode cX0_enterJournal 64 = .ok (.getfield 42, 3) := by decide +kernel
theorem dX0_enterJournal_67 : decode cX0_enterJournal 67 = .ok (.iload_n 3, 1) := by decide +kernel
theorem dX0_enterJournal_68 : decode cX0_enterJournal 68 = .ok (.aload_n 0, 1) := by decide +kernel
theorem dX0_enterJournal_69 : decode cX0_enterJournal 69 = .ok (.getfield 42, 3) := by decide +kernel
theorem dX0_enterJournal_72 : decode cX0_enterJournal 72 = .ok (.iload_n 3, 1) := by decide +kernel
theorem dX0_enterJournal_73 : decode cX0_enterJournal 73 = .ok (.iconst 1, 1) := by decide +kernel
theorem dX0_enterJournal_74 : decode cX0_enterJournal 74 = .ok (.isub, 1) := by decide +kernel
theorem dX0_enterJournal_75 : decode cX0_enterJournal 75 = .ok (.iaload, 1) := by decide +kernel
theorem dX0_enterJournal_76 : decode cX0_enterJournal 76 = .ok (.iastore, 1) := by decide +kernel
theorem dX0_enterJournal_77 : decode cX0_enterJournal 77 = .ok (.aload_n 0, 1) := by decide +kernel
theorem dX0_enterJournal_78 : decode cX0_enterJournal 78 = .ok (.getfield 45, 3) := by decide +kernel
theorem dX0_enterJournal_81 : decode cX0_enterJournal 81 = .ok (.iload_n 3, 1) := by decide +kernel
theorem dX0_enterJournal_82 : decode cX0_enterJournal 82 = .ok (.aload_n 0, 1) := by decide +kernel
theorem dX0_enterJournal_83 : decode cX0_enterJournal 83 = .ok (.getfield 45, 3) := by decide +kernel
theorem dX0_enterJournal_86 : decode cX0_enterJournal 86 = .ok (.iload_n 3, 1) := by decide +kernel
theorem dX0_enterJournal_87 : decode cX0_enterJournal 87 = .ok (.iconst 1, 1) := by decide +kernel
theorem dX0_enterJournal_88 : decode cX0_enterJournal 88 = .ok (.isub, 1) := by decide +kernel
theorem dX0_enterJournal_89 : decode cX0_enterJournal 89 = .ok (.iaload, 1) := by decide +kernel
theorem dX0_enterJournal_90 : decode cX0_enterJournal 90 = .ok (.iastore, 1) := by decide +kernel
theorem dX0_enterJournal_91 : decode cX0_enterJournal 91 = .ok (.iinc 3 (-1), 3) := by decide +kernel
theorem dX0_enterJournal_94 : decode cX0_enterJournal 94 = .ok (.goto (-76), 3) := by decide +kernel
theorem dX0_enterJournal_97 : decode cX0_enterJournal 97 = .ok (.aload_n 0, 1) := by decide +kernel
theorem dX0_enterJournal_98 : decode cX0_enterJournal 98 = .ok (.getfield 39, 3) := by decide +kernel
theorem dX0_enterJournal_101 : decode cX0_enterJournal 101 = .ok (.iload_n 3, 1) := by decide +kernel
theorem dX0_enterJournal_102 : decode cX0_enterJournal 102 = .ok (.aload_n 0, 1) := by decide +kernel
theorem dX0_enterJournal_103 : decode cX0_enterJournal 103 = .ok (.getfield 61, 3) := by decide +kernel
theorem dX0_enterJournal_106 : decode cX0_enterJournal 106 = .ok (.iastore, 1) := by decide +kernel
theorem dX0_enterJournal_107 : decode cX0_enterJournal 107 = .ok (.aload_n 0, 1) := by decide +kernel
theorem dX0_enterJournal_108 : decode cX0_enterJournal 108 = .ok (.getfield 42, 3) := by decide +kernel
theorem dX0_enterJournal_111 : decode cX0_enterJournal 111 = .ok (.iload_n 3, 1) := by decide +kernel
theorem dX0_enterJournal_112 : decode cX0_enterJournal 112 = .ok (.iload_n 1, 1) := by decide +kernel
theorem dX0_enterJournal_113 : decode cX0_enterJournal 113 = .ok (.iastore, 1) := by decide +kernel
theorem dX0_enterJournal_114 : decode cX0_enterJournal 114 = .ok (.aload_n 0, 1) := by decide +kernel
theorem dX0_enterJournal_115 : decode cX0_enterJournal 115 = .ok (.getfield 45, 3) := by decide +kernel
theorem dX0_enterJournal_118 : decode cX0_enterJournal 118 = .ok (.iload_n 3, 1) := by decide +kernel
theorem dX0_enterJournal_119 : decode cX0_enterJournal 119 = .ok (.iload_n 2, 1) := by decide +kernel
theorem dX0_enterJournal_120 : decode cX0_enterJournal 120 = .ok (.iastore, 1) := by decide +kernel
theorem dX0_enterJournal_121 : decode cX0_enterJournal 121 = .ok (.aload_n 0, 1) := by decide +kernel
theorem dX0_enterJournal_122 : decode cX0_enterJournal 122 = .ok (.dup, 1) := by decide +kernel
theorem dX0_enterJournal_123 : decode cX0_enterJournal 123 = .ok (.getfield 64, 3) := by decide +kernel
theorem dX0_enterJournal_126 : decode cX0_enterJournal 126 = .ok (.iconst 1, 1) := by decide +kernel
theorem dX0_enterJournal_127 : decode cX0_enterJournal 127 = .ok (.iadd, 1) := by decide +kernel
theorem dX0_enterJournal_128 : decode cX0_enterJournal 128 = .ok (.putfield 64, 3) := by decide +kernel
theorem dX0_enterJournal_131 : decode cX0_enterJournal 131 = .ok (.return_, 1) := by decide +kernel
theorem dX0_forgetFirstEntry_0 : decode cX0_forgetFirstEntry 0 = .ok (.aload_n 0, 1) := by decide +kernel
theorem dX0_forgetFirstEntry_1 : decode cX0_forgetFirstEntry 1 = .ok (.dup, 1) := by decide +kernel
theorem dX0_forgetFirstEntry_2 : decode cX0_forgetFirstEntry 2 = .ok (.getfield 64, 3) := by decide +kernel
theorem dX0_forgetFirstEntry_5 : decode cX0_forgetFirstEntry 5 = .ok (.iconst 1, 1) := by decide +kernel
theorem dX0_forgetFirstEntry_6 : decode cX0_forgetFirstEntry 6 = .ok (.isub, 1) := by decide +kernel
theorem dX0_forgetFirstEntry_7 : decode cX0_forgetFirstEntry 7 = .ok (.putfield 64, 3) := by decide +kernel
theorem dX0_forgetFirstEntry_10 : decode cX0_forgetFirstEntry 10 = .ok (.aload_n 0, 1) := by decide +kernel
theorem dX0_forgetFirstEntry_11 : decode cX0_forgetFirstEntry 11 = .ok (.getfield 39, 3) := by decide +kernel
theorem dX0_forgetFirstEntry_14 : decode cX0_forgetFirstEntry 14 = .ok (.iconst 1, 1) := by decide +kernel
theorem dX0_forgetFirstEntry_15 : decode cX0_forgetFirstEntry 15 = .ok (.aload_n 0, 1) := by decide +kernel
theorem dX0_forgetFirstEntry_16 : decode cX0_forgetFirstEntry 16 = .ok (.getfield 39, 3) := by decide +kernel
theorem dX0_forgetFirstEntry_19 : decode cX0_forgetFirstEntry 19 = .ok (.iconst 0, 1) := by decide +kernel
theorem dX0_forgetFirstEntry_20 : decode cX0_forgetFirstEntry 20 = .ok (.aload_n 0, 1) := by decide +kernel
theorem dX0_forgetFirstEntry_21 : decode cX0_forgetFirstEntry 21 = .ok (.getfield 64, 3) := by decide +kernel
theorem dX0_forgetFirstEntry_24 : decode cX0_forgetFirstEntry 24 = .ok (.invokestatic 52, 3) := by decide +kernel
theorem dX0_forgetFirstEntry_27 : decode cX0_forgetFirstEntry 27 = .ok (.aload_n 0, 1) := by decide +kernel
theorem dX0_forgetFirstEntry_28 : decode cX0_forgetFirstEntry 28 = .ok (.getfield 42, 3) := by decide +kernel
theorem dX0_forgetFirstEntry_31 : decode cX0_forgetFirstEntry 31 = .ok (.iconst 1, 1) := by decide +kernel
theorem dX0_forgetFirstEntry_32 : decode cX0_forgetFirstEntry 32 = .ok (.aload_n 0, 1) := by decide +kernel
theorem dX0_forgetFirstEntry_33 : decode cX0_forgetFirstEntry 33 = .ok (.getfield 42, 3) := by decide +kernel
theorem dX0_forgetFirstEntry_36 : decode cX0_forgetFirstEntry 36 = .ok (.iconst 0, 1) := by decide +kernel
theorem dX0_forgetFirstEntry_37 : decode cX0_forgetFirstEntry 37 = .ok (.aload_n 0, 1) := by decide +kernel
theorem dX0_forgetFirstEntry_38 : decode cX0_forgetFirstEntry 38 = .ok (.getfield 64, 3) := by decide +kernel
theorem dX0_forgetFirstEntry_41 : decode cX0_forgetFirstEntry 41 = .ok (.invokestatic 52, 3) := by decide +kernel
theorem dX0_forgetFirstEntry_44 : decode cX0_forgetFirstEntry 44 = .ok (.aload_n 0, 1) := by decide +kernel
theorem dX0_forgetFirstEntry_45 : decode cX0_forgetFirstEntry 45 = .ok (.getfield 45, 3) := by decide +kernel
theorem dX0_forgetFirstEntry_48 : decode cX0_forgetFirstEntry 48 = .ok (.iconst 1, 1) := by decide +kernel
theorem dX0_forgetFirstEntry_49 : decode cX0_forgetFirstEntry 49 = .ok (.aload_n 0, 1) := by decide +kernel
theorem dX0_forgetFirstEntry_50 : decode cX0_forgetFirstEntry 50 = .ok (.getfield 45, 3) := by decide +kernel
theorem dX0_forgetFirstEntry_53 : decode cX0_forgetFirstEntry 53 = .ok (.iconst 0, 1) := by decide +kernel
theorem dX0_forgetFirstEntry_54 : decode cX0_forgetFirstEntry 54 = .ok (.aload_n 0, 1) := by decide +kernel
theorem dX0_forgetFirstEntry_55 : decode cX0_forgetFirstEntry 55 = .ok (.getfield 64, 3) := by decide +kernel
theorem dX0_forgetFirstEntry_58 : decode cX0_forgetFirstEntry 58 = .ok (.invokestatic 52, 3) := by decide +kernel
theorem dX0_forgetFirstEntry_61 : decode cX0_forgetFirstEntry 61 = .ok (.return_, 1) := by decide +kernel
theorem dX0_passTime_0 : decode cX0_passTime 0 = .ok (.aload_n 0, 1) := by decide +kernel
theorem dX0_passTime_1 : decode cX0_passTime 1 = .ok (.dup, 1) := by decide +kernel
theorem dX0_passTime_2 : decode cX0_passTime 2 = .ok (.getfield 61, 3) := by decide +kernel
theorem dX0_passTime_5 : decode cX0_passTime 5 = .ok (.iload_n 1, 1) := by decide +kernel
theorem dX0_passTime_6 : decode cX0_passTime 6 = .ok (.iadd, 1) := by decide +kernel
theorem dX0_passTime_7 : decode cX0_passTime 7 = .ok (.putfield 61, 3) := by decide +kernel
theorem dX0_passTime_10 : decode cX0_passTime 10 = .ok (.iconst 0, 1) := by decide +kernel
theorem dX0_passTime_11 : decode cX0_passTime 11 = .ok (.istore_n 2, 1) := by decide +kernel
theorem dX0_passTime_12 : decode cX0_passTime 12 = .ok (.iconst 0, 1) := by decide +kernel
theorem dX0_passTime_13 : decode cX0_passTime 13 = .ok (.istore_n 3, 1) := by decide +kernel
theorem dX0_passTime_14 : decode cX0_passTime 14 = .ok (.iload_n 3, 1) := by decide +kernel
theorem dX0_passTime_15 : decode cX0_passTime 15 = .ok (.aload_n 0, 1) := by decide +kernel
theorem dX0_passTime_16 : decode cX0_passTime 16 = .ok (.getfield 58, 3) := by decide +kernel
theorem dX0_passTime_19 : decode cX0_passTime 19 = .ok (.if_icmp .ge 55, 3) := by decide +kernel
theorem dX0_passTime_22 : decode cX0_passTime 22 = .ok (.aload_n 0, 1) := by decide +kernel
theorem dX0_passTime_23 : decode cX0_passTime 23 = .ok (.getfield 33, 3) := by decide +kernel
theorem dX0_passTime_26 : decode cX0_passTime 26 = .ok (.iload_n 3, 1) := by decide +kernel
theorem dX0_passTime_27 : decode cX0_passTime 27 = .ok (.iaload, 1) := by decide +kernel
theorem dX0_passTime_28 : decode cX0_passTime 28 = .ok (.iconst 1, 1) := by decide +kernel
theorem dX0_passTime_29 : decode cX0_passTime 29 = .ok (.if_icmp .ne 39, 3) := by decide +kernel
theorem dX0_passTime_32 : decode cX0_passTime 32 = .ok (.aload_n 0, 1) := by decide +kernel
theorem dX0_passTime_33 : decode cX0_passTime 33 = .ok (.getfield 36, 3) := by decide +kernel
theorem dX0_passTime_36 : decode cX0_passTime 36 = .ok (.iload_n 3, 1) := by decide +kernel
theorem dX0_passTime_37 : decode cX0_passTime 37 = .ok (.iaload, 1) := by decide +kernel
theorem dX0_passTime_38 : decode cX0_passTime 38 = .ok (.aload_n 0, 1) := by decide +kernel
theorem dX0_passTime_39 : decode cX0_passTime 39 = .ok (.getfield 61, 3) := by decide +kernel
theorem dX0_passTime_42 : decode cX0_passTime 42 = .ok (.if_icmp .gt 26, 3) := by decide +kernel
theorem dX0_passTime_45 : decode cX0_passTime 45 = .ok (.aload_n 0, 1) := by decide +kernel
theorem dX0_passTime_46 : decode cX0_passTime 46 = .ok (.getfield 33, 3) := by decide +kernel
theorem dX0_passTime_49 : decode cX0_passTime 49 = .ok (.iload_n 3, 1) := by decide +kernel
theorem dX0_passTime_50 : decode cX0_passTime 50 = .ok (.aload_n 0, 1) := by decide +kernel
theorem dX0_passTime_51 : decode cX0_passTime 51 = .ok (.getfield 30, 3) := by decide +kernel
theorem dX0_passTime_54 : decode cX0_passTime 54 = .ok (.iload_n 3, 1) := by decide +kernel
theorem dX0_passTime_55 : decode cX0_passTime 55 = .ok (.iaload, 1) := by decide +kernel
theorem dX0_passTime_56 : decode cX0_passTime 56 = .ok (.ifCond .ne 7, 3) := by decide +kernel
theorem dX0_passTime_59 : decode cX0_passTime 59 = .ok (.iconst 2, 1) := by decide +kernel
theorem dX0_passTime_60 : decode cX0_passTime 60 = .ok (.goto 4, 3) := by decide +kernel
theorem dX0_passTime_63 : decode cX0_passTime 63 = .ok (.iconst 0, 1) := by decide +kernel
theorem dX0_passTime_64 : decode cX0_passTime 64 = .ok (.iastore, 1) := by decide +kernel
theorem dX0_passTime_65 : decode cX0_passTime 65 = .ok (.iinc 2 1, 3) := by decide +kernel
theorem dX0_passTime_68 : decode cX0_passTime 68 = .ok (.iinc 3 1, 3) := by decide +kernel
theorem dX0_passTime_71 : decode cX0_passTime 71 = .ok (.goto (-57), 3) := by decide +kernel
theorem dX0_passTime_74 : decode cX0_passTime 74 = .ok (.iload_n 2, 1) := by decide +kernel
theorem dX0_passTime_75 : decode cX0_passTime 75 = .ok (.ireturn, 1) := by decide +kernel
theorem dX0_latestEnd_0 : decode cX0_latestEnd 0 = .ok (.iconst 0, 1) := by decide +kernel
theorem dX0_latestEnd_1 : decode cX0_latestEnd 1 = .ok (.istore_n 1, 1) := by decide +kernel
theorem dX0_latestEnd_2 : decode cX0_latestEnd 2 = .ok (.iconst 0, 1) := by decide +kernel
theorem dX0_latestEnd_3 : decode cX0_latestEnd 3 = .ok (.istore_n 2, 1) := by decide +kernel
theorem dX0_latestEnd_4 : decode cX0_latestEnd 4 = .ok (.iload_n 2, 1) := by decide +kernel
theorem dX0_latestEnd_5 : decode cX0_latestEnd 5 = .ok (.aload_n 0, 1) := by decide +kernel
theorem dX0_latestEnd_6 : decode cX0_latestEnd 6 = .ok (.getfield 58, 3) := by decide +kernel
theorem dX0_latestEnd_9 : decode cX0_latestEnd 9 = .ok (.if_icmp .ge 20, 3) := by decide +kernel
theorem dX0_latestEnd_12 : decode cX0_latestEnd 12 = .ok (.iload_n 1, 1) := by decide +kernel
theorem dX0_latestEnd_13 : decode cX0_latestEnd 13 = .ok (.aload_n 0, 1) := by decide +kernel
theorem dX0_latestEnd_14 : decode cX0_latestEnd 14 = .ok (.getfield 36, 3) := by decide +kernel
theorem dX0_latestEnd_17 : decode cX0_latestEnd 17 = .ok (.iload_n 2, 1) := by decide +kernel
theorem dX0_latestEnd_18 : decode cX0_latestEnd 18 = .ok (.iaload, 1) := by decide +kernel
theorem dX0_latestEnd_19 : decode cX0_latestEnd 19 = .ok (.invokestatic 91, 3) := by decide +kernel
theorem dX0_latestEnd_22 : decode cX0_latestEnd 22 = .ok (.istore_n 1, 1) := by decide +kernel
theorem dX0_latestEnd_23 : decode cX0_latestEnd 23 = .ok (.iinc 2 1, 3) := by decide +kernel
theorem dX0_latestEnd_26 : decode cX0_latestEnd 26 = .ok (.goto (-22), 3) := by decide +kernel
theorem dX0_latestEnd_29 : decode cX0_latestEnd 29 = .ok (.iload_n 1, 1) := by decide +kernel
theorem dX0_latestEnd_30 : decode cX0_latestEnd 30 = .ok (.ireturn, 1) := by decide +kernel
theorem dX0_waitForNext_0 : decode cX0_waitForNext 0 = .ok (.iconst 0, 1) := by decide +kernel
theorem dX0_waitForNext_1 : decode cX0_waitForNext 1 = .ok (.istore_n 1, 1) := by decide +kernel
theorem dX0_waitForNext_2 : decode cX0_waitForNext 2 = .ok (.iconst 0, 1) := by decide +kernel
theorem dX0_waitForNext_3 : decode cX0_waitForNext 3 = .ok (.istore_n 2, 1) := by decide +kernel
theorem dX0_waitForNext_4 : decode cX0_waitForNext 4 = .ok (.iload_n 2, 1) := by decide +kernel
theorem dX0_waitForNext_5 : decode cX0_waitForNext 5 = .ok (.aload_n 0, 1) := by decide +kernel
theorem dX0_waitForNext_6 : decode cX0_waitForNext 6 = .ok (.getfield 58, 3) := by decide +kernel
theorem dX0_waitForNext_9 : decode cX0_waitForNext 9 = .ok (.if_icmp .ge 50, 3) := by decide +kernel
theorem dX0_waitForNext_12 : decode cX0_waitForNext 12 = .ok (.aload_n 0, 1) := by decide +kernel
theorem dX0_waitForNext_13 : decode cX0_waitForNext 13 = .ok (.getfield 33, 3) := by decide +kernel
theorem dX0_waitForNext_16 : decode cX0_waitForNext 16 = .ok (.iload_n 2, 1) := by decide +kernel
theorem dX0_waitForNext_17 : decode cX0_waitForNext 17 = .ok (.iaload, 1) := by decide +kernel
theorem dX0_waitForNext_18 : decode cX0_waitForNext 18 = .ok (.iconst 1, 1) := by decide +kernel
theorem dX0_waitForNext_19 : decode cX0_waitForNext 19 = .ok (.if_icmp .ne 34, 3) := by decide +kernel
theorem dX0_waitForNext_22 : decode cX0_waitForNext 22 = .ok (.iload_n 1, 1) := by decide +kernel
theorem dX0_waitForNext_23 : decode cX0_waitForNext 23 = .ok (.ifCond .eq 18, 3) := by decide +kernel
theorem dX0_waitForNext_26 : decode cX0_waitForNext 26 = .ok (.aload_n 0, 1) := by decide +kernel
theorem dX0_waitForNext_27 : decode cX0_waitForNext 27 = .ok (.getfield 36, 3) := by decide +kernel
theorem dX0_waitForNext_30 : decode cX0_waitForNext 30 = .ok (.iload_n 2, 1) := by decide +kernel
theorem dX0_waitForNext_31 : decode cX0_waitForNext 31 = .ok (.iaload, 1) := by decide +kernel
theorem dX0_waitForNext_32 : decode cX0_waitForNext 32 = .ok (.aload_n 0, 1) := by decide +kernel
theorem dX0_waitForNext_33 : decode cX0_waitForNext 33 = .ok (.getfield 61, 3) := by decide +kernel
theorem dX0_waitForNext_36 : decode cX0_waitForNext 36 = .ok (.isub, 1) := by decide +kernel
theorem dX0_waitForNext_37 : decode cX0_waitForNext 37 = .ok (.iload_n 1, 1) := by decide +kernel
theorem dX0_waitForNext_38 : decode cX0_waitForNext 38 = .ok (.if_icmp .ge 15, 3) := by decide +kernel
theorem dX0_waitForNext_41 : decode cX0_waitForNext 41 = .ok (.aload_n 0, 1) := by decide +kernel
theorem dX0_waitForNext_42 : decode cX0_waitForNext 42 = .ok (.getfield 36, 3) := by decide +kernel
theorem dX0_waitForNext_45 : decode cX0_waitForNext 45 = .ok (.iload_n 2, 1) := by decide +kernel
theorem dX0_waitForNext_46 : decode cX0_waitForNext 46 = .ok (.iaload, 1) := by decide +kernel
theorem dX0_waitForNext_47 : decode cX0_waitForNext 47 = .ok (.aload_n 0, 1) := by decide +kernel
theorem dX0_waitForNext_48 : decode cX0_waitForNext 48 = .ok (.getfield 61, 3) := by decide +kernel
theorem dX0_waitForNext_51 : decode cX0_waitForNext 51 = .ok (.isub, 1) := by decide +kernel
theorem dX0_waitForNext_52 : decode cX0_waitForNext 52 = .ok (.istore_n 1, 1) := by decide +kernel
theorem dX0_waitForNext_53 : decode cX0_waitForNext 53 = .ok (.iinc 2 1, 3) := by decide +kernel
theorem dX0_waitForNext_56 : decode cX0_waitForNext 56 = .ok (.goto (-52), 3) := by decide +kernel
theorem dX0_waitForNext_59 : decode cX0_waitForNext 59 = .ok (.iload_n 1, 1) := by decide +kernel
theorem dX0_waitForNext_60 : decode cX0_waitForNext 60 = .ok (.ireturn, 1) := by decide +kernel
end
