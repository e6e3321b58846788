section
-- ===== PART A: goes FIRST, ahead of the names: the tables' words, and 'selects' of the private methods out of them =====
/-- a private method of a class that the tables say can be made, by its rows of tables_1 -/
def lw_okq (q : MethodName × Nat) : Prop := (q.1.cls ≠ "java/lang/invoke/MethodHandle" ∧ q.1.cls ≠ "java/lang/invoke/VarHandle") ∧ Cond.instantiable q.1.cls q.2 ∈ tables_1 ∧ Cond.privateMethod q.1 ∈ tables_1 ∧ Cond.instanceMethod q.1 ∈ tables_1
theorem lw_p0 : lw_okq (⟨"ReadGraph", "forgetGraph", "()V"⟩, 3) := ⟨⟨by decide +kernel, by decide +kernel⟩, List.mem_of_getElem? (i := 16) (by decide +kernel), List.mem_of_getElem? (i := 138) (by decide +kernel), List.mem_of_getElem? (i := 139) (by decide +kernel)⟩
theorem lw_p1 : lw_okq (⟨"ReadGraph$Edges", "forget", "()V"⟩, 11) := ⟨⟨by decide +kernel, by decide +kernel⟩, List.mem_of_getElem? (i := 44) (by decide +kernel), List.mem_of_getElem? (i := 142) (by decide +kernel), List.mem_of_getElem? (i := 143) (by decide +kernel)⟩
theorem lw_p2 : lw_okq (⟨"ReadGraph$Edges", "shape", "()I"⟩, 11) := ⟨⟨by decide +kernel, by decide +kernel⟩, List.mem_of_getElem? (i := 44) (by decide +kernel), List.mem_of_getElem? (i := 154) (by decide +kernel), List.mem_of_getElem? (i := 155) (by decide +kernel)⟩
theorem lw_p3 : lw_okq (⟨"java/lang/Throwable", "fillInStackTrace", "(I)Ljava/lang/Throwable;"⟩, 6) := ⟨⟨by decide +kernel, by decide +kernel⟩, List.mem_of_getElem? (i := 215) (by decide +kernel), List.mem_of_getElem? (i := 213) (by decide +kernel), List.mem_of_getElem? (i := 214) (by decide +kernel)⟩
theorem lw_p4 : lw_okq (⟨"ReadGraph$Reads", "add", "(II)I"⟩, 3) := ⟨⟨by decide +kernel, by decide +kernel⟩, List.mem_of_getElem? (i := 24) (by decide +kernel), List.mem_of_getElem? (i := 261) (by decide +kernel), List.mem_of_getElem? (i := 262) (by decide +kernel)⟩
theorem lw_p5 : lw_okq (⟨"ReadGraph$Reads", "has", "(I)Z"⟩, 3) := ⟨⟨by decide +kernel, by decide +kernel⟩, List.mem_of_getElem? (i := 24) (by decide +kernel), List.mem_of_getElem? (i := 276) (by decide +kernel), List.mem_of_getElem? (i := 277) (by decide +kernel)⟩
theorem lw_p6 : lw_okq (⟨"ReadGraph$Reads", "letterAt", "(II)I"⟩, 3) := ⟨⟨by decide +kernel, by decide +kernel⟩, List.mem_of_getElem? (i := 24) (by decide +kernel), List.mem_of_getElem? (i := 297) (by decide +kernel), List.mem_of_getElem? (i := 298) (by decide +kernel)⟩
theorem lw_p7 : lw_okq (⟨"ReadGraph$Reads", "isNode", "(I)Z"⟩, 3) := ⟨⟨by decide +kernel, by decide +kernel⟩, List.mem_of_getElem? (i := 24) (by decide +kernel), List.mem_of_getElem? (i := 308) (by decide +kernel), List.mem_of_getElem? (i := 309) (by decide +kernel)⟩
theorem lw_p8 : lw_okq (⟨"ReadGraph$Reads", "isSaidBy", "(II)Z"⟩, 3) := ⟨⟨by decide +kernel, by decide +kernel⟩, List.mem_of_getElem? (i := 24) (by decide +kernel), List.mem_of_getElem? (i := 313) (by decide +kernel), List.mem_of_getElem? (i := 314) (by decide +kernel)⟩
theorem lw_p9 : lw_okq (⟨"ReadGraph$Reads", "lettersShared", "(III)I"⟩, 3) := ⟨⟨by decide +kernel, by decide +kernel⟩, List.mem_of_getElem? (i := 24) (by decide +kernel), List.mem_of_getElem? (i := 329) (by decide +kernel), List.mem_of_getElem? (i := 330) (by decide +kernel)⟩
theorem lw_p10 : lw_okq (⟨"ReadGraph$Edges", "make", "(LReadGraph$Reads;I)V"⟩, 11) := ⟨⟨by decide +kernel, by decide +kernel⟩, List.mem_of_getElem? (i := 44) (by decide +kernel), List.mem_of_getElem? (i := 343) (by decide +kernel), List.mem_of_getElem? (i := 344) (by decide +kernel)⟩
theorem lw_p11 : lw_okq (⟨"ReadGraph$Edges", "findNodes", "(LReadGraph$Reads;)V"⟩, 11) := ⟨⟨by decide +kernel, by decide +kernel⟩, List.mem_of_getElem? (i := 44) (by decide +kernel), List.mem_of_getElem? (i := 347) (by decide +kernel), List.mem_of_getElem? (i := 348) (by decide +kernel)⟩
theorem lw_p12 : lw_okq (⟨"ReadGraph$Edges", "layAll", "(LReadGraph$Reads;I)V"⟩, 11) := ⟨⟨by decide +kernel, by decide +kernel⟩, List.mem_of_getElem? (i := 44) (by decide +kernel), List.mem_of_getElem? (i := 352) (by decide +kernel), List.mem_of_getElem? (i := 353) (by decide +kernel)⟩
theorem lw_p13 : lw_okq (⟨"ReadGraph$Edges", "keepUnsaid", "(I)V"⟩, 11) := ⟨⟨by decide +kernel, by decide +kernel⟩, List.mem_of_getElem? (i := 44) (by decide +kernel), List.mem_of_getElem? (i := 357) (by decide +kernel), List.mem_of_getElem? (i := 358) (by decide +kernel)⟩
theorem lw_p14 : lw_okq (⟨"ReadGraph$Edges", "isSaid", "(III)Z"⟩, 11) := ⟨⟨by decide +kernel, by decide +kernel⟩, List.mem_of_getElem? (i := 44) (by decide +kernel), List.mem_of_getElem? (i := 361) (by decide +kernel), List.mem_of_getElem? (i := 362) (by decide +kernel)⟩
theorem lw_p15 : lw_okq (⟨"ReadGraph$Edges", "findReached", "()V"⟩, 11) := ⟨⟨by decide +kernel, by decide +kernel⟩, List.mem_of_getElem? (i := 44) (by decide +kernel), List.mem_of_getElem? (i := 365) (by decide +kernel), List.mem_of_getElem? (i := 366) (by decide +kernel)⟩
def lw_privs_1 : List (MethodName × Nat) := [(⟨"ReadGraph", "forgetGraph", "()V"⟩, 3), (⟨"ReadGraph$Edges", "forget", "()V"⟩, 11), (⟨"ReadGraph$Edges", "shape", "()I"⟩, 11), (⟨"java/lang/Throwable", "fillInStackTrace", "(I)Ljava/lang/Throwable;"⟩, 6), (⟨"ReadGraph$Reads", "add", "(II)I"⟩, 3), (⟨"ReadGraph$Reads", "has", "(I)Z"⟩, 3), (⟨"ReadGraph$Reads", "letterAt", "(II)I"⟩, 3), (⟨"ReadGraph$Reads", "isNode", "(I)Z"⟩, 3), (⟨"ReadGraph$Reads", "isSaidBy", "(II)Z"⟩, 3), (⟨"ReadGraph$Reads", "lettersShared", "(III)I"⟩, 3), (⟨"ReadGraph$Edges", "make", "(LReadGraph$Reads;I)V"⟩, 11), (⟨"ReadGraph$Edges", "findNodes", "(LReadGraph$Reads;)V"⟩, 11), (⟨"ReadGraph$Edges", "layAll", "(LReadGraph$Reads;I)V"⟩, 11), (⟨"ReadGraph$Edges", "keepUnsaid", "(I)V"⟩, 11), (⟨"ReadGraph$Edges", "isSaid", "(III)Z"⟩, 11), (⟨"ReadGraph$Edges", "findReached", "()V"⟩, 11)]
theorem lw_r1 : ∀ q ∈ lw_privs_1, lw_okq q := List.forall_mem_cons.mpr ⟨lw_p0, List.forall_mem_cons.mpr ⟨lw_p1, List.forall_mem_cons.mpr ⟨lw_p2, List.forall_mem_cons.mpr ⟨lw_p3, List.forall_mem_cons.mpr ⟨lw_p4, List.forall_mem_cons.mpr ⟨lw_p5, List.forall_mem_cons.mpr ⟨lw_p6, List.forall_mem_cons.mpr ⟨lw_p7, List.forall_mem_cons.mpr ⟨lw_p8, List.forall_mem_cons.mpr ⟨lw_p9, List.forall_mem_cons.mpr ⟨lw_p10, List.forall_mem_cons.mpr ⟨lw_p11, List.forall_mem_cons.mpr ⟨lw_p12, List.forall_mem_cons.mpr ⟨lw_p13, List.forall_mem_cons.mpr ⟨lw_p14, List.forall_mem_cons.mpr ⟨lw_p15, fun _ h => absurd h List.not_mem_nil⟩⟩⟩⟩⟩⟩⟩⟩⟩⟩⟩⟩⟩⟩⟩⟩
theorem lw_p16 : lw_okq (⟨"ReadGraph$Edges", "has", "(I)Z"⟩, 11) := ⟨⟨by decide +kernel, by decide +kernel⟩, List.mem_of_getElem? (i := 44) (by decide +kernel), List.mem_of_getElem? (i := 378) (by decide +kernel), List.mem_of_getElem? (i := 379) (by decide +kernel)⟩
theorem lw_p17 : lw_okq (⟨"ReadGraph", "isPackedWalk", "(JI)Z"⟩, 3) := ⟨⟨by decide +kernel, by decide +kernel⟩, List.mem_of_getElem? (i := 16) (by decide +kernel), List.mem_of_getElem? (i := 415) (by decide +kernel), List.mem_of_getElem? (i := 416) (by decide +kernel)⟩
theorem lw_p18 : lw_okq (⟨"ReadGraph", "isPackedWalkSafe", "(JI)Z"⟩, 3) := ⟨⟨by decide +kernel, by decide +kernel⟩, List.mem_of_getElem? (i := 16) (by decide +kernel), List.mem_of_getElem? (i := 423) (by decide +kernel), List.mem_of_getElem? (i := 424) (by decide +kernel)⟩
theorem lw_p19 : lw_okq (⟨"ReadGraph$Edges", "isPassedBy", "(II)Z"⟩, 11) := ⟨⟨by decide +kernel, by decide +kernel⟩, List.mem_of_getElem? (i := 44) (by decide +kernel), List.mem_of_getElem? (i := 427) (by decide +kernel), List.mem_of_getElem? (i := 428) (by decide +kernel)⟩
theorem lw_p20 : lw_okq (⟨"ReadGraph$Walks", "find", "()Z"⟩, 7) := ⟨⟨by decide +kernel, by decide +kernel⟩, List.mem_of_getElem? (i := 94) (by decide +kernel), List.mem_of_getElem? (i := 438) (by decide +kernel), List.mem_of_getElem? (i := 439) (by decide +kernel)⟩
theorem lw_p21 : lw_okq (⟨"ReadGraph$Walks", "stepOn", "(I)V"⟩, 7) := ⟨⟨by decide +kernel, by decide +kernel⟩, List.mem_of_getElem? (i := 94) (by decide +kernel), List.mem_of_getElem? (i := 443) (by decide +kernel), List.mem_of_getElem? (i := 444) (by decide +kernel)⟩
theorem lw_p22 : lw_okq (⟨"ReadGraph$Walks", "findFrom", "(I)I"⟩, 7) := ⟨⟨by decide +kernel, by decide +kernel⟩, List.mem_of_getElem? (i := 94) (by decide +kernel), List.mem_of_getElem? (i := 447) (by decide +kernel), List.mem_of_getElem? (i := 448) (by decide +kernel)⟩
theorem lw_p23 : lw_okq (⟨"ReadGraph$Walks", "nextBehind", "()I"⟩, 7) := ⟨⟨by decide +kernel, by decide +kernel⟩, List.mem_of_getElem? (i := 94) (by decide +kernel), List.mem_of_getElem? (i := 451) (by decide +kernel), List.mem_of_getElem? (i := 452) (by decide +kernel)⟩
theorem lw_p24 : lw_okq (⟨"ReadGraph$Walks", "staysSafeBehind", "(I)Z"⟩, 7) := ⟨⟨by decide +kernel, by decide +kernel⟩, List.mem_of_getElem? (i := 94) (by decide +kernel), List.mem_of_getElem? (i := 455) (by decide +kernel), List.mem_of_getElem? (i := 456) (by decide +kernel)⟩
theorem lw_p25 : lw_okq (⟨"ReadGraph$Walks", "hasBefore", "()Z"⟩, 7) := ⟨⟨by decide +kernel, by decide +kernel⟩, List.mem_of_getElem? (i := 94) (by decide +kernel), List.mem_of_getElem? (i := 460) (by decide +kernel), List.mem_of_getElem? (i := 461) (by decide +kernel)⟩
theorem lw_p26 : lw_okq (⟨"ReadGraph$Walks", "staysSafeBefore", "(I)Z"⟩, 7) := ⟨⟨by decide +kernel, by decide +kernel⟩, List.mem_of_getElem? (i := 94) (by decide +kernel), List.mem_of_getElem? (i := 464) (by decide +kernel), List.mem_of_getElem? (i := 465) (by decide +kernel)⟩
theorem lw_p27 : lw_okq (⟨"ReadGraph$Walks", "keepTrail", "()Z"⟩, 7) := ⟨⟨by decide +kernel, by decide +kernel⟩, List.mem_of_getElem? (i := 94) (by decide +kernel), List.mem_of_getElem? (i := 468) (by decide +kernel), List.mem_of_getElem? (i := 469) (by decide +kernel)⟩
theorem lw_p28 : lw_okq (⟨"ReadGraph$Walks", "has", "(I)Z"⟩, 7) := ⟨⟨by decide +kernel, by decide +kernel⟩, List.mem_of_getElem? (i := 94) (by decide +kernel), List.mem_of_getElem? (i := 480) (by decide +kernel), List.mem_of_getElem? (i := 481) (by decide +kernel)⟩
theorem lw_p29 : lw_okq (⟨"ReadGraph$Walks", "edgeAt", "(II)I"⟩, 7) := ⟨⟨by decide +kernel, by decide +kernel⟩, List.mem_of_getElem? (i := 94) (by decide +kernel), List.mem_of_getElem? (i := 485) (by decide +kernel), List.mem_of_getElem? (i := 486) (by decide +kernel)⟩
theorem lw_p30 : lw_okq (⟨"ReadGraph", "spelledLength", "(I)I"⟩, 3) := ⟨⟨by decide +kernel, by decide +kernel⟩, List.mem_of_getElem? (i := 16) (by decide +kernel), List.mem_of_getElem? (i := 496) (by decide +kernel), List.mem_of_getElem? (i := 497) (by decide +kernel)⟩
theorem lw_p31 : lw_okq (⟨"ReadGraph", "spelledLetter", "(II)I"⟩, 3) := ⟨⟨by decide +kernel, by decide +kernel⟩, List.mem_of_getElem? (i := 16) (by decide +kernel), List.mem_of_getElem? (i := 500) (by decide +kernel), List.mem_of_getElem? (i := 501) (by decide +kernel)⟩
def lw_privs_2 : List (MethodName × Nat) := [(⟨"ReadGraph$Edges", "has", "(I)Z"⟩, 11), (⟨"ReadGraph", "isPackedWalk", "(JI)Z"⟩, 3), (⟨"ReadGraph", "isPackedWalkSafe", "(JI)Z"⟩, 3), (⟨"ReadGraph$Edges", "isPassedBy", "(II)Z"⟩, 11), (⟨"ReadGraph$Walks", "find", "()Z"⟩, 7), (⟨"ReadGraph$Walks", "stepOn", "(I)V"⟩, 7), (⟨"ReadGraph$Walks", "findFrom", "(I)I"⟩, 7), (⟨"ReadGraph$Walks", "nextBehind", "()I"⟩, 7), (⟨"ReadGraph$Walks", "staysSafeBehind", "(I)Z"⟩, 7), (⟨"ReadGraph$Walks", "hasBefore", "()Z"⟩, 7), (⟨"ReadGraph$Walks", "staysSafeBefore", "(I)Z"⟩, 7), (⟨"ReadGraph$Walks", "keepTrail", "()Z"⟩, 7), (⟨"ReadGraph$Walks", "has", "(I)Z"⟩, 7), (⟨"ReadGraph$Walks", "edgeAt", "(II)I"⟩, 7), (⟨"ReadGraph", "spelledLength", "(I)I"⟩, 3), (⟨"ReadGraph", "spelledLetter", "(II)I"⟩, 3)]
theorem lw_r2 : ∀ q ∈ lw_privs_2, lw_okq q := List.forall_mem_cons.mpr ⟨lw_p16, List.forall_mem_cons.mpr ⟨lw_p17, List.forall_mem_cons.mpr ⟨lw_p18, List.forall_mem_cons.mpr ⟨lw_p19, List.forall_mem_cons.mpr ⟨lw_p20, List.forall_mem_cons.mpr ⟨lw_p21, List.forall_mem_cons.mpr ⟨lw_p22, List.forall_mem_cons.mpr ⟨lw_p23, List.forall_mem_cons.mpr ⟨lw_p24, List.forall_mem_cons.mpr ⟨lw_p25, List.forall_mem_cons.mpr ⟨lw_p26, List.forall_mem_cons.mpr ⟨lw_p27, List.forall_mem_cons.mpr ⟨lw_p28, List.forall_mem_cons.mpr ⟨lw_p29, List.forall_mem_cons.mpr ⟨lw_p30, List.forall_mem_cons.mpr ⟨lw_p31, fun _ h => absurd h List.not_mem_nil⟩⟩⟩⟩⟩⟩⟩⟩⟩⟩⟩⟩⟩⟩⟩⟩
theorem lw_p32 : lw_okq (⟨"ReadGraphModel", "throwing", "(ZZ)Z"⟩, 20) := ⟨⟨by decide +kernel, by decide +kernel⟩, List.mem_of_getElem? (i := 504) (by decide +kernel), List.mem_of_getElem? (i := 583) (by decide +kernel), List.mem_of_getElem? (i := 584) (by decide +kernel)⟩
theorem lw_p33 : lw_okq (⟨"ReadGraphModel", "again", "()V"⟩, 20) := ⟨⟨by decide +kernel, by decide +kernel⟩, List.mem_of_getElem? (i := 504) (by decide +kernel), List.mem_of_getElem? (i := 587) (by decide +kernel), List.mem_of_getElem? (i := 588) (by decide +kernel)⟩
theorem lw_p34 : lw_okq (⟨"ReadGraphModel", "isIn", "(II)Z"⟩, 20) := ⟨⟨by decide +kernel, by decide +kernel⟩, List.mem_of_getElem? (i := 504) (by decide +kernel), List.mem_of_getElem? (i := 591) (by decide +kernel), List.mem_of_getElem? (i := 592) (by decide +kernel)⟩
theorem lw_p35 : lw_okq (⟨"ReadGraphModel", "same", "(IIIII)Z"⟩, 20) := ⟨⟨by decide +kernel, by decide +kernel⟩, List.mem_of_getElem? (i := 504) (by decide +kernel), List.mem_of_getElem? (i := 595) (by decide +kernel), List.mem_of_getElem? (i := 596) (by decide +kernel)⟩
theorem lw_p36 : lw_okq (⟨"ReadGraphModel", "isNode", "(I)Z"⟩, 20) := ⟨⟨by decide +kernel, by decide +kernel⟩, List.mem_of_getElem? (i := 504) (by decide +kernel), List.mem_of_getElem? (i := 615) (by decide +kernel), List.mem_of_getElem? (i := 616) (by decide +kernel)⟩
theorem lw_p37 : lw_okq (⟨"ReadGraphModel", "overlapOf", "(III)I"⟩, 20) := ⟨⟨by decide +kernel, by decide +kernel⟩, List.mem_of_getElem? (i := 504) (by decide +kernel), List.mem_of_getElem? (i := 619) (by decide +kernel), List.mem_of_getElem? (i := 620) (by decide +kernel)⟩
theorem lw_p38 : lw_okq (⟨"ReadGraphModel", "isSaid", "(I)Z"⟩, 20) := ⟨⟨by decide +kernel, by decide +kernel⟩, List.mem_of_getElem? (i := 504) (by decide +kernel), List.mem_of_getElem? (i := 627) (by decide +kernel), List.mem_of_getElem? (i := 628) (by decide +kernel)⟩
theorem lw_p39 : lw_okq (⟨"ReadGraphModel", "between", "(II)I"⟩, 20) := ⟨⟨by decide +kernel, by decide +kernel⟩, List.mem_of_getElem? (i := 504) (by decide +kernel), List.mem_of_getElem? (i := 631) (by decide +kernel), List.mem_of_getElem? (i := 632) (by decide +kernel)⟩
theorem lw_p40 : lw_okq (⟨"ReadGraphModel", "spread", "()V"⟩, 20) := ⟨⟨by decide +kernel, by decide +kernel⟩, List.mem_of_getElem? (i := 504) (by decide +kernel), List.mem_of_getElem? (i := 635) (by decide +kernel), List.mem_of_getElem? (i := 636) (by decide +kernel)⟩
theorem lw_p41 : lw_okq (⟨"ReadGraphModel", "isSafe", "(II)Z"⟩, 20) := ⟨⟨by decide +kernel, by decide +kernel⟩, List.mem_of_getElem? (i := 504) (by decide +kernel), List.mem_of_getElem? (i := 660) (by decide +kernel), List.mem_of_getElem? (i := 661) (by decide +kernel)⟩
theorem lw_p42 : lw_okq (⟨"ReadGraphModel", "escapes", "(II)Z"⟩, 20) := ⟨⟨by decide +kernel, by decide +kernel⟩, List.mem_of_getElem? (i := 504) (by decide +kernel), List.mem_of_getElem? (i := 664) (by decide +kernel), List.mem_of_getElem? (i := 665) (by decide +kernel)⟩
theorem lw_p43 : lw_okq (⟨"ReadGraphModel", "find", "()Z"⟩, 20) := ⟨⟨by decide +kernel, by decide +kernel⟩, List.mem_of_getElem? (i := 504) (by decide +kernel), List.mem_of_getElem? (i := 673) (by decide +kernel), List.mem_of_getElem? (i := 674) (by decide +kernel)⟩
theorem lw_p44 : lw_okq (⟨"ReadGraphModel", "keep", "(I)Z"⟩, 20) := ⟨⟨by decide +kernel, by decide +kernel⟩, List.mem_of_getElem? (i := 504) (by decide +kernel), List.mem_of_getElem? (i := 677) (by decide +kernel), List.mem_of_getElem? (i := 678) (by decide +kernel)⟩
theorem lw_p45 : lw_okq (⟨"ReadGraphModel", "hasEnd", "(I)Z"⟩, 20) := ⟨⟨by decide +kernel, by decide +kernel⟩, List.mem_of_getElem? (i := 504) (by decide +kernel), List.mem_of_getElem? (i := 681) (by decide +kernel), List.mem_of_getElem? (i := 682) (by decide +kernel)⟩
theorem lw_p46 : lw_okq (⟨"ReadGraphModel", "hasBeginning", "(I)Z"⟩, 20) := ⟨⟨by decide +kernel, by decide +kernel⟩, List.mem_of_getElem? (i := 504) (by decide +kernel), List.mem_of_getElem? (i := 685) (by decide +kernel), List.mem_of_getElem? (i := 686) (by decide +kernel)⟩
theorem lw_p47 : lw_okq (⟨"ReadGraphModel", "spell", "(II)I"⟩, 20) := ⟨⟨by decide +kernel, by decide +kernel⟩, List.mem_of_getElem? (i := 504) (by decide +kernel), List.mem_of_getElem? (i := 697) (by decide +kernel), List.mem_of_getElem? (i := 698) (by decide +kernel)⟩
def lw_privs_3 : List (MethodName × Nat) := [(⟨"ReadGraphModel", "throwing", "(ZZ)Z"⟩, 20), (⟨"ReadGraphModel", "again", "()V"⟩, 20), (⟨"ReadGraphModel", "isIn", "(II)Z"⟩, 20), (⟨"ReadGraphModel", "same", "(IIIII)Z"⟩, 20), (⟨"ReadGraphModel", "isNode", "(I)Z"⟩, 20), (⟨"ReadGraphModel", "overlapOf", "(III)I"⟩, 20), (⟨"ReadGraphModel", "isSaid", "(I)Z"⟩, 20), (⟨"ReadGraphModel", "between", "(II)I"⟩, 20), (⟨"ReadGraphModel", "spread", "()V"⟩, 20), (⟨"ReadGraphModel", "isSafe", "(II)Z"⟩, 20), (⟨"ReadGraphModel", "escapes", "(II)Z"⟩, 20), (⟨"ReadGraphModel", "find", "()Z"⟩, 20), (⟨"ReadGraphModel", "keep", "(I)Z"⟩, 20), (⟨"ReadGraphModel", "hasEnd", "(I)Z"⟩, 20), (⟨"ReadGraphModel", "hasBeginning", "(I)Z"⟩, 20), (⟨"ReadGraphModel", "spell", "(II)I"⟩, 20)]
theorem lw_r3 : ∀ q ∈ lw_privs_3, lw_okq q := List.forall_mem_cons.mpr ⟨lw_p32, List.forall_mem_cons.mpr ⟨lw_p33, List.forall_mem_cons.mpr ⟨lw_p34, List.forall_mem_cons.mpr ⟨lw_p35, List.forall_mem_cons.mpr ⟨lw_p36, List.forall_mem_cons.mpr ⟨lw_p37, List.forall_mem_cons.mpr ⟨lw_p38, List.forall_mem_cons.mpr ⟨lw_p39, List.forall_mem_cons.mpr ⟨lw_p40, List.forall_mem_cons.mpr ⟨lw_p41, List.forall_mem_cons.mpr ⟨lw_p42, List.forall_mem_cons.mpr ⟨lw_p43, List.forall_mem_cons.mpr ⟨lw_p44, List.forall_mem_cons.mpr ⟨lw_p45, List.forall_mem_cons.mpr ⟨lw_p46, List.forall_mem_cons.mpr ⟨lw_p47, fun _ h => absurd h List.not_mem_nil⟩⟩⟩⟩⟩⟩⟩⟩⟩⟩⟩⟩⟩⟩⟩⟩
def lw_privs : List (MethodName × Nat) := lw_privs_1 ++ (lw_privs_2 ++ (lw_privs_3))
def lw_tbl : List Cond := k2_sels lw_privs ++ tables_1
theorem lw_privs_ok : ∀ q ∈ lw_privs, lw_okq q := by
  show ∀ q ∈ lw_privs_1 ++ (lw_privs_2 ++ (lw_privs_3)), lw_okq q
  exact List.forall_mem_append.mpr ⟨lw_r1, List.forall_mem_append.mpr ⟨lw_r2, lw_r3⟩⟩
end
section
/-! names and decode rows: the class (by program) -/
abbrev c_G_init : ByteArray := prog_1_method_1_code
def y_G_init : MethodName := ⟨"ReadGraph", "<init>", "()V"⟩
theorem d_G_init_0 : decode c_G_init 0 = .ok (.aload_n 0, 1) := by decide +kernel
theorem d_G_init_1 : decode c_G_init 1 = .ok (.invokespecial 3, 3) := by decide +kernel
theorem d_G_init_4 : decode c_G_init 4 = .ok (.aload_n 0, 1) := by decide +kernel
theorem d_G_init_5 : decode c_G_init 5 = .ok (.new 9, 3) := by decide +kernel
theorem d_G_init_8 : decode c_G_init 8 = .ok (.dup, 1) := by decide +kernel
theorem d_G_init_9 : decode c_G_init 9 = .ok (.invokespecial 11, 3) := by decide +kernel
theorem d_G_init_12 : decode c_G_init 12 = .ok (.putfield 12, 3) := by decide +kernel
theorem d_G_init_15 : decode c_G_init 15 = .ok (.aload_n 0, 1) := by decide +kernel
theorem d_G_init_16 : decode c_G_init 16 = .ok (.new 16, 3) := by decide +kernel
theorem d_G_init_19 : decode c_G_init 19 = .ok (.dup, 1) := by decide +kernel
theorem d_G_init_20 : decode c_G_init 20 = .ok (.invokespecial 18, 3) := by decide +kernel
theorem d_G_init_23 : decode c_G_init 23 = .ok (.putfield 19, 3) := by decide +kernel
theorem d_G_init_26 : decode c_G_init 26 = .ok (.aload_n 0, 1) := by decide +kernel
theorem d_G_init_27 : decode c_G_init 27 = .ok (.new 23, 3) := by decide +kernel
theorem d_G_init_30 : decode c_G_init 30 = .ok (.dup, 1) := by decide +kernel
theorem d_G_init_31 : decode c_G_init 31 = .ok (.aload_n 0, 1) := by decide +kernel
theorem d_G_init_32 : decode c_G_init 32 = .ok (.getfield 19, 3) := by decide +kernel
theorem d_G_init_35 : decode c_G_init 35 = .ok (.invokespecial 25, 3) := by decide +kernel
theorem d_G_init_38 : decode c_G_init 38 = .ok (.putfield 28, 3) := by decide +kernel
theorem d_G_init_41 : decode c_G_init 41 = .ok (.return_, 1) := by decide +kernel
abbrev c_G_read : ByteArray := prog_1_method_2_code
def y_G_read : MethodName := ⟨"ReadGraph", "read", "(II)I"⟩
theorem d_G_read_0 : decode c_G_read 0 = .ok (.iload_n 2, 1) := by decide +kernel
theorem d_G_read_1 : decode c_G_read 1 = .ok (.iconst 3, 1) := by decide +kernel
theorem d_G_read_2 : decode c_G_read 2 = .ok (.if_icmp .lt 9, 3) := by decide +kernel
theorem d_G_read_5 : decode c_G_read 5 = .ok (.iload_n 2, 1) := by decide +kernel
theorem d_G_read_6 : decode c_G_read 6 = .ok (.bipush 12, 2) := by decide +kernel
theorem d_G_read_8 : decode c_G_read 8 = .ok (.if_icmp .le 13, 3) := by decide +kernel
theorem d_G_read_11 : decode c_G_read 11 = .ok (.new 32, 3) := by decide +kernel
theorem d_G_read_14 : decode c_G_read 14 = .ok (.dup, 1) := by decide +kernel
theorem d_G_read_15 : decode c_G_read 15 = .ok (.ldc 34, 2) := by decide +kernel
theorem d_G_read_17 : decode c_G_read 17 = .ok (.invokespecial 36, 3) := by decide +kernel
theorem d_G_read_20 : decode c_G_read 20 = .ok (.athrow, 1) := by decide +kernel
theorem d_G_read_21 : decode c_G_read 21 = .ok (.aload_n 0, 1) := by decide +kernel
theorem d_G_read_22 : decode c_G_read 22 = .ok (.getfield 12, 3) := by decide +kernel
theorem d_G_read_25 : decode c_G_read 25 = .ok (.getfield 39, 3) := by decide +kernel
theorem d_G_read_28 : decode c_G_read 28 = .ok (.bipush 9, 2) := by decide +kernel
theorem d_G_read_30 : decode c_G_read 30 = .ok (.if_icmp .ne 13, 3) := by decide +kernel
theorem d_G_read_33 : decode c_G_read 33 = .ok (.new 43, 3) := by decide +kernel
theorem d_G_read_36 : decode c_G_read 36 = .ok (.dup, 1) := by decide +kernel
theorem d_G_read_37 : decode c_G_read 37 = .ok (.ldc 45, 2) := by decide +kernel
theorem d_G_read_39 : decode c_G_read 39 = .ok (.invokespecial 47, 3) := by decide +kernel
theorem d_G_read_42 : decode c_G_read 42 = .ok (.athrow, 1) := by decide +kernel
theorem d_G_read_43 : decode c_G_read 43 = .ok (.aload_n 0, 1) := by decide +kernel
theorem d_G_read_44 : decode c_G_read 44 = .ok (.invokevirtual 48, 3) := by decide +kernel
theorem d_G_read_47 : decode c_G_read 47 = .ok (.aload_n 0, 1) := by decide +kernel
theorem d_G_read_48 : decode c_G_read 48 = .ok (.getfield 12, 3) := by decide +kernel
theorem d_G_read_51 : decode c_G_read 51 = .ok (.iload_n 1, 1) := by decide +kernel
theorem d_G_read_52 : decode c_G_read 52 = .ok (.iload_n 2, 1) := by decide +kernel
theorem d_G_read_53 : decode c_G_read 53 = .ok (.invokevirtual 51, 3) := by decide +kernel
theorem d_G_read_56 : decode c_G_read 56 = .ok (.ireturn, 1) := by decide +kernel
abbrev c_G_clear : ByteArray := prog_1_method_3_code
def y_G_clear : MethodName := ⟨"ReadGraph", "clear", "()V"⟩
theorem d_G_clear_0 : decode c_G_clear 0 = .ok (.aload_n 0, 1) := by decide +kernel
theorem d_G_clear_1 : decode c_G_clear 1 = .ok (.invokevirtual 48, 3) := by decide +kernel
theorem d_G_clear_4 : decode c_G_clear 4 = .ok (.aload_n 0, 1) := by decide +kernel
theorem d_G_clear_5 : decode c_G_clear 5 = .ok (.getfield 12, 3) := by decide +kernel
theorem d_G_clear_8 : decode c_G_clear 8 = .ok (.iconst 0, 1) := by decide +kernel
theorem d_G_clear_9 : decode c_G_clear 9 = .ok (.putfield 39, 3) := by decide +kernel
theorem d_G_clear_12 : decode c_G_clear 12 = .ok (.return_, 1) := by decide +kernel
abbrev c_G_letter : ByteArray := prog_1_method_4_code
def y_G_letter : MethodName := ⟨"ReadGraph", "letter", "(II)I"⟩
theorem d_G_letter_0 : decode c_G_letter 0 = .ok (.aload_n 0, 1) := by decide +kernel
theorem d_G_letter_1 : decode c_G_letter 1 = .ok (.getfield 12, 3) := by decide +kernel
theorem d_G_letter_4 : decode c_G_letter 4 = .ok (.iload_n 1, 1) := by decide +kernel
theorem d_G_letter_5 : decode c_G_letter 5 = .ok (.invokevirtual 55, 3) := by decide +kernel
theorem d_G_letter_8 : decode c_G_letter 8 = .ok (.ifCond .ne 13, 3) := by decide +kernel
theorem d_G_letter_11 : decode c_G_letter 11 = .ok (.new 32, 3) := by decide +kernel
theorem d_G_letter_14 : decode c_G_letter 14 = .ok (.dup, 1) := by decide +kernel
theorem d_G_letter_15 : decode c_G_letter 15 = .ok (.ldc 59, 2) := by decide +kernel
theorem d_G_letter_17 : decode c_G_letter 17 = .ok (.invokespecial 36, 3) := by decide +kernel
theorem d_G_letter_20 : decode c_G_letter 20 = .ok (.athrow, 1) := by decide +kernel
theorem d_G_letter_21 : decode c_G_letter 21 = .ok (.iload_n 2, 1) := by decide +kernel
theorem d_G_letter_22 : decode c_G_letter 22 = .ok (.iconst (-1), 1) := by decide +kernel
theorem d_G_letter_23 : decode c_G_letter 23 = .ok (.if_icmp .lt 16, 3) := by decide +kernel
theorem d_G_letter_26 : decode c_G_letter 26 = .ok (.iload_n 2, 1) := by decide +kernel
theorem d_G_letter_27 : decode c_G_letter 27 = .ok (.aload_n 0, 1) := by decide +kernel
theorem d_G_letter_28 : decode c_G_letter 28 = .ok (.getfield 12, 3) := by decide +kernel
theorem d_G_letter_31 : decode c_G_letter 31 = .ok (.getfield 61, 3) := by decide +kernel
theorem d_G_letter_34 : decode c_G_letter 34 = .ok (.iload_n 1, 1) := by decide +kernel
theorem d_G_letter_35 : decode c_G_letter 35 = .ok (.iaload, 1) := by decide +kernel
theorem d_G_letter_36 : decode c_G_letter 36 = .ok (.if_icmp .lt 13, 3) := by decide +kernel
theorem d_G_letter_39 : decode c_G_letter 39 = .ok (.new 65, 3) := by decide +kernel
theorem d_G_letter_42 : decode c_G_letter 42 = .ok (.dup, 1) := by decide +kernel
theorem d_G_letter_43 : decode c_G_letter 43 = .ok (.ldc 67, 2) := by decide +kernel
theorem d_G_letter_45 : decode c_G_letter 45 = .ok (.invokespecial 69, 3) := by decide +kernel
theorem d_G_letter_48 : decode c_G_letter 48 = .ok (.athrow, 1) := by decide +kernel
theorem d_G_letter_49 : decode c_G_letter 49 = .ok (.iload_n 2, 1) := by decide +kernel
theorem d_G_letter_50 : decode c_G_letter 50 = .ok (.iconst (-1), 1) := by decide +kernel
theorem d_G_letter_51 : decode c_G_letter 51 = .ok (.if_icmp .ne 15, 3) := by decide +kernel
theorem d_G_letter_54 : decode c_G_letter 54 = .ok (.aload_n 0, 1) := by decide +kernel
theorem d_G_letter_55 : decode c_G_letter 55 = .ok (.getfield 12, 3) := by decide +kernel
theorem d_G_letter_58 : decode c_G_letter 58 = .ok (.getfield 61, 3) := by decide +kernel
theorem d_G_letter_61 : decode c_G_letter 61 = .ok (.iload_n 1, 1) := by decide +kernel
theorem d_G_letter_62 : decode c_G_letter 62 = .ok (.iaload, 1) := by decide +kernel
theorem d_G_letter_63 : decode c_G_letter 63 = .ok (.goto 12, 3) := by decide +kernel
theorem d_G_letter_66 : decode c_G_letter 66 = .ok (.aload_n 0, 1) := by decide +kernel
theorem d_G_letter_67 : decode c_G_letter 67 = .ok (.getfield 12, 3) := by decide +kernel
theorem d_G_letter_70 : decode c_G_letter 70 = .ok (.iload_n 1, 1) := by decide +kernel
theorem d_G_letter_71 : decode c_G_letter 71 = .ok (.iload_n 2, 1) := by decide +kernel
theorem d_G_letter_72 : decode c_G_letter 72 = .ok (.invokevirtual 70, 3) := by decide +kernel
theorem d_G_letter_75 : decode c_G_letter 75 = .ok (.ireturn, 1) := by decide +kernel
abbrev c_G_contained : ByteArray := prog_1_method_5_code
def y_G_contained : MethodName := ⟨"ReadGraph", "contained", "(I)Z"⟩
theorem d_G_contained_0 : decode c_G_contained 0 = .ok (.aload_n 0, 1) := by decide +kernel
theorem d_G_contained_1 : decode c_G_contained 1 = .ok (.getfield 12, 3) := by decide +kernel
theorem d_G_contained_4 : decode c_G_contained 4 = .ok (.iload_n 1, 1) := by decide +kernel
theorem d_G_contained_5 : decode c_G_contained 5 = .ok (.invokevirtual 55, 3) := by decide +kernel
theorem d_G_contained_8 : decode c_G_contained 8 = .ok (.ifCond .ne 13, 3) := by decide +kernel
theorem d_G_contained_11 : decode c_G_contained 11 = .ok (.new 32, 3) := by decide +kernel
theorem d_G_contained_14 : decode c_G_contained 14 = .ok (.dup, 1) := by decide +kernel
theorem d_G_contained_15 : decode c_G_contained 15 = .ok (.ldc 59, 2) := by decide +kernel
theorem d_G_contained_17 : decode c_G_contained 17 = .ok (.invokespecial 36, 3) := by decide +kernel
theorem d_G_contained_20 : decode c_G_contained 20 = .ok (.athrow, 1) := by decide +kernel
theorem d_G_contained_21 : decode c_G_contained 21 = .ok (.aload_n 0, 1) := by decide +kernel
theorem d_G_contained_22 : decode c_G_contained 22 = .ok (.getfield 12, 3) := by decide +kernel
theorem d_G_contained_25 : decode c_G_contained 25 = .ok (.iload_n 1, 1) := by decide +kernel
theorem d_G_contained_26 : decode c_G_contained 26 = .ok (.invokevirtual 73, 3) := by decide +kernel
theorem d_G_contained_29 : decode c_G_contained 29 = .ok (.ifCond .ne 7, 3) := by decide +kernel
theorem d_G_contained_32 : decode c_G_contained 32 = .ok (.iconst 1, 1) := by decide +kernel
theorem d_G_contained_33 : decode c_G_contained 33 = .ok (.goto 4, 3) := by decide +kernel
theorem d_G_contained_36 : decode c_G_contained 36 = .ok (.iconst 0, 1) := by decide +kernel
theorem d_G_contained_37 : decode c_G_contained 37 = .ok (.ireturn, 1) := by decide +kernel
abbrev c_G_overlap : ByteArray := prog_1_method_6_code
def y_G_overlap : MethodName := ⟨"ReadGraph", "overlap", "(III)I"⟩
theorem d_G_overlap_0 : decode c_G_overlap 0 = .ok (.aload_n 0, 1) := by decide +kernel
theorem d_G_overlap_1 : decode c_G_overlap 1 = .ok (.getfield 12, 3) := by decide +kernel
theorem d_G_overlap_4 : decode c_G_overlap 4 = .ok (.iload_n 1, 1) := by decide +kernel
theorem d_G_overlap_5 : decode c_G_overlap 5 = .ok (.invokevirtual 73, 3) := by decide +kernel
theorem d_G_overlap_8 : decode c_G_overlap 8 = .ok (.ifCond .eq 19, 3) := by decide +kernel
theorem d_G_overlap_11 : decode c_G_overlap 11 = .ok (.aload_n 0, 1) := by decide +kernel
theorem d_G_overlap_12 : decode c_G_overlap 12 = .ok (.getfield 12, 3) := by decide +kernel
theorem d_G_overlap_15 : decode c_G_overlap 15 = .ok (.iload_n 2, 1) := by decide +kernel
theorem d_G_overlap_16 : decode c_G_overlap 16 = .ok (.invokevirtual 73, 3) := by decide +kernel
theorem d_G_overlap_19 : decode c_G_overlap 19 = .ok (.ifCond .eq 8, 3) := by decide +kernel
theorem d_G_overlap_22 : decode c_G_overlap 22 = .ok (.iload_n 1, 1) := by decide +kernel
theorem d_G_overlap_23 : decode c_G_overlap 23 = .ok (.iload_n 2, 1) := by decide +kernel
theorem d_G_overlap_24 : decode c_G_overlap 24 = .ok (.if_icmp .ne 13, 3) := by decide +kernel
theorem d_G_overlap_27 : decode c_G_overlap 27 = .ok (.new 32, 3) := by decide +kernel
theorem d_G_overlap_30 : decode c_G_overlap 30 = .ok (.dup, 1) := by decide +kernel
theorem d_G_overlap_31 : decode c_G_overlap 31 = .ok (.ldc 76, 2) := by decide +kernel
theorem d_G_overlap_33 : decode c_G_overlap 33 = .ok (.invokespecial 36, 3) := by decide +kernel
theorem d_G_overlap_36 : decode c_G_overlap 36 = .ok (.athrow, 1) := by decide +kernel
theorem d_G_overlap_37 : decode c_G_overlap 37 = .ok (.iload_n 3, 1) := by decide +kernel
theorem d_G_overlap_38 : decode c_G_overlap 38 = .ok (.invokestatic 78, 3) := by decide +kernel
theorem d_G_overlap_41 : decode c_G_overlap 41 = .ok (.ifCond .ne 13, 3) := by decide +kernel
theorem d_G_overlap_44 : decode c_G_overlap 44 = .ok (.new 32, 3) := by decide +kernel
theorem d_G_overlap_47 : decode c_G_overlap 47 = .ok (.dup, 1) := by decide +kernel
theorem d_G_overlap_48 : decode c_G_overlap 48 = .ok (.ldc 81, 2) := by decide +kernel
theorem d_G_overlap_50 : decode c_G_overlap 50 = .ok (.invokespecial 36, 3) := by decide +kernel
theorem d_G_overlap_53 : decode c_G_overlap 53 = .ok (.athrow, 1) := by decide +kernel
theorem d_G_overlap_54 : decode c_G_overlap 54 = .ok (.aload_n 0, 1) := by decide +kernel
theorem d_G_overlap_55 : decode c_G_overlap 55 = .ok (.getfield 12, 3) := by decide +kernel
theorem d_G_overlap_58 : decode c_G_overlap 58 = .ok (.iload_n 1, 1) := by decide +kernel
theorem d_G_overlap_59 : decode c_G_overlap 59 = .ok (.iload_n 2, 1) := by decide +kernel
theorem d_G_overlap_60 : decode c_G_overlap 60 = .ok (.iload_n 3, 1) := by decide +kernel
theorem d_G_overlap_61 : decode c_G_overlap 61 = .ok (.invokevirtual 83, 3) := by decide +kernel
theorem d_G_overlap_64 : decode c_G_overlap 64 = .ok (.ireturn, 1) := by decide +kernel
abbrev c_G_build : ByteArray := prog_1_method_7_code
def y_G_build : MethodName := ⟨"ReadGraph", "build", "(I)I"⟩
theorem d_G_build_0 : decode c_G_build 0 = .ok (.iload_n 1, 1) := by decide +kernel
theorem d_G_build_1 : decode c_G_build 1 = .ok (.invokestatic 78, 3) := by decide +kernel
theorem d_G_build_4 : decode c_G_build 4 = .ok (.ifCond .ne 13, 3) := by decide +kernel
theorem d_G_build_7 : decode c_G_build 7 = .ok (.new 32, 3) := by decide +kernel
theorem d_G_build_10 : decode c_G_build 10 = .ok (.dup, 1) := by decide +kernel
theorem d_G_build_11 : decode c_G_build 11 = .ok (.ldc 81, 2) := by decide +kernel
theorem d_G_build_13 : decode c_G_build 13 = .ok (.invokespecial 36, 3) := by decide +kernel
theorem d_G_build_16 : decode c_G_build 16 = .ok (.athrow, 1) := by decide +kernel
theorem d_G_build_17 : decode c_G_build 17 = .ok (.aload_n 0, 1) := by decide +kernel
theorem d_G_build_18 : decode c_G_build 18 = .ok (.invokevirtual 48, 3) := by decide +kernel
theorem d_G_build_21 : decode c_G_build 21 = .ok (.aload_n 0, 1) := by decide +kernel
theorem d_G_build_22 : decode c_G_build 22 = .ok (.getfield 19, 3) := by decide +kernel
theorem d_G_build_25 : decode c_G_build 25 = .ok (.aload_n 0, 1) := by decide +kernel
theorem d_G_build_26 : decode c_G_build 26 = .ok (.getfield 12, 3) := by decide +kernel
theorem d_G_build_29 : decode c_G_build 29 = .ok (.iload_n 1, 1) := by decide +kernel
theorem d_G_build_30 : decode c_G_build 30 = .ok (.invokevirtual 87, 3) := by decide +kernel
theorem d_G_build_33 : decode c_G_build 33 = .ok (.aload_n 0, 1) := by decide +kernel
theorem d_G_build_34 : decode c_G_build 34 = .ok (.getfield 19, 3) := by decide +kernel
theorem d_G_build_37 : decode c_G_build 37 = .ok (.getfield 91, 3) := by decide +kernel
theorem d_G_build_40 : decode c_G_build 40 = .ok (.ireturn, 1) := by decide +kernel
abbrev c_G_all : ByteArray := prog_1_method_8_code
def y_G_all : MethodName := ⟨"ReadGraph", "all", "()I"⟩
theorem d_G_all_0 : decode c_G_all 0 = .ok (.aload_n 0, 1) := by decide +kernel
theorem d_G_all_1 : decode c_G_all 1 = .ok (.getfield 19, 3) := by decide +kernel
theorem d_G_all_4 : decode c_G_all 4 = .ok (.getfield 92, 3) := by decide +kernel
theorem d_G_all_7 : decode c_G_all 7 = .ok (.ireturn, 1) := by decide +kernel
abbrev c_G_edge : ByteArray := prog_1_method_9_code
def y_G_edge : MethodName := ⟨"ReadGraph", "edge", "(II)I"⟩
theorem d_G_edge_0 : decode c_G_edge 0 = .ok (.iload_n 2, 1) := by decide +kernel
theorem d_G_edge_1 : decode c_G_edge 1 = .ok (.ifCond .lt 8, 3) := by decide +kernel
theorem d_G_edge_4 : decode c_G_edge 4 = .ok (.iload_n 2, 1) := by decide +kernel
theorem d_G_edge_5 : decode c_G_edge 5 = .ok (.iconst 3, 1) := by decide +kernel
theorem d_G_edge_6 : decode c_G_edge 6 = .ok (.if_icmp .le 13, 3) := by decide +kernel
theorem d_G_edge_9 : decode c_G_edge 9 = .ok (.new 32, 3) := by decide +kernel
theorem d_G_edge_12 : decode c_G_edge 12 = .ok (.dup, 1) := by decide +kernel
theorem d_G_edge_13 : decode c_G_edge 13 = .ok (.ldc 95, 2) := by decide +kernel
theorem d_G_edge_15 : decode c_G_edge 15 = .ok (.invokespecial 36, 3) := by decide +kernel
theorem d_G_edge_18 : decode c_G_edge 18 = .ok (.athrow, 1) := by decide +kernel
theorem d_G_edge_19 : decode c_G_edge 19 = .ok (.aload_n 0, 1) := by decide +kernel
theorem d_G_edge_20 : decode c_G_edge 20 = .ok (.getfield 19, 3) := by decide +kernel
theorem d_G_edge_23 : decode c_G_edge 23 = .ok (.iload_n 1, 1) := by decide +kernel
theorem d_G_edge_24 : decode c_G_edge 24 = .ok (.invokevirtual 97, 3) := by decide +kernel
theorem d_G_edge_27 : decode c_G_edge 27 = .ok (.ifCond .ne 13, 3) := by decide +kernel
theorem d_G_edge_30 : decode c_G_edge 30 = .ok (.new 98, 3) := by decide +kernel
theorem d_G_edge_33 : decode c_G_edge 33 = .ok (.dup, 1) := by decide +kernel
theorem d_G_edge_34 : decode c_G_edge 34 = .ok (.ldc 100, 2) := by decide +kernel
theorem d_G_edge_36 : decode c_G_edge 36 = .ok (.invokespecial 102, 3) := by decide +kernel
theorem d_G_edge_39 : decode c_G_edge 39 = .ok (.athrow, 1) := by decide +kernel
theorem d_G_edge_40 : decode c_G_edge 40 = .ok (.iload_n 2, 1) := by decide +kernel
theorem d_G_edge_41 : decode c_G_edge 41 = .ok (.tableswitch 75 0 2 #[27, 37, 47], 27) := by decide +kernel
theorem d_G_edge_68 : decode c_G_edge 68 = .ok (.aload_n 0, 1) := by decide +kernel
theorem d_G_edge_69 : decode c_G_edge 69 = .ok (.getfield 19, 3) := by decide +kernel
theorem d_G_edge_72 : decode c_G_edge 72 = .ok (.getfield 103, 3) := by decide +kernel
theorem d_G_edge_75 : decode c_G_edge 75 = .ok (.iload_n 1, 1) := by decide +kernel
theorem d_G_edge_76 : decode c_G_edge 76 = .ok (.iaload, 1) := by decide +kernel
theorem d_G_edge_77 : decode c_G_edge 77 = .ok (.ireturn, 1) := by decide +kernel
theorem d_G_edge_78 : decode c_G_edge 78 = .ok (.aload_n 0, 1) := by decide +kernel
theorem d_G_edge_79 : decode c_G_edge 79 = .ok (.getfield 19, 3) := by decide +kernel
theorem d_G_edge_82 : decode c_G_edge 82 = .ok (.getfield 106, 3) := by decide +kernel
theorem d_G_edge_85 : decode c_G_edge 85 = .ok (.iload_n 1, 1) := by decide +kernel
theorem d_G_edge_86 : decode c_G_edge 86 = .ok (.iaload, 1) := by decide +kernel
theorem d_G_edge_87 : decode c_G_edge 87 = .ok (.ireturn, 1) := by decide +kernel
theorem d_G_edge_88 : decode c_G_edge 88 = .ok (.aload_n 0, 1) := by decide +kernel
theorem d_G_edge_89 : decode c_G_edge 89 = .ok (.getfield 12, 3) := by decide +kernel
theorem d_G_edge_92 : decode c_G_edge 92 = .ok (.getfield 61, 3) := by decide +kernel
theorem d_G_edge_95 : decode c_G_edge 95 = .ok (.aload_n 0, 1) := by decide +kernel
theorem d_G_edge_96 : decode c_G_edge 96 = .ok (.getfield 19, 3) := by decide +kernel
theorem d_G_edge_99 : decode c_G_edge 99 = .ok (.getfield 106, 3) := by decide +kernel
theorem d_G_edge_102 : decode c_G_edge 102 = .ok (.iload_n 1, 1) := by decide +kernel
theorem d_G_edge_103 : decode c_G_edge 103 = .ok (.iaload, 1) := by decide +kernel
theorem d_G_edge_104 : decode c_G_edge 104 = .ok (.iaload, 1) := by decide +kernel
theorem d_G_edge_105 : decode c_G_edge 105 = .ok (.aload_n 0, 1) := by decide +kernel
theorem d_G_edge_106 : decode c_G_edge 106 = .ok (.getfield 19, 3) := by decide +kernel
theorem d_G_edge_109 : decode c_G_edge 109 = .ok (.getfield 109, 3) := by decide +kernel
theorem d_G_edge_112 : decode c_G_edge 112 = .ok (.iload_n 1, 1) := by decide +kernel
theorem d_G_edge_113 : decode c_G_edge 113 = .ok (.iaload, 1) := by decide +kernel
theorem d_G_edge_114 : decode c_G_edge 114 = .ok (.isub, 1) := by decide +kernel
theorem d_G_edge_115 : decode c_G_edge 115 = .ok (.ireturn, 1) := by decide +kernel
theorem d_G_edge_116 : decode c_G_edge 116 = .ok (.aload_n 0, 1) := by decide +kernel
theorem d_G_edge_117 : decode c_G_edge 117 = .ok (.getfield 19, 3) := by decide +kernel
theorem d_G_edge_120 : decode c_G_edge 120 = .ok (.getfield 109, 3) := by decide +kernel
theorem d_G_edge_123 : decode c_G_edge 123 = .ok (.iload_n 1, 1) := by decide +kernel
theorem d_G_edge_124 : decode c_G_edge 124 = .ok (.iaload, 1) := by decide +kernel
theorem d_G_edge_125 : decode c_G_edge 125 = .ok (.ireturn, 1) := by decide +kernel
abbrev c_G_way : ByteArray := prog_1_method_10_code
def y_G_way : MethodName := ⟨"ReadGraph", "way", "(II)Z"⟩
theorem d_G_way_0 : decode c_G_way 0 = .ok (.aload_n 0, 1) := by decide +kernel
theorem d_G_way_1 : decode c_G_way 1 = .ok (.getfield 12, 3) := by decide +kernel
theorem d_G_way_4 : decode c_G_way 4 = .ok (.iload_n 1, 1) := by decide +kernel
theorem d_G_way_5 : decode c_G_way 5 = .ok (.invokevirtual 73, 3) := by decide +kernel
theorem d_G_way_8 : decode c_G_way 8 = .ok (.ifCond .eq 14, 3) := by decide +kernel
theorem d_G_way_11 : decode c_G_way 11 = .ok (.aload_n 0, 1) := by decide +kernel
theorem d_G_way_12 : decode c_G_way 12 = .ok (.getfield 12, 3) := by decide +kernel
theorem d_G_way_15 : decode c_G_way 15 = .ok (.iload_n 2, 1) := by decide +kernel
theorem d_G_way_16 : decode c_G_way 16 = .ok (.invokevirtual 73, 3) := by decide +kernel
theorem d_G_way_19 : decode c_G_way 19 = .ok (.ifCond .ne 13, 3) := by decide +kernel
theorem d_G_way_22 : decode c_G_way 22 = .ok (.new 32, 3) := by decide +kernel
theorem d_G_way_25 : decode c_G_way 25 = .ok (.dup, 1) := by decide +kernel
theorem d_G_way_26 : decode c_G_way 26 = .ok (.ldc 112, 2) := by decide +kernel
theorem d_G_way_28 : decode c_G_way 28 = .ok (.invokespecial 36, 3) := by decide +kernel
theorem d_G_way_31 : decode c_G_way 31 = .ok (.athrow, 1) := by decide +kernel
theorem d_G_way_32 : decode c_G_way 32 = .ok (.aload_n 0, 1) := by decide +kernel
theorem d_G_way_33 : decode c_G_way 33 = .ok (.getfield 19, 3) := by decide +kernel
theorem d_G_way_36 : decode c_G_way 36 = .ok (.getfield 114, 3) := by decide +kernel
theorem d_G_way_39 : decode c_G_way 39 = .ok (.iload_n 1, 1) := by decide +kernel
theorem d_G_way_40 : decode c_G_way 40 = .ok (.iaload, 1) := by decide +kernel
theorem d_G_way_41 : decode c_G_way 41 = .ok (.iload_n 2, 1) := by decide +kernel
theorem d_G_way_42 : decode c_G_way 42 = .ok (.invokestatic 117, 3) := by decide +kernel
theorem d_G_way_45 : decode c_G_way 45 = .ok (.ireturn, 1) := by decide +kernel
abbrev c_G_kind : ByteArray := prog_1_method_11_code
def y_G_kind : MethodName := ⟨"ReadGraph", "kind", "()I"⟩
theorem d_G_kind_0 : decode c_G_kind 0 = .ok (.aload_n 0, 1) := by decide +kernel
theorem d_G_kind_1 : decode c_G_kind 1 = .ok (.getfield 19, 3) := by decide +kernel
theorem d_G_kind_4 : decode c_G_kind 4 = .ok (.invokevirtual 121, 3) := by decide +kernel
theorem d_G_kind_7 : decode c_G_kind 7 = .ok (.ireturn, 1) := by decide +kernel
abbrev c_G_safe : ByteArray := prog_1_method_12_code
def y_G_safe : MethodName := ⟨"ReadGraph", "safe", "(JI)Z"⟩
theorem d_G_safe_0 : decode c_G_safe 0 = .ok (.iload_n 3, 1) := by decide +kernel
theorem d_G_safe_1 : decode c_G_safe 1 = .ok (.iconst 1, 1) := by decide +kernel
theorem d_G_safe_2 : decode c_G_safe 2 = .ok (.if_icmp .lt 9, 3) := by decide +kernel
theorem d_G_safe_5 : decode c_G_safe 5 = .ok (.iload_n 3, 1) := by decide +kernel
theorem d_G_safe_6 : decode c_G_safe 6 = .ok (.bipush 8, 2) := by decide +kernel
theorem d_G_safe_8 : decode c_G_safe 8 = .ok (.if_icmp .le 13, 3) := by decide +kernel
theorem d_G_safe_11 : decode c_G_safe 11 = .ok (.new 32, 3) := by decide +kernel
theorem d_G_safe_14 : decode c_G_safe 14 = .ok (.dup, 1) := by decide +kernel
theorem d_G_safe_15 : decode c_G_safe 15 = .ok (.ldc 125, 2) := by decide +kernel
theorem d_G_safe_17 : decode c_G_safe 17 = .ok (.invokespecial 36, 3) := by decide +kernel
theorem d_G_safe_20 : decode c_G_safe 20 = .ok (.athrow, 1) := by decide +kernel
theorem d_G_safe_21 : decode c_G_safe 21 = .ok (.aload_n 0, 1) := by decide +kernel
theorem d_G_safe_22 : decode c_G_safe 22 = .ok (.lload_n 1, 1) := by decide +kernel
theorem d_G_safe_23 : decode c_G_safe 23 = .ok (.iload_n 3, 1) := by decide +kernel
theorem d_G_safe_24 : decode c_G_safe 24 = .ok (.invokevirtual 127, 3) := by decide +kernel
theorem d_G_safe_27 : decode c_G_safe 27 = .ok (.ifCond .ne 13, 3) := by decide +kernel
theorem d_G_safe_30 : decode c_G_safe 30 = .ok (.new 32, 3) := by decide +kernel
theorem d_G_safe_33 : decode c_G_safe 33 = .ok (.dup, 1) := by decide +kernel
theorem d_G_safe_34 : decode c_G_safe 34 = .ok (.ldc 131, 2) := by decide +kernel
theorem d_G_safe_36 : decode c_G_safe 36 = .ok (.invokespecial 36, 3) := by decide +kernel
theorem d_G_safe_39 : decode c_G_safe 39 = .ok (.athrow, 1) := by decide +kernel
theorem d_G_safe_40 : decode c_G_safe 40 = .ok (.aload_n 0, 1) := by decide +kernel
theorem d_G_safe_41 : decode c_G_safe 41 = .ok (.lload_n 1, 1) := by decide +kernel
theorem d_G_safe_42 : decode c_G_safe 42 = .ok (.iload_n 3, 1) := by decide +kernel
theorem d_G_safe_43 : decode c_G_safe 43 = .ok (.invokevirtual 133, 3) := by decide +kernel
theorem d_G_safe_46 : decode c_G_safe 46 = .ok (.ireturn, 1) := by decide +kernel
abbrev c_G_walks : ByteArray := prog_1_method_13_code
def y_G_walks : MethodName := ⟨"ReadGraph", "walks", "()I"⟩
theorem d_G_walks_0 : decode c_G_walks 0 = .ok (.aload_n 0, 1) := by decide +kernel
theorem d_G_walks_1 : decode c_G_walks 1 = .ok (.getfield 19, 3) := by decide +kernel
theorem d_G_walks_4 : decode c_G_walks 4 = .ok (.invokevirtual 121, 3) := by decide +kernel
theorem d_G_walks_7 : decode c_G_walks 7 = .ok (.iconst 2, 1) := by decide +kernel
theorem d_G_walks_8 : decode c_G_walks 8 = .ok (.if_icmp .ne 13, 3) := by decide +kernel
theorem d_G_walks_11 : decode c_G_walks 11 = .ok (.aload_n 0, 1) := by decide +kernel
theorem d_G_walks_12 : decode c_G_walks 12 = .ok (.getfield 28, 3) := by decide +kernel
theorem d_G_walks_15 : decode c_G_walks 15 = .ok (.invokevirtual 136, 3) := by decide +kernel
theorem d_G_walks_18 : decode c_G_walks 18 = .ok (.ifCond .ne 21, 3) := by decide +kernel
theorem d_G_walks_21 : decode c_G_walks 21 = .ok (.aload_n 0, 1) := by decide +kernel
theorem d_G_walks_22 : decode c_G_walks 22 = .ok (.getfield 28, 3) := by decide +kernel
theorem d_G_walks_25 : decode c_G_walks 25 = .ok (.iconst 0, 1) := by decide +kernel
theorem d_G_walks_26 : decode c_G_walks 26 = .ok (.putfield 140, 3) := by decide +kernel
theorem d_G_walks_29 : decode c_G_walks 29 = .ok (.new 43, 3) := by decide +kernel
theorem d_G_walks_32 : decode c_G_walks 32 = .ok (.dup, 1) := by decide +kernel
theorem d_G_walks_33 : decode c_G_walks 33 = .ok (.ldc 141, 2) := by decide +kernel
theorem d_G_walks_35 : decode c_G_walks 35 = .ok (.invokespecial 47, 3) := by decide +kernel
theorem d_G_walks_38 : decode c_G_walks 38 = .ok (.athrow, 1) := by decide +kernel
theorem d_G_walks_39 : decode c_G_walks 39 = .ok (.aload_n 0, 1) := by decide +kernel
theorem d_G_walks_40 : decode c_G_walks 40 = .ok (.getfield 28, 3) := by decide +kernel
theorem d_G_walks_43 : decode c_G_walks 43 = .ok (.getfield 140, 3) := by decide +kernel
theorem d_G_walks_46 : decode c_G_walks 46 = .ok (.ireturn, 1) := by decide +kernel
abbrev c_G_walk : ByteArray := prog_1_method_14_code
def y_G_walk : MethodName := ⟨"ReadGraph", "walk", "(II)I"⟩
theorem d_G_walk_0 : decode c_G_walk 0 = .ok (.aload_n 0, 1) := by decide +kernel
theorem d_G_walk_1 : decode c_G_walk 1 = .ok (.getfield 28, 3) := by decide +kernel
theorem d_G_walk_4 : decode c_G_walk 4 = .ok (.iload_n 1, 1) := by decide +kernel
theorem d_G_walk_5 : decode c_G_walk 5 = .ok (.invokevirtual 143, 3) := by decide +kernel
theorem d_G_walk_8 : decode c_G_walk 8 = .ok (.ifCond .ne 13, 3) := by decide +kernel
theorem d_G_walk_11 : decode c_G_walk 11 = .ok (.new 98, 3) := by decide +kernel
theorem d_G_walk_14 : decode c_G_walk 14 = .ok (.dup, 1) := by decide +kernel
theorem d_G_walk_15 : decode c_G_walk 15 = .ok (.ldc 144, 2) := by decide +kernel
theorem d_G_walk_17 : decode c_G_walk 17 = .ok (.invokespecial 102, 3) := by decide +kernel
theorem d_G_walk_20 : decode c_G_walk 20 = .ok (.athrow, 1) := by decide +kernel
theorem d_G_walk_21 : decode c_G_walk 21 = .ok (.iload_n 2, 1) := by decide +kernel
theorem d_G_walk_22 : decode c_G_walk 22 = .ok (.iconst (-1), 1) := by decide +kernel
theorem d_G_walk_23 : decode c_G_walk 23 = .ok (.if_icmp .lt 16, 3) := by decide +kernel
theorem d_G_walk_26 : decode c_G_walk 26 = .ok (.iload_n 2, 1) := by decide +kernel
theorem d_G_walk_27 : decode c_G_walk 27 = .ok (.aload_n 0, 1) := by decide +kernel
theorem d_G_walk_28 : decode c_G_walk 28 = .ok (.getfield 28, 3) := by decide +kernel
theorem d_G_walk_31 : decode c_G_walk 31 = .ok (.getfield 146, 3) := by decide +kernel
theorem d_G_walk_34 : decode c_G_walk 34 = .ok (.iload_n 1, 1) := by decide +kernel
theorem d_G_walk_35 : decode c_G_walk 35 = .ok (.iaload, 1) := by decide +kernel
theorem d_G_walk_36 : decode c_G_walk 36 = .ok (.if_icmp .lt 13, 3) := by decide +kernel
theorem d_G_walk_39 : decode c_G_walk 39 = .ok (.new 65, 3) := by decide +kernel
theorem d_G_walk_42 : decode c_G_walk 42 = .ok (.dup, 1) := by decide +kernel
theorem d_G_walk_43 : decode c_G_walk 43 = .ok (.ldc 100, 2) := by decide +kernel
theorem d_G_walk_45 : decode c_G_walk 45 = .ok (.invokespecial 69, 3) := by decide +kernel
theorem d_G_walk_48 : decode c_G_walk 48 = .ok (.athrow, 1) := by decide +kernel
theorem d_G_walk_49 : decode c_G_walk 49 = .ok (.iload_n 2, 1) := by decide +kernel
theorem d_G_walk_50 : decode c_G_walk 50 = .ok (.iconst (-1), 1) := by decide +kernel
theorem d_G_walk_51 : decode c_G_walk 51 = .ok (.if_icmp .ne 15, 3) := by decide +kernel
theorem d_G_walk_54 : decode c_G_walk 54 = .ok (.aload_n 0, 1) := by decide +kernel
theorem d_G_walk_55 : decode c_G_walk 55 = .ok (.getfield 28, 3) := by decide +kernel
theorem d_G_walk_58 : decode c_G_walk 58 = .ok (.getfield 146, 3) := by decide +kernel
theorem d_G_walk_61 : decode c_G_walk 61 = .ok (.iload_n 1, 1) := by decide +kernel
theorem d_G_walk_62 : decode c_G_walk 62 = .ok (.iaload, 1) := by decide +kernel
theorem d_G_walk_63 : decode c_G_walk 63 = .ok (.goto 12, 3) := by decide +kernel
theorem d_G_walk_66 : decode c_G_walk 66 = .ok (.aload_n 0, 1) := by decide +kernel
theorem d_G_walk_67 : decode c_G_walk 67 = .ok (.getfield 28, 3) := by decide +kernel
theorem d_G_walk_70 : decode c_G_walk 70 = .ok (.iload_n 1, 1) := by decide +kernel
theorem d_G_walk_71 : decode c_G_walk 71 = .ok (.iload_n 2, 1) := by decide +kernel
theorem d_G_walk_72 : decode c_G_walk 72 = .ok (.invokevirtual 147, 3) := by decide +kernel
theorem d_G_walk_75 : decode c_G_walk 75 = .ok (.ireturn, 1) := by decide +kernel
abbrev c_G_spelled : ByteArray := prog_1_method_15_code
def y_G_spelled : MethodName := ⟨"ReadGraph", "spelled", "(II)I"⟩
theorem d_G_spelled_0 : decode c_G_spelled 0 = .ok (.aload_n 0, 1) := by decide +kernel
theorem d_G_spelled_1 : decode c_G_spelled 1 = .ok (.getfield 28, 3) := by decide +kernel
theorem d_G_spelled_4 : decode c_G_spelled 4 = .ok (.iload_n 1, 1) := by decide +kernel
theorem d_G_spelled_5 : decode c_G_spelled 5 = .ok (.invokevirtual 143, 3) := by decide +kernel
theorem d_G_spelled_8 : decode c_G_spelled 8 = .ok (.ifCond .ne 13, 3) := by decide +kernel
theorem d_G_spelled_11 : decode c_G_spelled 11 = .ok (.new 98, 3) := by decide +kernel
theorem d_G_spelled_14 : decode c_G_spelled 14 = .ok (.dup, 1) := by decide +kernel
theorem d_G_spelled_15 : decode c_G_spelled 15 = .ok (.ldc 144, 2) := by decide +kernel
theorem d_G_spelled_17 : decode c_G_spelled 17 = .ok (.invokespecial 102, 3) := by decide +kernel
theorem d_G_spelled_20 : decode c_G_spelled 20 = .ok (.athrow, 1) := by decide +kernel
theorem d_G_spelled_21 : decode c_G_spelled 21 = .ok (.aload_n 0, 1) := by decide +kernel
theorem d_G_spelled_22 : decode c_G_spelled 22 = .ok (.iload_n 1, 1) := by decide +kernel
theorem d_G_spelled_23 : decode c_G_spelled 23 = .ok (.invokevirtual 150, 3) := by decide +kernel
theorem d_G_spelled_26 : decode c_G_spelled 26 = .ok (.istore_n 3, 1) := by decide +kernel
theorem d_G_spelled_27 : decode c_G_spelled 27 = .ok (.iload_n 2, 1) := by decide +kernel
theorem d_G_spelled_28 : decode c_G_spelled 28 = .ok (.iconst (-1), 1) := by decide +kernel
theorem d_G_spelled_29 : decode c_G_spelled 29 = .ok (.if_icmp .lt 8, 3) := by decide +kernel
theorem d_G_spelled_32 : decode c_G_spelled 32 = .ok (.iload_n 2, 1) := by decide +kernel
theorem d_G_spelled_33 : decode c_G_spelled 33 = .ok (.iload_n 3, 1) := by decide +kernel
theorem d_G_spelled_34 : decode c_G_spelled 34 = .ok (.if_icmp .lt 13, 3) := by decide +kernel
theorem d_G_spelled_37 : decode c_G_spelled 37 = .ok (.new 65, 3) := by decide +kernel
theorem d_G_spelled_40 : decode c_G_spelled 40 = .ok (.dup, 1) := by decide +kernel
theorem d_G_spelled_41 : decode c_G_spelled 41 = .ok (.ldc 67, 2) := by decide +kernel
theorem d_G_spelled_43 : decode c_G_spelled 43 = .ok (.invokespecial 69, 3) := by decide +kernel
theorem d_G_spelled_46 : decode c_G_spelled 46 = .ok (.athrow, 1) := by decide +kernel
theorem d_G_spelled_47 : decode c_G_spelled 47 = .ok (.iload_n 2, 1) := by decide +kernel
theorem d_G_spelled_48 : decode c_G_spelled 48 = .ok (.iconst (-1), 1) := by decide +kernel
theorem d_G_spelled_49 : decode c_G_spelled 49 = .ok (.if_icmp .ne 7, 3) := by decide +kernel
theorem d_G_spelled_52 : decode c_G_spelled 52 = .ok (.iload_n 3, 1) := by decide +kernel
theorem d_G_spelled_53 : decode c_G_spelled 53 = .ok (.goto 9, 3) := by decide +kernel
theorem d_G_spelled_56 : decode c_G_spelled 56 = .ok (.aload_n 0, 1) := by decide +kernel
theorem d_G_spelled_57 : decode c_G_spelled 57 = .ok (.iload_n 1, 1) := by decide +kernel
theorem d_G_spelled_58 : decode c_G_spelled 58 = .ok (.iload_n 2, 1) := by decide +kernel
theorem d_G_spelled_59 : decode c_G_spelled 59 = .ok (.invokevirtual 154, 3) := by decide +kernel
theorem d_G_spelled_62 : decode c_G_spelled 62 = .ok (.ireturn, 1) := by decide +kernel
abbrev c_G_forgetGraph : ByteArray := prog_1_method_16_code
def y_G_forgetGraph : MethodName := ⟨"ReadGraph", "forgetGraph", "()V"⟩
theorem d_G_forgetGraph_0 : decode c_G_forgetGraph 0 = .ok (.aload_n 0, 1) := by decide +kernel
theorem d_G_forgetGraph_1 : decode c_G_forgetGraph 1 = .ok (.getfield 19, 3) := by decide +kernel
theorem d_G_forgetGraph_4 : decode c_G_forgetGraph 4 = .ok (.invokevirtual 157, 3) := by decide +kernel
theorem d_G_forgetGraph_7 : decode c_G_forgetGraph 7 = .ok (.aload_n 0, 1) := by decide +kernel
theorem d_G_forgetGraph_8 : decode c_G_forgetGraph 8 = .ok (.getfield 28, 3) := by decide +kernel
theorem d_G_forgetGraph_11 : decode c_G_forgetGraph 11 = .ok (.iconst 0, 1) := by decide +kernel
theorem d_G_forgetGraph_12 : decode c_G_forgetGraph 12 = .ok (.putfield 140, 3) := by decide +kernel
theorem d_G_forgetGraph_15 : decode c_G_forgetGraph 15 = .ok (.return_, 1) := by decide +kernel
abbrev c_G_isLeast : ByteArray := prog_1_method_17_code
def y_G_isLeast : MethodName := ⟨"ReadGraph", "isLeast", "(I)Z"⟩
theorem d_G_isLeast_0 : decode c_G_isLeast 0 = .ok (.iload_n 0, 1) := by decide +kernel
theorem d_G_isLeast_1 : decode c_G_isLeast 1 = .ok (.iconst 1, 1) := by decide +kernel
theorem d_G_isLeast_2 : decode c_G_isLeast 2 = .ok (.if_icmp .lt 13, 3) := by decide +kernel
theorem d_G_isLeast_5 : decode c_G_isLeast 5 = .ok (.iload_n 0, 1) := by decide +kernel
theorem d_G_isLeast_6 : decode c_G_isLeast 6 = .ok (.bipush 12, 2) := by decide +kernel
theorem d_G_isLeast_8 : decode c_G_isLeast 8 = .ok (.if_icmp .gt 7, 3) := by decide +kernel
theorem d_G_isLeast_11 : decode c_G_isLeast 11 = .ok (.iconst 1, 1) := by decide +kernel
theorem d_G_isLeast_12 : decode c_G_isLeast 12 = .ok (.goto 4, 3) := by decide +kernel
theorem d_G_isLeast_15 : decode c_G_isLeast 15 = .ok (.iconst 0, 1) := by decide +kernel
theorem d_G_isLeast_16 : decode c_G_isLeast 16 = .ok (.ireturn, 1) := by decide +kernel
abbrev c_G_isPackedWalk : ByteArray := prog_1_method_18_code
def y_G_isPackedWalk : MethodName := ⟨"ReadGraph", "isPackedWalk", "(JI)Z"⟩
theorem d_G_isPackedWalk_0 : decode c_G_isPackedWalk 0 = .ok (.iconst 0, 1) := by decide +kernel
theorem d_G_isPackedWalk_1 : decode c_G_isPackedWalk 1 = .ok (.istore 4, 2) := by decide +kernel
theorem d_G_isPackedWalk_3 : decode c_G_isPackedWalk 3 = .ok (.iload 4, 2) := by decide +kernel
theorem d_G_isPackedWalk_5 : decode c_G_isPackedWalk 5 = .ok (.iload_n 3, 1) := by decide +kernel
theorem d_G_isPackedWalk_6 : decode c_G_isPackedWalk 6 = .ok (.if_icmp .ge 67, 3) := by decide +kernel
theorem d_G_isPackedWalk_9 : decode c_G_isPackedWalk 9 = .ok (.lload_n 1, 1) := by decide +kernel
theorem d_G_isPackedWalk_10 : decode c_G_isPackedWalk 10 = .ok (.iload_n 3, 1) := by decide +kernel
theorem d_G_isPackedWalk_11 : decode c_G_isPackedWalk 11 = .ok (.iload 4, 2) := by decide +kernel
theorem d_G_isPackedWalk_13 : decode c_G_isPackedWalk 13 = .ok (.invokestatic 160, 3) := by decide +kernel
theorem d_G_isPackedWalk_16 : decode c_G_isPackedWalk 16 = .ok (.istore 5, 2) := by decide +kernel
theorem d_G_isPackedWalk_18 : decode c_G_isPackedWalk 18 = .ok (.aload_n 0, 1) := by decide +kernel
theorem d_G_isPackedWalk_19 : decode c_G_isPackedWalk 19 = .ok (.getfield 19, 3) := by decide +kernel
theorem d_G_isPackedWalk_22 : decode c_G_isPackedWalk 22 = .ok (.iload 5, 2) := by decide +kernel
theorem d_G_isPackedWalk_24 : decode c_G_isPackedWalk 24 = .ok (.invokevirtual 97, 3) := by decide +kernel
theorem d_G_isPackedWalk_27 : decode c_G_isPackedWalk 27 = .ok (.ifCond .eq 38, 3) := by decide +kernel
theorem d_G_isPackedWalk_30 : decode c_G_isPackedWalk 30 = .ok (.iload 4, 2) := by decide +kernel
theorem d_G_isPackedWalk_32 : decode c_G_isPackedWalk 32 = .ok (.ifCond .le 35, 3) := by decide +kernel
theorem d_G_isPackedWalk_35 : decode c_G_isPackedWalk 35 = .ok (.aload_n 0, 1) := by decide +kernel
theorem d_G_isPackedWalk_36 : decode c_G_isPackedWalk 36 = .ok (.getfield 19, 3) := by decide +kernel
theorem d_G_isPackedWalk_39 : decode c_G_isPackedWalk 39 = .ok (.getfield 103, 3) := by decide +kernel
theorem d_G_isPackedWalk_42 : decode c_G_isPackedWalk 42 = .ok (.iload 5, 2) := by decide +kernel
theorem d_G_isPackedWalk_44 : decode c_G_isPackedWalk 44 = .ok (.iaload, 1) := by decide +kernel
theorem d_G_isPackedWalk_45 : decode c_G_isPackedWalk 45 = .ok (.aload_n 0, 1) := by decide +kernel
theorem d_G_isPackedWalk_46 : decode c_G_isPackedWalk 46 = .ok (.getfield 19, 3) := by decide +kernel
theorem d_G_isPackedWalk_49 : decode c_G_isPackedWalk 49 = .ok (.getfield 106, 3) := by decide +kernel
theorem d_G_isPackedWalk_52 : decode c_G_isPackedWalk 52 = .ok (.lload_n 1, 1) := by decide +kernel
theorem d_G_isPackedWalk_53 : decode c_G_isPackedWalk 53 = .ok (.iload_n 3, 1) := by decide +kernel
theorem d_G_isPackedWalk_54 : decode c_G_isPackedWalk 54 = .ok (.iload 4, 2) := by decide +kernel
theorem d_G_isPackedWalk_56 : decode c_G_isPackedWalk 56 = .ok (.iconst 1, 1) := by decide +kernel
theorem d_G_isPackedWalk_57 : decode c_G_isPackedWalk 57 = .ok (.isub, 1) := by decide +kernel
theorem d_G_isPackedWalk_58 : decode c_G_isPackedWalk 58 = .ok (.invokestatic 160, 3) := by decide +kernel
theorem d_G_isPackedWalk_61 : decode c_G_isPackedWalk 61 = .ok (.iaload, 1) := by decide +kernel
theorem d_G_isPackedWalk_62 : decode c_G_isPackedWalk 62 = .ok (.if_icmp .eq 5, 3) := by decide +kernel
theorem d_G_isPackedWalk_65 : decode c_G_isPackedWalk 65 = .ok (.iconst 0, 1) := by decide +kernel
theorem d_G_isPackedWalk_66 : decode c_G_isPackedWalk 66 = .ok (.ireturn, 1) := by decide +kernel
theorem d_G_isPackedWalk_67 : decode c_G_isPackedWalk 67 = .ok (.iinc 4 1, 3) := by decide +kernel
theorem d_G_isPackedWalk_70 : decode c_G_isPackedWalk 70 = .ok (.goto (-67), 3) := by decide +kernel
theorem d_G_isPackedWalk_73 : decode c_G_isPackedWalk 73 = .ok (.iconst 1, 1) := by decide +kernel
theorem d_G_isPackedWalk_74 : decode c_G_isPackedWalk 74 = .ok (.ireturn, 1) := by decide +kernel
abbrev c_G_isPackedWalkSafe : ByteArray := prog_1_method_19_code
def y_G_isPackedWalkSafe : MethodName := ⟨"ReadGraph", "isPackedWalkSafe", "(JI)Z"⟩
theorem d_G_isPackedWalkSafe_0 : decode c_G_isPackedWalkSafe 0 = .ok (.iconst 1, 1) := by decide +kernel
theorem d_G_isPackedWalkSafe_1 : decode c_G_isPackedWalkSafe 1 = .ok (.istore 4, 2) := by decide +kernel
theorem d_G_isPackedWalkSafe_3 : decode c_G_isPackedWalkSafe 3 = .ok (.iload 4, 2) := by decide +kernel
theorem d_G_isPackedWalkSafe_5 : decode c_G_isPackedWalkSafe 5 = .ok (.iload_n 3, 1) := by decide +kernel
theorem d_G_isPackedWalkSafe_6 : decode c_G_isPackedWalkSafe 6 = .ok (.if_icmp .ge 51, 3) := by decide +kernel
theorem d_G_isPackedWalkSafe_9 : decode c_G_isPackedWalkSafe 9 = .ok (.iconst 0, 1) := by decide +kernel
theorem d_G_isPackedWalkSafe_10 : decode c_G_isPackedWalkSafe 10 = .ok (.istore 5, 2) := by decide +kernel
theorem d_G_isPackedWalkSafe_12 : decode c_G_isPackedWalkSafe 12 = .ok (.iload 5, 2) := by decide +kernel
theorem d_G_isPackedWalkSafe_14 : decode c_G_isPackedWalkSafe 14 = .ok (.iload 4, 2) := by decide +kernel
theorem d_G_isPackedWalkSafe_16 : decode c_G_isPackedWalkSafe 16 = .ok (.if_icmp .ge 35, 3) := by decide +kernel
theorem d_G_isPackedWalkSafe_19 : decode c_G_isPackedWalkSafe 19 = .ok (.aload_n 0, 1) := by decide +kernel
theorem d_G_isPackedWalkSafe_20 : decode c_G_isPackedWalkSafe 20 = .ok (.getfield 19, 3) := by decide +kernel
theorem d_G_isPackedWalkSafe_23 : decode c_G_isPackedWalkSafe 23 = .ok (.lload_n 1, 1) := by decide +kernel
theorem d_G_isPackedWalkSafe_24 : decode c_G_isPackedWalkSafe 24 = .ok (.iload_n 3, 1) := by decide +kernel
theorem d_G_isPackedWalkSafe_25 : decode c_G_isPackedWalkSafe 25 = .ok (.iload 5, 2) := by decide +kernel
theorem d_G_isPackedWalkSafe_27 : decode c_G_isPackedWalkSafe 27 = .ok (.invokestatic 160, 3) := by decide +kernel
theorem d_G_isPackedWalkSafe_30 : decode c_G_isPackedWalkSafe 30 = .ok (.lload_n 1, 1) := by decide +kernel
theorem d_G_isPackedWalkSafe_31 : decode c_G_isPackedWalkSafe 31 = .ok (.iload_n 3, 1) := by decide +kernel
theorem d_G_isPackedWalkSafe_32 : decode c_G_isPackedWalkSafe 32 = .ok (.iload 4, 2) := by decide +kernel
theorem d_G_isPackedWalkSafe_34 : decode c_G_isPackedWalkSafe 34 = .ok (.invokestatic 160, 3) := by decide +kernel
theorem d_G_isPackedWalkSafe_37 : decode c_G_isPackedWalkSafe 37 = .ok (.invokevirtual 164, 3) := by decide +kernel
theorem d_G_isPackedWalkSafe_40 : decode c_G_isPackedWalkSafe 40 = .ok (.ifCond .eq 5, 3) := by decide +kernel
theorem d_G_isPackedWalkSafe_43 : decode c_G_isPackedWalkSafe 43 = .ok (.iconst 0, 1) := by decide +kernel
theorem d_G_isPackedWalkSafe_44 : decode c_G_isPackedWalkSafe 44 = .ok (.ireturn, 1) := by decide +kernel
theorem d_G_isPackedWalkSafe_45 : decode c_G_isPackedWalkSafe 45 = .ok (.iinc 5 1, 3) := by decide +kernel
theorem d_G_isPackedWalkSafe_48 : decode c_G_isPackedWalkSafe 48 = .ok (.goto (-36), 3) := by decide +kernel
theorem d_G_isPackedWalkSafe_51 : decode c_G_isPackedWalkSafe 51 = .ok (.iinc 4 1, 3) := by decide +kernel
theorem d_G_isPackedWalkSafe_54 : decode c_G_isPackedWalkSafe 54 = .ok (.goto (-51), 3) := by decide +kernel
theorem d_G_isPackedWalkSafe_57 : decode c_G_isPackedWalkSafe 57 = .ok (.iconst 1, 1) := by decide +kernel
theorem d_G_isPackedWalkSafe_58 : decode c_G_isPackedWalkSafe 58 = .ok (.ireturn, 1) := by decide +kernel
abbrev c_G_packedEdge : ByteArray := prog_1_method_20_code
def y_G_packedEdge : MethodName := ⟨"ReadGraph", "packedEdge", "(JII)I"⟩
theorem d_G_packedEdge_0 : decode c_G_packedEdge 0 = .ok (.lload_n 0, 1) := by decide +kernel
theorem d_G_packedEdge_1 : decode c_G_packedEdge 1 = .ok (.bipush 8, 2) := by decide +kernel
theorem d_G_packedEdge_3 : decode c_G_packedEdge 3 = .ok (.iload_n 2, 1) := by decide +kernel
theorem d_G_packedEdge_4 : decode c_G_packedEdge 4 = .ok (.iconst 1, 1) := by decide +kernel
theorem d_G_packedEdge_5 : decode c_G_packedEdge 5 = .ok (.isub, 1) := by decide +kernel
theorem d_G_packedEdge_6 : decode c_G_packedEdge 6 = .ok (.iload_n 3, 1) := by decide +kernel
theorem d_G_packedEdge_7 : decode c_G_packedEdge 7 = .ok (.isub, 1) := by decide +kernel
theorem d_G_packedEdge_8 : decode c_G_packedEdge 8 = .ok (.imul, 1) := by decide +kernel
theorem d_G_packedEdge_9 : decode c_G_packedEdge 9 = .ok (.lushr, 1) := by decide +kernel
theorem d_G_packedEdge_10 : decode c_G_packedEdge 10 = .ok (.l2i, 1) := by decide +kernel
theorem d_G_packedEdge_11 : decode c_G_packedEdge 11 = .ok (.sipush 255, 3) := by decide +kernel
theorem d_G_packedEdge_14 : decode c_G_packedEdge 14 = .ok (.iand, 1) := by decide +kernel
theorem d_G_packedEdge_15 : decode c_G_packedEdge 15 = .ok (.ireturn, 1) := by decide +kernel
abbrev c_G_spelledLength : ByteArray := prog_1_method_21_code
def y_G_spelledLength : MethodName := ⟨"ReadGraph", "spelledLength", "(I)I"⟩
theorem d_G_spelledLength_0 : decode c_G_spelledLength 0 = .ok (.aload_n 0, 1) := by decide +kernel
theorem d_G_spelledLength_1 : decode c_G_spelledLength 1 = .ok (.getfield 12, 3) := by decide +kernel
theorem d_G_spelledLength_4 : decode c_G_spelledLength 4 = .ok (.getfield 61, 3) := by decide +kernel
theorem d_G_spelledLength_7 : decode c_G_spelledLength 7 = .ok (.aload_n 0, 1) := by decide +kernel
theorem d_G_spelledLength_8 : decode c_G_spelledLength 8 = .ok (.getfield 19, 3) := by decide +kernel
theorem d_G_spelledLength_11 : decode c_G_spelledLength 11 = .ok (.getfield 103, 3) := by decide +kernel
theorem d_G_spelledLength_14 : decode c_G_spelledLength 14 = .ok (.aload_n 0, 1) := by decide +kernel
theorem d_G_spelledLength_15 : decode c_G_spelledLength 15 = .ok (.getfield 28, 3) := by decide +kernel
theorem d_G_spelledLength_18 : decode c_G_spelledLength 18 = .ok (.iload_n 1, 1) := by decide +kernel
theorem d_G_spelledLength_19 : decode c_G_spelledLength 19 = .ok (.iconst 0, 1) := by decide +kernel
theorem d_G_spelledLength_20 : decode c_G_spelledLength 20 = .ok (.invokevirtual 147, 3) := by decide +kernel
theorem d_G_spelledLength_23 : decode c_G_spelledLength 23 = .ok (.iaload, 1) := by decide +kernel
theorem d_G_spelledLength_24 : decode c_G_spelledLength 24 = .ok (.iaload, 1) := by decide +kernel
theorem d_G_spelledLength_25 : decode c_G_spelledLength 25 = .ok (.istore_n 2, 1) := by decide +kernel
theorem d_G_spelledLength_26 : decode c_G_spelledLength 26 = .ok (.iconst 0, 1) := by decide +kernel
theorem d_G_spelledLength_27 : decode c_G_spelledLength 27 = .ok (.istore_n 3, 1) := by decide +kernel
theorem d_G_spelledLength_28 : decode c_G_spelledLength 28 = .ok (.iload_n 3, 1) := by decide +kernel
theorem d_G_spelledLength_29 : decode c_G_spelledLength 29 = .ok (.aload_n 0, 1) := by decide +kernel
theorem d_G_spelledLength_30 : decode c_G_spelledLength 30 = .ok (.getfield 28, 3) := by decide +kernel
theorem d_G_spelledLength_33 : decode c_G_spelledLength 33 = .ok (.getfield 146, 3) := by decide +kernel
theorem d_G_spelledLength_36 : decode c_G_spelledLength 36 = .ok (.iload_n 1, 1) := by decide +kernel
theorem d_G_spelledLength_37 : decode c_G_spelledLength 37 = .ok (.iaload, 1) := by decide +kernel
theorem d_G_spelledLength_38 : decode c_G_spelledLength 38 = .ok (.if_icmp .ge 29, 3) := by decide +kernel
theorem d_G_spelledLength_41 : decode c_G_spelledLength 41 = .ok (.iload_n 2, 1) := by decide +kernel
theorem d_G_spelledLength_42 : decode c_G_spelledLength 42 = .ok (.aload_n 0, 1) := by decide +kernel
theorem d_G_spelledLength_43 : decode c_G_spelledLength 43 = .ok (.getfield 19, 3) := by decide +kernel
theorem d_G_spelledLength_46 : decode c_G_spelledLength 46 = .ok (.getfield 109, 3) := by decide +kernel
theorem d_G_spelledLength_49 : decode c_G_spelledLength 49 = .ok (.aload_n 0, 1) := by decide +kernel
theorem d_G_spelledLength_50 : decode c_G_spelledLength 50 = .ok (.getfield 28, 3) := by decide +kernel
theorem d_G_spelledLength_53 : decode c_G_spelledLength 53 = .ok (.iload_n 1, 1) := by decide +kernel
theorem d_G_spelledLength_54 : decode c_G_spelledLength 54 = .ok (.iload_n 3, 1) := by decide +kernel
theorem d_G_spelledLength_55 : decode c_G_spelledLength 55 = .ok (.invokevirtual 147, 3) := by decide +kernel
theorem d_G_spelledLength_58 : decode c_G_spelledLength 58 = .ok (.iaload, 1) := by decide +kernel
theorem d_G_spelledLength_59 : decode c_G_spelledLength 59 = .ok (.iadd, 1) := by decide +kernel
theorem d_G_spelledLength_60 : decode c_G_spelledLength 60 = .ok (.istore_n 2, 1) := by decide +kernel
theorem d_G_spelledLength_61 : decode c_G_spelledLength 61 = .ok (.iinc 3 1, 3) := by decide +kernel
theorem d_G_spelledLength_64 : decode c_G_spelledLength 64 = .ok (.goto (-36), 3) := by decide +kernel
theorem d_G_spelledLength_67 : decode c_G_spelledLength 67 = .ok (.iload_n 2, 1) := by decide +kernel
theorem d_G_spelledLength_68 : decode c_G_spelledLength 68 = .ok (.ireturn, 1) := by decide +kernel
abbrev c_G_spelledLetter : ByteArray := prog_1_method_22_code
def y_G_spelledLetter : MethodName := ⟨"ReadGraph", "spelledLetter", "(II)I"⟩
theorem d_G_spelledLetter_0 : decode c_G_spelledLetter 0 = .ok (.aload_n 0, 1) := by decide +kernel
theorem d_G_spelledLetter_1 : decode c_G_spelledLetter 1 = .ok (.getfield 19, 3) := by decide +kernel
theorem d_G_spelledLetter_4 : decode c_G_spelledLetter 4 = .ok (.getfield 103, 3) := by decide +kernel
theorem d_G_spelledLetter_7 : decode c_G_spelledLetter 7 = .ok (.aload_n 0, 1) := by decide +kernel
theorem d_G_spelledLetter_8 : decode c_G_spelledLetter 8 = .ok (.getfield 28, 3) := by decide +kernel
theorem d_G_spelledLetter_11 : decode c_G_spelledLetter 11 = .ok (.iload_n 1, 1) := by decide +kernel
theorem d_G_spelledLetter_12 : decode c_G_spelledLetter 12 = .ok (.iconst 0, 1) := by decide +kernel
theorem d_G_spelledLetter_13 : decode c_G_spelledLetter 13 = .ok (.invokevirtual 147, 3) := by decide +kernel
theorem d_G_spelledLetter_16 : decode c_G_spelledLetter 16 = .ok (.iaload, 1) := by decide +kernel
theorem d_G_spelledLetter_17 : decode c_G_spelledLetter 17 = .ok (.istore_n 3, 1) := by decide +kernel
theorem d_G_spelledLetter_18 : decode c_G_spelledLetter 18 = .ok (.iload_n 2, 1) := by decide +kernel
theorem d_G_spelledLetter_19 : decode c_G_spelledLetter 19 = .ok (.aload_n 0, 1) := by decide +kernel
theorem d_G_spelledLetter_20 : decode c_G_spelledLetter 20 = .ok (.getfield 12, 3) := by decide +kernel
theorem d_G_spelledLetter_23 : decode c_G_spelledLetter 23 = .ok (.getfield 61, 3) := by decide +kernel
theorem d_G_spelledLetter_26 : decode c_G_spelledLetter 26 = .ok (.iload_n 3, 1) := by decide +kernel
theorem d_G_spelledLetter_27 : decode c_G_spelledLetter 27 = .ok (.iaload, 1) := by decide +kernel
theorem d_G_spelledLetter_28 : decode c_G_spelledLetter 28 = .ok (.if_icmp .ge 13, 3) := by decide +kernel
theorem d_G_spelledLetter_31 : decode c_G_spelledLetter 31 = .ok (.aload_n 0, 1) := by decide +kernel
theorem d_G_spelledLetter_32 : decode c_G_spelledLetter 32 = .ok (.getfield 12, 3) := by decide +kernel
theorem d_G_spelledLetter_35 : decode c_G_spelledLetter 35 = .ok (.iload_n 3, 1) := by decide +kernel
theorem d_G_spelledLetter_36 : decode c_G_spelledLetter 36 = .ok (.iload_n 2, 1) := by decide +kernel
theorem d_G_spelledLetter_37 : decode c_G_spelledLetter 37 = .ok (.invokevirtual 70, 3) := by decide +kernel
theorem d_G_spelledLetter_40 : decode c_G_spelledLetter 40 = .ok (.ireturn, 1) := by decide +kernel
theorem d_G_spelledLetter_41 : decode c_G_spelledLetter 41 = .ok (.iload_n 2, 1) := by decide +kernel
theorem d_G_spelledLetter_42 : decode c_G_spelledLetter 42 = .ok (.aload_n 0, 1) := by decide +kernel
theorem d_G_spelledLetter_43 : decode c_G_spelledLetter 43 = .ok (.getfield 12, 3) := by decide +kernel
theorem d_G_spelledLetter_46 : decode c_G_spelledLetter 46 = .ok (.getfield 61, 3) := by decide +kernel
theorem d_G_spelledLetter_49 : decode c_G_spelledLetter 49 = .ok (.iload_n 3, 1) := by decide +kernel
theorem d_G_spelledLetter_50 : decode c_G_spelledLetter 50 = .ok (.iaload, 1) := by decide +kernel
theorem d_G_spelledLetter_51 : decode c_G_spelledLetter 51 = .ok (.isub, 1) := by decide +kernel
theorem d_G_spelledLetter_52 : decode c_G_spelledLetter 52 = .ok (.istore 4, 2) := by decide +kernel
theorem d_G_spelledLetter_54 : decode c_G_spelledLetter 54 = .ok (.iconst 0, 1) := by decide +kernel
theorem d_G_spelledLetter_55 : decode c_G_spelledLetter 55 = .ok (.istore 5, 2) := by decide +kernel
theorem d_G_spelledLetter_57 : decode c_G_spelledLetter 57 = .ok (.iload 5, 2) := by decide +kernel
theorem d_G_spelledLetter_59 : decode c_G_spelledLetter 59 = .ok (.aload_n 0, 1) := by decide +kernel
theorem d_G_spelledLetter_60 : decode c_G_spelledLetter 60 = .ok (.getfield 28, 3) := by decide +kernel
theorem d_G_spelledLetter_63 : decode c_G_spelledLetter 63 = .ok (.getfield 146, 3) := by decide +kernel
theorem d_G_spelledLetter_66 : decode c_G_spelledLetter 66 = .ok (.iload_n 1, 1) := by decide +kernel
theorem d_G_spelledLetter_67 : decode c_G_spelledLetter 67 = .ok (.iaload, 1) := by decide +kernel
theorem d_G_spelledLetter_68 : decode c_G_spelledLetter 68 = .ok (.if_icmp .ge 97, 3) := by decide +kernel
theorem d_G_spelledLetter_71 : decode c_G_spelledLetter 71 = .ok (.aload_n 0, 1) := by decide +kernel
theorem d_G_spelledLetter_72 : decode c_G_spelledLetter 72 = .ok (.getfield 28, 3) := by decide +kernel
theorem d_G_spelledLetter_75 : decode c_G_spelledLetter 75 = .ok (.iload_n 1, 1) := by decide +kernel
theorem d_G_spelledLetter_76 : decode c_G_spelledLetter 76 = .ok (.iload 5, 2) := by decide +kernel
theorem d_G_spelledLetter_78 : decode c_G_spelledLetter 78 = .ok (.invokevirtual 147, 3) := by decide +kernel
theorem d_G_spelledLetter_81 : decode c_G_spelledLetter 81 = .ok (.istore 6, 2) := by decide +kernel
theorem d_G_spelledLetter_83 : decode c_G_spelledLetter 83 = .ok (.aload_n 0, 1) := by decide +kernel
theorem d_G_spelledLetter_84 : decode c_G_spelledLetter 84 = .ok (.getfield 19, 3) := by decide +kernel
theorem d_G_spelledLetter_87 : decode c_G_spelledLetter 87 = .ok (.getfield 106, 3) := by decide +kernel
theorem d_G_spelledLetter_90 : decode c_G_spelledLetter 90 = .ok (.iload 6, 2) := by decide +kernel
theorem d_G_spelledLetter_92 : decode c_G_spelledLetter 92 = .ok (.iaload, 1) := by decide +kernel
theorem d_G_spelledLetter_93 : decode c_G_spelledLetter 93 = .ok (.istore 7, 2) := by decide +kernel
theorem d_G_spelledLetter_95 : decode c_G_spelledLetter 95 = .ok (.iload 4, 2) := by decide +kernel
theorem d_G_spelledLetter_97 : decode c_G_spelledLetter 97 = .ok (.aload_n 0, 1) := by decide +kernel
theorem d_G_spelledLetter_98 : decode c_G_spelledLetter 98 = .ok (.getfield 19, 3) := by decide +kernel
theorem d_G_spelledLetter_101 : decode c_G_spelledLetter 101 = .ok (.getfield 109, 3) := by decide +kernel
theorem d_G_spelledLetter_104 : decode c_G_spelledLetter 104 = .ok (.iload 6, 2) := by decide +kernel
theorem d_G_spelledLetter_106 : decode c_G_spelledLetter 106 = .ok (.iaload, 1) := by decide +kernel
theorem d_G_spelledLetter_107 : decode c_G_spelledLetter 107 = .ok (.if_icmp .ge 37, 3) := by decide +kernel
theorem d_G_spelledLetter_110 : decode c_G_spelledLetter 110 = .ok (.aload_n 0, 1) := by decide +kernel
theorem d_G_spelledLetter_111 : decode c_G_spelledLetter 111 = .ok (.getfield 12, 3) := by decide +kernel
theorem d_G_spelledLetter_114 : decode c_G_spelledLetter 114 = .ok (.iload 7, 2) := by decide +kernel
theorem d_G_spelledLetter_116 : decode c_G_spelledLetter 116 = .ok (.aload_n 0, 1) := by decide +kernel
theorem d_G_spelledLetter_117 : decode c_G_spelledLetter 117 = .ok (.getfield 12, 3) := by decide +kernel
theorem d_G_spelledLetter_120 : decode c_G_spelledLetter 120 = .ok (.getfield 61, 3) := by decide +kernel
theorem d_G_spelledLetter_123 : decode c_G_spelledLetter 123 = .ok (.iload 7, 2) := by decide +kernel
theorem d_G_spelledLetter_125 : decode c_G_spelledLetter 125 = .ok (.iaload, 1) := by decide +kernel
theorem d_G_spelledLetter_126 : decode c_G_spelledLetter 126 = .ok (.aload_n 0, 1) := by decide +kernel
theorem d_G_spelledLetter_127 : decode c_G_spelledLetter 127 = .ok (.getfield 19, 3) := by decide +kernel
theorem d_G_spelledLetter_130 : decode c_G_spelledLetter 130 = .ok (.getfield 109, 3) := by decide +kernel
theorem d_G_spelledLetter_133 : decode c_G_spelledLetter 133 = .ok (.iload 6, 2) := by decide +kernel
theorem d_G_spelledLetter_135 : decode c_G_spelledLetter 135 = .ok (.iaload, 1) := by decide +kernel
theorem d_G_spelledLetter_136 : decode c_G_spelledLetter 136 = .ok (.isub, 1) := by decide +kernel
theorem d_G_spelledLetter_137 : decode c_G_spelledLetter 137 = .ok (.iload 4, 2) := by decide +kernel
theorem d_G_spelledLetter_139 : decode c_G_spelledLetter 139 = .ok (.iadd, 1) := by decide +kernel
theorem d_G_spelledLetter_140 : decode c_G_spelledLetter 140 = .ok (.invokevirtual 70, 3) := by decide +kernel
theorem d_G_spelledLetter_143 : decode c_G_spelledLetter 143 = .ok (.ireturn, 1) := by decide +kernel
theorem d_G_spelledLetter_144 : decode c_G_spelledLetter 144 = .ok (.iload 4, 2) := by decide +kernel
theorem d_G_spelledLetter_146 : decode c_G_spelledLetter 146 = .ok (.aload_n 0, 1) := by decide +kernel
theorem d_G_spelledLetter_147 : decode c_G_spelledLetter 147 = .ok (.getfield 19, 3) := by decide +kernel
theorem d_G_spelledLetter_150 : decode c_G_spelledLetter 150 = .ok (.getfield 109, 3) := by decide +kernel
theorem d_G_spelledLetter_153 : decode c_G_spelledLetter 153 = .ok (.iload 6, 2) := by decide +kernel
theorem d_G_spelledLetter_155 : decode c_G_spelledLetter 155 = .ok (.iaload, 1) := by decide +kernel
theorem d_G_spelledLetter_156 : decode c_G_spelledLetter 156 = .ok (.isub, 1) := by decide +kernel
theorem d_G_spelledLetter_157 : decode c_G_spelledLetter 157 = .ok (.istore 4, 2) := by decide +kernel
theorem d_G_spelledLetter_159 : decode c_G_spelledLetter 159 = .ok (.iinc 5 1, 3) := by decide +kernel
theorem d_G_spelledLetter_162 : decode c_G_spelledLetter 162 = .ok (.goto (-105), 3) := by decide +kernel
theorem d_G_spelledLetter_165 : decode c_G_spelledLetter 165 = .ok (.iconst 0, 1) := by decide +kernel
theorem d_G_spelledLetter_166 : decode c_G_spelledLetter 166 = .ok (.ireturn, 1) := by decide +kernel
abbrev c_G_holds : ByteArray := prog_1_method_23_code
def y_G_holds : MethodName := ⟨"ReadGraph", "holds", "(II)Z"⟩
theorem d_G_holds_0 : decode c_G_holds 0 = .ok (.iload_n 0, 1) := by decide +kernel
theorem d_G_holds_1 : decode c_G_holds 1 = .ok (.iload_n 1, 1) := by decide +kernel
theorem d_G_holds_2 : decode c_G_holds 2 = .ok (.ishr, 1) := by decide +kernel
theorem d_G_holds_3 : decode c_G_holds 3 = .ok (.iconst 1, 1) := by decide +kernel
theorem d_G_holds_4 : decode c_G_holds 4 = .ok (.iand, 1) := by decide +kernel
theorem d_G_holds_5 : decode c_G_holds 5 = .ok (.ifCond .eq 7, 3) := by decide +kernel
theorem d_G_holds_8 : decode c_G_holds 8 = .ok (.iconst 1, 1) := by decide +kernel
theorem d_G_holds_9 : decode c_G_holds 9 = .ok (.goto 4, 3) := by decide +kernel
theorem d_G_holds_12 : decode c_G_holds 12 = .ok (.iconst 0, 1) := by decide +kernel
theorem d_G_holds_13 : decode c_G_holds 13 = .ok (.ireturn, 1) := by decide +kernel
abbrev c_R_init : ByteArray := prog_3_method_1_code
def y_R_init : MethodName := ⟨"ReadGraph$Reads", "<init>", "()V"⟩
theorem d_R_init_0 : decode c_R_init 0 = .ok (.aload_n 0, 1) := by decide +kernel
theorem d_R_init_1 : decode c_R_init 1 = .ok (.invokespecial 3, 3) := by decide +kernel
theorem d_R_init_4 : decode c_R_init 4 = .ok (.aload_n 0, 1) := by decide +kernel
theorem d_R_init_5 : decode c_R_init 5 = .ok (.bipush 9, 2) := by decide +kernel
theorem d_R_init_7 : decode c_R_init 7 = .ok (.newarray .int, 2) := by decide +kernel
theorem d_R_init_9 : decode c_R_init 9 = .ok (.putfield 9, 3) := by decide +kernel
theorem d_R_init_12 : decode c_R_init 12 = .ok (.aload_n 0, 1) := by decide +kernel
theorem d_R_init_13 : decode c_R_init 13 = .ok (.bipush 9, 2) := by decide +kernel
theorem d_R_init_15 : decode c_R_init 15 = .ok (.newarray .int, 2) := by decide +kernel
theorem d_R_init_17 : decode c_R_init 17 = .ok (.putfield 15, 3) := by decide +kernel
theorem d_R_init_20 : decode c_R_init 20 = .ok (.return_, 1) := by decide +kernel
abbrev c_R_add : ByteArray := prog_3_method_2_code
def y_R_add : MethodName := ⟨"ReadGraph$Reads", "add", "(II)I"⟩
theorem d_R_add_0 : decode c_R_add 0 = .ok (.aload_n 0, 1) := by decide +kernel
theorem d_R_add_1 : decode c_R_add 1 = .ok (.getfield 9, 3) := by decide +kernel
theorem d_R_add_4 : decode c_R_add 4 = .ok (.aload_n 0, 1) := by decide +kernel
theorem d_R_add_5 : decode c_R_add 5 = .ok (.getfield 18, 3) := by decide +kernel
theorem d_R_add_8 : decode c_R_add 8 = .ok (.iload_n 1, 1) := by decide +kernel
theorem d_R_add_9 : decode c_R_add 9 = .ok (.iload_n 2, 1) := by decide +kernel
theorem d_R_add_10 : decode c_R_add 10 = .ok (.invokestatic 22, 3) := by decide +kernel
theorem d_R_add_13 : decode c_R_add 13 = .ok (.iastore, 1) := by decide +kernel
theorem d_R_add_14 : decode c_R_add 14 = .ok (.aload_n 0, 1) := by decide +kernel
theorem d_R_add_15 : decode c_R_add 15 = .ok (.getfield 15, 3) := by decide +kernel
theorem d_R_add_18 : decode c_R_add 18 = .ok (.aload_n 0, 1) := by decide +kernel
theorem d_R_add_19 : decode c_R_add 19 = .ok (.getfield 18, 3) := by decide +kernel
theorem d_R_add_22 : decode c_R_add 22 = .ok (.iload_n 2, 1) := by decide +kernel
theorem d_R_add_23 : decode c_R_add 23 = .ok (.iastore, 1) := by decide +kernel
theorem d_R_add_24 : decode c_R_add 24 = .ok (.aload_n 0, 1) := by decide +kernel
theorem d_R_add_25 : decode c_R_add 25 = .ok (.dup, 1) := by decide +kernel
theorem d_R_add_26 : decode c_R_add 26 = .ok (.getfield 18, 3) := by decide +kernel
theorem d_R_add_29 : decode c_R_add 29 = .ok (.iconst 1, 1) := by decide +kernel
theorem d_R_add_30 : decode c_R_add 30 = .ok (.iadd, 1) := by decide +kernel
theorem d_R_add_31 : decode c_R_add 31 = .ok (.putfield 18, 3) := by decide +kernel
theorem d_R_add_34 : decode c_R_add 34 = .ok (.aload_n 0, 1) := by decide +kernel
theorem d_R_add_35 : decode c_R_add 35 = .ok (.getfield 18, 3) := by decide +kernel
theorem d_R_add_38 : decode c_R_add 38 = .ok (.iconst 1, 1) := by decide +kernel
theorem d_R_add_39 : decode c_R_add 39 = .ok (.isub, 1) := by decide +kernel
theorem d_R_add_40 : decode c_R_add 40 = .ok (.ireturn, 1) := by decide +kernel
abbrev c_R_has : ByteArray := prog_3_method_3_code
def y_R_has : MethodName := ⟨"ReadGraph$Reads", "has", "(I)Z"⟩
theorem d_R_has_0 : decode c_R_has 0 = .ok (.iload_n 1, 1) := by decide +kernel
theorem d_R_has_1 : decode c_R_has 1 = .ok (.ifCond .lt 15, 3) := by decide +kernel
theorem d_R_has_4 : decode c_R_has 4 = .ok (.iload_n 1, 1) := by decide +kernel
theorem d_R_has_5 : decode c_R_has 5 = .ok (.aload_n 0, 1) := by decide +kernel
theorem d_R_has_6 : decode c_R_has 6 = .ok (.getfield 18, 3) := by decide +kernel
theorem d_R_has_9 : decode c_R_has 9 = .ok (.if_icmp .ge 7, 3) := by decide +kernel
theorem d_R_has_12 : decode c_R_has 12 = .ok (.iconst 1, 1) := by decide +kernel
theorem d_R_has_13 : decode c_R_has 13 = .ok (.goto 4, 3) := by decide +kernel
theorem d_R_has_16 : decode c_R_has 16 = .ok (.iconst 0, 1) := by decide +kernel
theorem d_R_has_17 : decode c_R_has 17 = .ok (.ireturn, 1) := by decide +kernel
abbrev c_R_letterAt : ByteArray := prog_3_method_4_code
def y_R_letterAt : MethodName := ⟨"ReadGraph$Reads", "letterAt", "(II)I"⟩
theorem d_R_letterAt_0 : decode c_R_letterAt 0 = .ok (.aload_n 0, 1) := by decide +kernel
theorem d_R_letterAt_1 : decode c_R_letterAt 1 = .ok (.getfield 9, 3) := by decide +kernel
theorem d_R_letterAt_4 : decode c_R_letterAt 4 = .ok (.iload_n 1, 1) := by decide +kernel
theorem d_R_letterAt_5 : decode c_R_letterAt 5 = .ok (.iaload, 1) := by decide +kernel
theorem d_R_letterAt_6 : decode c_R_letterAt 6 = .ok (.iconst 2, 1) := by decide +kernel
theorem d_R_letterAt_7 : decode c_R_letterAt 7 = .ok (.aload_n 0, 1) := by decide +kernel
theorem d_R_letterAt_8 : decode c_R_letterAt 8 = .ok (.getfield 15, 3) := by decide +kernel
theorem d_R_letterAt_11 : decode c_R_letterAt 11 = .ok (.iload_n 1, 1) := by decide +kernel
theorem d_R_letterAt_12 : decode c_R_letterAt 12 = .ok (.iaload, 1) := by decide +kernel
theorem d_R_letterAt_13 : decode c_R_letterAt 13 = .ok (.iconst 1, 1) := by decide +kernel
theorem d_R_letterAt_14 : decode c_R_letterAt 14 = .ok (.isub, 1) := by decide +kernel
theorem d_R_letterAt_15 : decode c_R_letterAt 15 = .ok (.iload_n 2, 1) := by decide +kernel
theorem d_R_letterAt_16 : decode c_R_letterAt 16 = .ok (.isub, 1) := by decide +kernel
theorem d_R_letterAt_17 : decode c_R_letterAt 17 = .ok (.imul, 1) := by decide +kernel
theorem d_R_letterAt_18 : decode c_R_letterAt 18 = .ok (.ishr, 1) := by decide +kernel
theorem d_R_letterAt_19 : decode c_R_letterAt 19 = .ok (.iconst 3, 1) := by decide +kernel
theorem d_R_letterAt_20 : decode c_R_letterAt 20 = .ok (.iand, 1) := by decide +kernel
theorem d_R_letterAt_21 : decode c_R_letterAt 21 = .ok (.ireturn, 1) := by decide +kernel
abbrev c_R_isNode : ByteArray := prog_3_method_5_code
def y_R_isNode : MethodName := ⟨"ReadGraph$Reads", "isNode", "(I)Z"⟩
theorem d_R_isNode_0 : decode c_R_isNode 0 = .ok (.aload_n 0, 1) := by decide +kernel
theorem d_R_isNode_1 : decode c_R_isNode 1 = .ok (.iload_n 1, 1) := by decide +kernel
theorem d_R_isNode_2 : decode c_R_isNode 2 = .ok (.invokevirtual 26, 3) := by decide +kernel
theorem d_R_isNode_5 : decode c_R_isNode 5 = .ok (.ifCond .ne 5, 3) := by decide +kernel
theorem d_R_isNode_8 : decode c_R_isNode 8 = .ok (.iconst 0, 1) := by decide +kernel
theorem d_R_isNode_9 : decode c_R_isNode 9 = .ok (.ireturn, 1) := by decide +kernel
theorem d_R_isNode_10 : decode c_R_isNode 10 = .ok (.iconst 0, 1) := by decide +kernel
theorem d_R_isNode_11 : decode c_R_isNode 11 = .ok (.istore_n 2, 1) := by decide +kernel
theorem d_R_isNode_12 : decode c_R_isNode 12 = .ok (.iload_n 2, 1) := by decide +kernel
theorem d_R_isNode_13 : decode c_R_isNode 13 = .ok (.aload_n 0, 1) := by decide +kernel
theorem d_R_isNode_14 : decode c_R_isNode 14 = .ok (.getfield 18, 3) := by decide +kernel
theorem d_R_isNode_17 : decode c_R_isNode 17 = .ok (.if_icmp .ge 20, 3) := by decide +kernel
theorem d_R_isNode_20 : decode c_R_isNode 20 = .ok (.aload_n 0, 1) := by decide +kernel
theorem d_R_isNode_21 : decode c_R_isNode 21 = .ok (.iload_n 1, 1) := by decide +kernel
theorem d_R_isNode_22 : decode c_R_isNode 22 = .ok (.iload_n 2, 1) := by decide +kernel
theorem d_R_isNode_23 : decode c_R_isNode 23 = .ok (.invokevirtual 30, 3) := by decide +kernel
theorem d_R_isNode_26 : decode c_R_isNode 26 = .ok (.ifCond .eq 5, 3) := by decide +kernel
theorem d_R_isNode_29 : decode c_R_isNode 29 = .ok (.iconst 0, 1) := by decide +kernel
theorem d_R_isNode_30 : decode c_R_isNode 30 = .ok (.ireturn, 1) := by decide +kernel
theorem d_R_isNode_31 : decode c_R_isNode 31 = .ok (.iinc 2 1, 3) := by decide +kernel
theorem d_R_isNode_34 : decode c_R_isNode 34 = .ok (.goto (-22), 3) := by decide +kernel
theorem d_R_isNode_37 : decode c_R_isNode 37 = .ok (.iconst 1, 1) := by decide +kernel
theorem d_R_isNode_38 : decode c_R_isNode 38 = .ok (.ireturn, 1) := by decide +kernel
abbrev c_R_isSaidBy : ByteArray := prog_3_method_6_code
def y_R_isSaidBy : MethodName := ⟨"ReadGraph$Reads", "isSaidBy", "(II)Z"⟩
theorem d_R_isSaidBy_0 : decode c_R_isSaidBy 0 = .ok (.aload_n 0, 1) := by decide +kernel
theorem d_R_isSaidBy_1 : decode c_R_isSaidBy 1 = .ok (.getfield 15, 3) := by decide +kernel
theorem d_R_isSaidBy_4 : decode c_R_isSaidBy 4 = .ok (.iload_n 2, 1) := by decide +kernel
theorem d_R_isSaidBy_5 : decode c_R_isSaidBy 5 = .ok (.iaload, 1) := by decide +kernel
theorem d_R_isSaidBy_6 : decode c_R_isSaidBy 6 = .ok (.aload_n 0, 1) := by decide +kernel
theorem d_R_isSaidBy_7 : decode c_R_isSaidBy 7 = .ok (.getfield 15, 3) := by decide +kernel
theorem d_R_isSaidBy_10 : decode c_R_isSaidBy 10 = .ok (.iload_n 1, 1) := by decide +kernel
theorem d_R_isSaidBy_11 : decode c_R_isSaidBy 11 = .ok (.iaload, 1) := by decide +kernel
theorem d_R_isSaidBy_12 : decode c_R_isSaidBy 12 = .ok (.if_icmp .ne 29, 3) := by decide +kernel
theorem d_R_isSaidBy_15 : decode c_R_isSaidBy 15 = .ok (.iload_n 2, 1) := by decide +kernel
theorem d_R_isSaidBy_16 : decode c_R_isSaidBy 16 = .ok (.iload_n 1, 1) := by decide +kernel
theorem d_R_isSaidBy_17 : decode c_R_isSaidBy 17 = .ok (.if_icmp .ge 22, 3) := by decide +kernel
theorem d_R_isSaidBy_20 : decode c_R_isSaidBy 20 = .ok (.aload_n 0, 1) := by decide +kernel
theorem d_R_isSaidBy_21 : decode c_R_isSaidBy 21 = .ok (.getfield 9, 3) := by decide +kernel
theorem d_R_isSaidBy_24 : decode c_R_isSaidBy 24 = .ok (.iload_n 2, 1) := by decide +kernel
theorem d_R_isSaidBy_25 : decode c_R_isSaidBy 25 = .ok (.iaload, 1) := by decide +kernel
theorem d_R_isSaidBy_26 : decode c_R_isSaidBy 26 = .ok (.aload_n 0, 1) := by decide +kernel
theorem d_R_isSaidBy_27 : decode c_R_isSaidBy 27 = .ok (.getfield 9, 3) := by decide +kernel
theorem d_R_isSaidBy_30 : decode c_R_isSaidBy 30 = .ok (.iload_n 1, 1) := by decide +kernel
theorem d_R_isSaidBy_31 : decode c_R_isSaidBy 31 = .ok (.iaload, 1) := by decide +kernel
theorem d_R_isSaidBy_32 : decode c_R_isSaidBy 32 = .ok (.if_icmp .ne 7, 3) := by decide +kernel
theorem d_R_isSaidBy_35 : decode c_R_isSaidBy 35 = .ok (.iconst 1, 1) := by decide +kernel
theorem d_R_isSaidBy_36 : decode c_R_isSaidBy 36 = .ok (.goto 4, 3) := by decide +kernel
theorem d_R_isSaidBy_39 : decode c_R_isSaidBy 39 = .ok (.iconst 0, 1) := by decide +kernel
theorem d_R_isSaidBy_40 : decode c_R_isSaidBy 40 = .ok (.ireturn, 1) := by decide +kernel
theorem d_R_isSaidBy_41 : decode c_R_isSaidBy 41 = .ok (.aload_n 0, 1) := by decide +kernel
theorem d_R_isSaidBy_42 : decode c_R_isSaidBy 42 = .ok (.getfield 15, 3) := by decide +kernel
theorem d_R_isSaidBy_45 : decode c_R_isSaidBy 45 = .ok (.iload_n 2, 1) := by decide +kernel
theorem d_R_isSaidBy_46 : decode c_R_isSaidBy 46 = .ok (.iaload, 1) := by decide +kernel
theorem d_R_isSaidBy_47 : decode c_R_isSaidBy 47 = .ok (.aload_n 0, 1) := by decide +kernel
theorem d_R_isSaidBy_48 : decode c_R_isSaidBy 48 = .ok (.getfield 15, 3) := by decide +kernel
theorem d_R_isSaidBy_51 : decode c_R_isSaidBy 51 = .ok (.iload_n 1, 1) := by decide +kernel
theorem d_R_isSaidBy_52 : decode c_R_isSaidBy 52 = .ok (.iaload, 1) := by decide +kernel
theorem d_R_isSaidBy_53 : decode c_R_isSaidBy 53 = .ok (.isub, 1) := by decide +kernel
theorem d_R_isSaidBy_54 : decode c_R_isSaidBy 54 = .ok (.istore_n 3, 1) := by decide +kernel
theorem d_R_isSaidBy_55 : decode c_R_isSaidBy 55 = .ok (.iload_n 3, 1) := by decide +kernel
theorem d_R_isSaidBy_56 : decode c_R_isSaidBy 56 = .ok (.ifCond .lt 39, 3) := by decide +kernel
theorem d_R_isSaidBy_59 : decode c_R_isSaidBy 59 = .ok (.aload_n 0, 1) := by decide +kernel
theorem d_R_isSaidBy_60 : decode c_R_isSaidBy 60 = .ok (.getfield 9, 3) := by decide +kernel
theorem d_R_isSaidBy_63 : decode c_R_isSaidBy 63 = .ok (.iload_n 2, 1) := by decide +kernel
theorem d_R_isSaidBy_64 : decode c_R_isSaidBy 64 = .ok (.iaload, 1) := by decide +kernel
theorem d_R_isSaidBy_65 : decode c_R_isSaidBy 65 = .ok (.iconst 2, 1) := by decide +kernel
theorem d_R_isSaidBy_66 : decode c_R_isSaidBy 66 = .ok (.iload_n 3, 1) := by decide +kernel
theorem d_R_isSaidBy_67 : decode c_R_isSaidBy 67 = .ok (.imul, 1) := by decide +kernel
theorem d_R_isSaidBy_68 : decode c_R_isSaidBy 68 = .ok (.ishr, 1) := by decide +kernel
theorem d_R_isSaidBy_69 : decode c_R_isSaidBy 69 = .ok (.aload_n 0, 1) := by decide +kernel
theorem d_R_isSaidBy_70 : decode c_R_isSaidBy 70 = .ok (.getfield 15, 3) := by decide +kernel
theorem d_R_isSaidBy_73 : decode c_R_isSaidBy 73 = .ok (.iload_n 1, 1) := by decide +kernel
theorem d_R_isSaidBy_74 : decode c_R_isSaidBy 74 = .ok (.iaload, 1) := by decide +kernel
theorem d_R_isSaidBy_75 : decode c_R_isSaidBy 75 = .ok (.invokestatic 22, 3) := by decide +kernel
theorem d_R_isSaidBy_78 : decode c_R_isSaidBy 78 = .ok (.aload_n 0, 1) := by decide +kernel
theorem d_R_isSaidBy_79 : decode c_R_isSaidBy 79 = .ok (.getfield 9, 3) := by decide +kernel
theorem d_R_isSaidBy_82 : decode c_R_isSaidBy 82 = .ok (.iload_n 1, 1) := by decide +kernel
theorem d_R_isSaidBy_83 : decode c_R_isSaidBy 83 = .ok (.iaload, 1) := by decide +kernel
theorem d_R_isSaidBy_84 : decode c_R_isSaidBy 84 = .ok (.if_icmp .ne 5, 3) := by decide +kernel
theorem d_R_isSaidBy_87 : decode c_R_isSaidBy 87 = .ok (.iconst 1, 1) := by decide +kernel
theorem d_R_isSaidBy_88 : decode c_R_isSaidBy 88 = .ok (.ireturn, 1) := by decide +kernel
theorem d_R_isSaidBy_89 : decode c_R_isSaidBy 89 = .ok (.iinc 3 (-1), 3) := by decide +kernel
theorem d_R_isSaidBy_92 : decode c_R_isSaidBy 92 = .ok (.goto (-37), 3) := by decide +kernel
theorem d_R_isSaidBy_95 : decode c_R_isSaidBy 95 = .ok (.iconst 0, 1) := by decide +kernel
theorem d_R_isSaidBy_96 : decode c_R_isSaidBy 96 = .ok (.ireturn, 1) := by decide +kernel
abbrev c_R_lettersShared : ByteArray := prog_3_method_7_code
def y_R_lettersShared : MethodName := ⟨"ReadGraph$Reads", "lettersShared", "(III)I"⟩
theorem d_R_lettersShared_0 : decode c_R_lettersShared 0 = .ok (.aload_n 0, 1) := by decide +kernel
theorem d_R_lettersShared_1 : decode c_R_lettersShared 1 = .ok (.getfield 15, 3) := by decide +kernel
theorem d_R_lettersShared_4 : decode c_R_lettersShared 4 = .ok (.iload_n 1, 1) := by decide +kernel
theorem d_R_lettersShared_5 : decode c_R_lettersShared 5 = .ok (.iaload, 1) := by decide +kernel
theorem d_R_lettersShared_6 : decode c_R_lettersShared 6 = .ok (.aload_n 0, 1) := by decide +kernel
theorem d_R_lettersShared_7 : decode c_R_lettersShared 7 = .ok (.getfield 15, 3) := by decide +kernel
theorem d_R_lettersShared_10 : decode c_R_lettersShared 10 = .ok (.iload_n 2, 1) := by decide +kernel
theorem d_R_lettersShared_11 : decode c_R_lettersShared 11 = .ok (.iaload, 1) := by decide +kernel
theorem d_R_lettersShared_12 : decode c_R_lettersShared 12 = .ok (.invokestatic 34, 3) := by decide +kernel
theorem d_R_lettersShared_15 : decode c_R_lettersShared 15 = .ok (.iconst 1, 1) := by decide +kernel
theorem d_R_lettersShared_16 : decode c_R_lettersShared 16 = .ok (.isub, 1) := by decide +kernel
theorem d_R_lettersShared_17 : decode c_R_lettersShared 17 = .ok (.istore 4, 2) := by decide +kernel
theorem d_R_lettersShared_19 : decode c_R_lettersShared 19 = .ok (.iload 4, 2) := by decide +kernel
theorem d_R_lettersShared_21 : decode c_R_lettersShared 21 = .ok (.iload_n 3, 1) := by decide +kernel
theorem d_R_lettersShared_22 : decode c_R_lettersShared 22 = .ok (.if_icmp .lt 44, 3) := by decide +kernel
theorem d_R_lettersShared_25 : decode c_R_lettersShared 25 = .ok (.aload_n 0, 1) := by decide +kernel
theorem d_R_lettersShared_26 : decode c_R_lettersShared 26 = .ok (.getfield 9, 3) := by decide +kernel
theorem d_R_lettersShared_29 : decode c_R_lettersShared 29 = .ok (.iload_n 1, 1) := by decide +kernel
theorem d_R_lettersShared_30 : decode c_R_lettersShared 30 = .ok (.iaload, 1) := by decide +kernel
theorem d_R_lettersShared_31 : decode c_R_lettersShared 31 = .ok (.iload 4, 2) := by decide +kernel
theorem d_R_lettersShared_33 : decode c_R_lettersShared 33 = .ok (.invokestatic 22, 3) := by decide +kernel
theorem d_R_lettersShared_36 : decode c_R_lettersShared 36 = .ok (.aload_n 0, 1) := by decide +kernel
theorem d_R_lettersShared_37 : decode c_R_lettersShared 37 = .ok (.getfield 9, 3) := by decide +kernel
theorem d_R_lettersShared_40 : decode c_R_lettersShared 40 = .ok (.iload_n 2, 1) := by decide +kernel
theorem d_R_lettersShared_41 : decode c_R_lettersShared 41 = .ok (.iaload, 1) := by decide +kernel
theorem d_R_lettersShared_42 : decode c_R_lettersShared 42 = .ok (.iconst 2, 1) := by decide +kernel
theorem d_R_lettersShared_43 : decode c_R_lettersShared 43 = .ok (.aload_n 0, 1) := by decide +kernel
theorem d_R_lettersShared_44 : decode c_R_lettersShared 44 = .ok (.getfield 15, 3) := by decide +kernel
theorem d_R_lettersShared_47 : decode c_R_lettersShared 47 = .ok (.iload_n 2, 1) := by decide +kernel
theorem d_R_lettersShared_48 : decode c_R_lettersShared 48 = .ok (.iaload, 1) := by decide +kernel
theorem d_R_lettersShared_49 : decode c_R_lettersShared 49 = .ok (.iload 4, 2) := by decide +kernel
theorem d_R_lettersShared_51 : decode c_R_lettersShared 51 = .ok (.isub, 1) := by decide +kernel
theorem d_R_lettersShared_52 : decode c_R_lettersShared 52 = .ok (.imul, 1) := by decide +kernel
theorem d_R_lettersShared_53 : decode c_R_lettersShared 53 = .ok (.ishr, 1) := by decide +kernel
theorem d_R_lettersShared_54 : decode c_R_lettersShared 54 = .ok (.if_icmp .ne 6, 3) := by decide +kernel
theorem d_R_lettersShared_57 : decode c_R_lettersShared 57 = .ok (.iload 4, 2) := by decide +kernel
theorem d_R_lettersShared_59 : decode c_R_lettersShared 59 = .ok (.ireturn, 1) := by decide +kernel
theorem d_R_lettersShared_60 : decode c_R_lettersShared 60 = .ok (.iinc 4 (-1), 3) := by decide +kernel
theorem d_R_lettersShared_63 : decode c_R_lettersShared 63 = .ok (.goto (-44), 3) := by decide +kernel
theorem d_R_lettersShared_66 : decode c_R_lettersShared 66 = .ok (.iconst 0, 1) := by decide +kernel
theorem d_R_lettersShared_67 : decode c_R_lettersShared 67 = .ok (.ireturn, 1) := by decide +kernel
abbrev c_R_lowest : ByteArray := prog_3_method_8_code
def y_R_lowest : MethodName := ⟨"ReadGraph$Reads", "lowest", "(II)I"⟩
theorem d_R_lowest_0 : decode c_R_lowest 0 = .ok (.iload_n 0, 1) := by decide +kernel
theorem d_R_lowest_1 : decode c_R_lowest 1 = .ok (.iconst 1, 1) := by decide +kernel
theorem d_R_lowest_2 : decode c_R_lowest 2 = .ok (.iconst 2, 1) := by decide +kernel
theorem d_R_lowest_3 : decode c_R_lowest 3 = .ok (.iload_n 1, 1) := by decide +kernel
theorem d_R_lowest_4 : decode c_R_lowest 4 = .ok (.imul, 1) := by decide +kernel
theorem d_R_lowest_5 : decode c_R_lowest 5 = .ok (.ishl, 1) := by decide +kernel
theorem d_R_lowest_6 : decode c_R_lowest 6 = .ok (.iconst 1, 1) := by decide +kernel
theorem d_R_lowest_7 : decode c_R_lowest 7 = .ok (.isub, 1) := by decide +kernel
theorem d_R_lowest_8 : decode c_R_lowest 8 = .ok (.iand, 1) := by decide +kernel
theorem d_R_lowest_9 : decode c_R_lowest 9 = .ok (.ireturn, 1) := by decide +kernel
abbrev c_J_bitCount : ByteArray := prog_11_method_49_code
def y_J_bitCount : MethodName := ⟨"java/lang/Integer", "bitCount", "(I)I"⟩
theorem d_J_bitCount_0 : decode c_J_bitCount 0 = .ok (.iload_n 0, 1) := by decide +kernel
theorem d_J_bitCount_1 : decode c_J_bitCount 1 = .ok (.iload_n 0, 1) := by decide +kernel
theorem d_J_bitCount_2 : decode c_J_bitCount 2 = .ok (.iconst 1, 1) := by decide +kernel
theorem d_J_bitCount_3 : decode c_J_bitCount 3 = .ok (.iushr, 1) := by decide +kernel
theorem d_J_bitCount_4 : decode c_J_bitCount 4 = .ok (.ldc_w 265, 3) := by decide +kernel
theorem d_J_bitCount_7 : decode c_J_bitCount 7 = .ok (.iand, 1) := by decide +kernel
theorem d_J_bitCount_8 : decode c_J_bitCount 8 = .ok (.isub, 1) := by decide +kernel
theorem d_J_bitCount_9 : decode c_J_bitCount 9 = .ok (.istore_n 0, 1) := by decide +kernel
theorem d_J_bitCount_10 : decode c_J_bitCount 10 = .ok (.iload_n 0, 1) := by decide +kernel
theorem d_J_bitCount_11 : decode c_J_bitCount 11 = .ok (.ldc_w 266, 3) := by decide +kernel
theorem d_J_bitCount_14 : decode c_J_bitCount 14 = .ok (.iand, 1) := by decide +kernel
theorem d_J_bitCount_15 : decode c_J_bitCount 15 = .ok (.iload_n 0, 1) := by decide +kernel
theorem d_J_bitCount_16 : decode c_J_bitCount 16 = .ok (.iconst 2, 1) := by decide +kernel
theorem d_J_bitCount_17 : decode c_J_bitCount 17 = .ok (.iushr, 1) := by decide +kernel
theorem d_J_bitCount_18 : decode c_J_bitCount 18 = .ok (.ldc_w 266, 3) := by decide +kernel
theorem d_J_bitCount_21 : decode c_J_bitCount 21 = .ok (.iand, 1) := by decide +kernel
theorem d_J_bitCount_22 : decode c_J_bitCount 22 = .ok (.iadd, 1) := by decide +kernel
theorem d_J_bitCount_23 : decode c_J_bitCount 23 = .ok (.istore_n 0, 1) := by decide +kernel
theorem d_J_bitCount_24 : decode c_J_bitCount 24 = .ok (.iload_n 0, 1) := by decide +kernel
theorem d_J_bitCount_25 : decode c_J_bitCount 25 = .ok (.iload_n 0, 1) := by decide +kernel
theorem d_J_bitCount_26 : decode c_J_bitCount 26 = .ok (.iconst 4, 1) := by decide +kernel
theorem d_J_bitCount_27 : decode c_J_bitCount 27 = .ok (.iushr, 1) := by decide +kernel
theorem d_J_bitCount_28 : decode c_J_bitCount 28 = .ok (.iadd, 1) := by decide +kernel
theorem d_J_bitCount_29 : decode c_J_bitCount 29 = .ok (.ldc_w 267, 3) := by decide +kernel
theorem d_J_bitCount_32 : decode c_J_bitCount 32 = .ok (.iand, 1) := by decide +kernel
theorem d_J_bitCount_33 : decode c_J_bitCount 33 = .ok (.istore_n 0, 1) := by decide +kernel
theorem d_J_bitCount_34 : decode c_J_bitCount 34 = .ok (.iload_n 0, 1) := by decide +kernel
theorem d_J_bitCount_35 : decode c_J_bitCount 35 = .ok (.iload_n 0, 1) := by decide +kernel
theorem d_J_bitCount_36 : decode c_J_bitCount 36 = .ok (.bipush 8, 2) := by decide +kernel
theorem d_J_bitCount_38 : decode c_J_bitCount 38 = .ok (.iushr, 1) := by decide +kernel
theorem d_J_bitCount_39 : decode c_J_bitCount 39 = .ok (.iadd, 1) := by decide +kernel
theorem d_J_bitCount_40 : decode c_J_bitCount 40 = .ok (.istore_n 0, 1) := by decide +kernel
theorem d_J_bitCount_41 : decode c_J_bitCount 41 = .ok (.iload_n 0, 1) := by decide +kernel
theorem d_J_bitCount_42 : decode c_J_bitCount 42 = .ok (.iload_n 0, 1) := by decide +kernel
theorem d_J_bitCount_43 : decode c_J_bitCount 43 = .ok (.bipush 16, 2) := by decide +kernel
theorem d_J_bitCount_45 : decode c_J_bitCount 45 = .ok (.iushr, 1) := by decide +kernel
theorem d_J_bitCount_46 : decode c_J_bitCount 46 = .ok (.iadd, 1) := by decide +kernel
theorem d_J_bitCount_47 : decode c_J_bitCount 47 = .ok (.istore_n 0, 1) := by decide +kernel
theorem d_J_bitCount_48 : decode c_J_bitCount 48 = .ok (.iload_n 0, 1) := by decide +kernel
theorem d_J_bitCount_49 : decode c_J_bitCount 49 = .ok (.bipush 63, 2) := by decide +kernel
theorem d_J_bitCount_51 : decode c_J_bitCount 51 = .ok (.iand, 1) := by decide +kernel
theorem d_J_bitCount_52 : decode c_J_bitCount 52 = .ok (.ireturn, 1) := by decide +kernel
abbrev c_J_min : ByteArray := prog_12_method_69_code
def y_J_min : MethodName := ⟨"java/lang/Math", "min", "(II)I"⟩
theorem d_J_min_0 : decode c_J_min 0 = .ok (.iload_n 0, 1) := by decide +kernel
theorem d_J_min_1 : decode c_J_min 1 = .ok (.iload_n 1, 1) := by decide +kernel
theorem d_J_min_2 : decode c_J_min 2 = .ok (.if_icmp .gt 7, 3) := by decide +kernel
theorem d_J_min_5 : decode c_J_min 5 = .ok (.iload_n 0, 1) := by decide +kernel
theorem d_J_min_6 : decode c_J_min 6 = .ok (.goto 4, 3) := by decide +kernel
theorem d_J_min_9 : decode c_J_min 9 = .ok (.iload_n 1, 1) := by decide +kernel
theorem d_J_min_10 : decode c_J_min 10 = .ok (.ireturn, 1) := by decide +kernel
end
section
/-! names and decode rows: Edges, Walks (by program) -/
abbrev c_E_init : ByteArray := prog_2_method_1_code
def y_E_init : MethodName := ⟨"ReadGraph$Edges", "<init>", "()V"⟩
theorem d_E_init_0 : decode c_E_init 0 = .ok (.aload_n 0, 1) := by decide +kernel
theorem d_E_init_1 : decode c_E_init 1 = .ok (.invokespecial 3, 3) := by decide +kernel
theorem d_E_init_4 : decode c_E_init 4 = .ok (.aload_n 0, 1) := by decide +kernel
theorem d_E_init_5 : decode c_E_init 5 = .ok (.bipush 81, 2) := by decide +kernel
theorem d_E_init_7 : decode c_E_init 7 = .ok (.newarray .int, 2) := by decide +kernel
theorem d_E_init_9 : decode c_E_init 9 = .ok (.putfield 9, 3) := by decide +kernel
theorem d_E_init_12 : decode c_E_init 12 = .ok (.aload_n 0, 1) := by decide +kernel
theorem d_E_init_13 : decode c_E_init 13 = .ok (.bipush 72, 2) := by decide +kernel
theorem d_E_init_15 : decode c_E_init 15 = .ok (.newarray .int, 2) := by decide +kernel
theorem d_E_init_17 : decode c_E_init 17 = .ok (.putfield 15, 3) := by decide +kernel
theorem d_E_init_20 : decode c_E_init 20 = .ok (.aload_n 0, 1) := by decide +kernel
theorem d_E_init_21 : decode c_E_init 21 = .ok (.bipush 72, 2) := by decide +kernel
theorem d_E_init_23 : decode c_E_init 23 = .ok (.newarray .int, 2) := by decide +kernel
theorem d_E_init_25 : decode c_E_init 25 = .ok (.putfield 18, 3) := by decide +kernel
theorem d_E_init_28 : decode c_E_init 28 = .ok (.aload_n 0, 1) := by decide +kernel
theorem d_E_init_29 : decode c_E_init 29 = .ok (.bipush 72, 2) := by decide +kernel
theorem d_E_init_31 : decode c_E_init 31 = .ok (.newarray .int, 2) := by decide +kernel
theorem d_E_init_33 : decode c_E_init 33 = .ok (.putfield 21, 3) := by decide +kernel
theorem d_E_init_36 : decode c_E_init 36 = .ok (.aload_n 0, 1) := by decide +kernel
theorem d_E_init_37 : decode c_E_init 37 = .ok (.bipush 10, 2) := by decide +kernel
theorem d_E_init_39 : decode c_E_init 39 = .ok (.newarray .int, 2) := by decide +kernel
theorem d_E_init_41 : decode c_E_init 41 = .ok (.putfield 24, 3) := by decide +kernel
theorem d_E_init_44 : decode c_E_init 44 = .ok (.aload_n 0, 1) := by decide +kernel
theorem d_E_init_45 : decode c_E_init 45 = .ok (.bipush 9, 2) := by decide +kernel
theorem d_E_init_47 : decode c_E_init 47 = .ok (.newarray .int, 2) := by decide +kernel
theorem d_E_init_49 : decode c_E_init 49 = .ok (.putfield 27, 3) := by decide +kernel
theorem d_E_init_52 : decode c_E_init 52 = .ok (.aload_n 0, 1) := by decide +kernel
theorem d_E_init_53 : decode c_E_init 53 = .ok (.bipush 9, 2) := by decide +kernel
theorem d_E_init_55 : decode c_E_init 55 = .ok (.newarray .int, 2) := by decide +kernel
theorem d_E_init_57 : decode c_E_init 57 = .ok (.putfield 30, 3) := by decide +kernel
theorem d_E_init_60 : decode c_E_init 60 = .ok (.aload_n 0, 1) := by decide +kernel
theorem d_E_init_61 : decode c_E_init 61 = .ok (.bipush 9, 2) := by decide +kernel
theorem d_E_init_63 : decode c_E_init 63 = .ok (.newarray .int, 2) := by decide +kernel
theorem d_E_init_65 : decode c_E_init 65 = .ok (.putfield 33, 3) := by decide +kernel
theorem d_E_init_68 : decode c_E_init 68 = .ok (.return_, 1) := by decide +kernel
abbrev c_E_has : ByteArray := prog_2_method_2_code
def y_E_has : MethodName := ⟨"ReadGraph$Edges", "has", "(I)Z"⟩
theorem d_E_has_0 : decode c_E_has 0 = .ok (.iload_n 1, 1) := by decide +kernel
theorem d_E_has_1 : decode c_E_has 1 = .ok (.ifCond .lt 15, 3) := by decide +kernel
theorem d_E_has_4 : decode c_E_has 4 = .ok (.iload_n 1, 1) := by decide +kernel
theorem d_E_has_5 : decode c_E_has 5 = .ok (.aload_n 0, 1) := by decide +kernel
theorem d_E_has_6 : decode c_E_has 6 = .ok (.getfield 36, 3) := by decide +kernel
theorem d_E_has_9 : decode c_E_has 9 = .ok (.if_icmp .ge 7, 3) := by decide +kernel
theorem d_E_has_12 : decode c_E_has 12 = .ok (.iconst 1, 1) := by decide +kernel
theorem d_E_has_13 : decode c_E_has 13 = .ok (.goto 4, 3) := by decide +kernel
theorem d_E_has_16 : decode c_E_has 16 = .ok (.iconst 0, 1) := by decide +kernel
theorem d_E_has_17 : decode c_E_has 17 = .ok (.ireturn, 1) := by decide +kernel
abbrev c_E_forget : ByteArray := prog_2_method_3_code
def y_E_forget : MethodName := ⟨"ReadGraph$Edges", "forget", "()V"⟩
theorem d_E_forget_0 : decode c_E_forget 0 = .ok (.iconst 0, 1) := by decide +kernel
theorem d_E_forget_1 : decode c_E_forget 1 = .ok (.istore_n 1, 1) := by decide +kernel
theorem d_E_forget_2 : decode c_E_forget 2 = .ok (.iload_n 1, 1) := by decide +kernel
theorem d_E_forget_3 : decode c_E_forget 3 = .ok (.bipush 9, 2) := by decide +kernel
theorem d_E_forget_5 : decode c_E_forget 5 = .ok (.if_icmp .ge 30, 3) := by decide +kernel
theorem d_E_forget_8 : decode c_E_forget 8 = .ok (.aload_n 0, 1) := by decide +kernel
theorem d_E_forget_9 : decode c_E_forget 9 = .ok (.getfield 27, 3) := by decide +kernel
theorem d_E_forget_12 : decode c_E_forget 12 = .ok (.iload_n 1, 1) := by decide +kernel
theorem d_E_forget_13 : decode c_E_forget 13 = .ok (.iconst 0, 1) := by decide +kernel
theorem d_E_forget_14 : decode c_E_forget 14 = .ok (.iastore, 1) := by decide +kernel
theorem d_E_forget_15 : decode c_E_forget 15 = .ok (.aload_n 0, 1) := by decide +kernel
theorem d_E_forget_16 : decode c_E_forget 16 = .ok (.getfield 30, 3) := by decide +kernel
theorem d_E_forget_19 : decode c_E_forget 19 = .ok (.iload_n 1, 1) := by decide +kernel
theorem d_E_forget_20 : decode c_E_forget 20 = .ok (.iconst 0, 1) := by decide +kernel
theorem d_E_forget_21 : decode c_E_forget 21 = .ok (.iastore, 1) := by decide +kernel
theorem d_E_forget_22 : decode c_E_forget 22 = .ok (.aload_n 0, 1) := by decide +kernel
theorem d_E_forget_23 : decode c_E_forget 23 = .ok (.getfield 33, 3) := by decide +kernel
theorem d_E_forget_26 : decode c_E_forget 26 = .ok (.iload_n 1, 1) := by decide +kernel
theorem d_E_forget_27 : decode c_E_forget 27 = .ok (.iconst 0, 1) := by decide +kernel
theorem d_E_forget_28 : decode c_E_forget 28 = .ok (.iastore, 1) := by decide +kernel
theorem d_E_forget_29 : decode c_E_forget 29 = .ok (.iinc 1 1, 3) := by decide +kernel
theorem d_E_forget_32 : decode c_E_forget 32 = .ok (.goto (-30), 3) := by decide +kernel
theorem d_E_forget_35 : decode c_E_forget 35 = .ok (.aload_n 0, 1) := by decide +kernel
theorem d_E_forget_36 : decode c_E_forget 36 = .ok (.iconst 0, 1) := by decide +kernel
theorem d_E_forget_37 : decode c_E_forget 37 = .ok (.putfield 40, 3) := by decide +kernel
theorem d_E_forget_40 : decode c_E_forget 40 = .ok (.aload_n 0, 1) := by decide +kernel
theorem d_E_forget_41 : decode c_E_forget 41 = .ok (.iconst 0, 1) := by decide +kernel
theorem d_E_forget_42 : decode c_E_forget 42 = .ok (.putfield 43, 3) := by decide +kernel
theorem d_E_forget_45 : decode c_E_forget 45 = .ok (.aload_n 0, 1) := by decide +kernel
theorem d_E_forget_46 : decode c_E_forget 46 = .ok (.iconst 0, 1) := by decide +kernel
theorem d_E_forget_47 : decode c_E_forget 47 = .ok (.putfield 36, 3) := by decide +kernel
theorem d_E_forget_50 : decode c_E_forget 50 = .ok (.return_, 1) := by decide +kernel
abbrev c_E_make : ByteArray := prog_2_method_4_code
def y_E_make : MethodName := ⟨"ReadGraph$Edges", "make", "(LReadGraph$Reads;I)V"⟩
theorem d_E_make_0 : decode c_E_make 0 = .ok (.aload_n 0, 1) := by decide +kernel
theorem d_E_make_1 : decode c_E_make 1 = .ok (.aload_n 1, 1) := by decide +kernel
theorem d_E_make_2 : decode c_E_make 2 = .ok (.invokevirtual 46, 3) := by decide +kernel
theorem d_E_make_5 : decode c_E_make 5 = .ok (.aload_n 0, 1) := by decide +kernel
theorem d_E_make_6 : decode c_E_make 6 = .ok (.aload_n 1, 1) := by decide +kernel
theorem d_E_make_7 : decode c_E_make 7 = .ok (.iload_n 2, 1) := by decide +kernel
theorem d_E_make_8 : decode c_E_make 8 = .ok (.invokevirtual 50, 3) := by decide +kernel
theorem d_E_make_11 : decode c_E_make 11 = .ok (.iconst 0, 1) := by decide +kernel
theorem d_E_make_12 : decode c_E_make 12 = .ok (.istore_n 3, 1) := by decide +kernel
theorem d_E_make_13 : decode c_E_make 13 = .ok (.iload_n 3, 1) := by decide +kernel
theorem d_E_make_14 : decode c_E_make 14 = .ok (.bipush 9, 2) := by decide +kernel
theorem d_E_make_16 : decode c_E_make 16 = .ok (.if_icmp .ge 24, 3) := by decide +kernel
theorem d_E_make_19 : decode c_E_make 19 = .ok (.aload_n 0, 1) := by decide +kernel
theorem d_E_make_20 : decode c_E_make 20 = .ok (.getfield 24, 3) := by decide +kernel
theorem d_E_make_23 : decode c_E_make 23 = .ok (.iload_n 3, 1) := by decide +kernel
theorem d_E_make_24 : decode c_E_make 24 = .ok (.aload_n 0, 1) := by decide +kernel
theorem d_E_make_25 : decode c_E_make 25 = .ok (.getfield 36, 3) := by decide +kernel
theorem d_E_make_28 : decode c_E_make 28 = .ok (.iastore, 1) := by decide +kernel
theorem d_E_make_29 : decode c_E_make 29 = .ok (.aload_n 0, 1) := by decide +kernel
theorem d_E_make_30 : decode c_E_make 30 = .ok (.iload_n 3, 1) := by decide +kernel
theorem d_E_make_31 : decode c_E_make 31 = .ok (.invokevirtual 54, 3) := by decide +kernel
theorem d_E_make_34 : decode c_E_make 34 = .ok (.iinc 3 1, 3) := by decide +kernel
theorem d_E_make_37 : decode c_E_make 37 = .ok (.goto (-24), 3) := by decide +kernel
theorem d_E_make_40 : decode c_E_make 40 = .ok (.aload_n 0, 1) := by decide +kernel
theorem d_E_make_41 : decode c_E_make 41 = .ok (.getfield 24, 3) := by decide +kernel
theorem d_E_make_44 : decode c_E_make 44 = .ok (.bipush 9, 2) := by decide +kernel
theorem d_E_make_46 : decode c_E_make 46 = .ok (.aload_n 0, 1) := by decide +kernel
theorem d_E_make_47 : decode c_E_make 47 = .ok (.getfield 36, 3) := by decide +kernel
theorem d_E_make_50 : decode c_E_make 50 = .ok (.iastore, 1) := by decide +kernel
theorem d_E_make_51 : decode c_E_make 51 = .ok (.aload_n 0, 1) := by decide +kernel
theorem d_E_make_52 : decode c_E_make 52 = .ok (.invokevirtual 58, 3) := by decide +kernel
theorem d_E_make_55 : decode c_E_make 55 = .ok (.return_, 1) := by decide +kernel
abbrev c_E_findNodes : ByteArray := prog_2_method_5_code
def y_E_findNodes : MethodName := ⟨"ReadGraph$Edges", "findNodes", "(LReadGraph$Reads;)V"⟩
theorem d_E_findNodes_0 : decode c_E_findNodes 0 = .ok (.iconst 0, 1) := by decide +kernel
theorem d_E_findNodes_1 : decode c_E_findNodes 1 = .ok (.istore_n 2, 1) := by decide +kernel
theorem d_E_findNodes_2 : decode c_E_findNodes 2 = .ok (.iload_n 2, 1) := by decide +kernel
theorem d_E_findNodes_3 : decode c_E_findNodes 3 = .ok (.bipush 9, 2) := by decide +kernel
theorem d_E_findNodes_5 : decode c_E_findNodes 5 = .ok (.if_icmp .ge 29, 3) := by decide +kernel
theorem d_E_findNodes_8 : decode c_E_findNodes 8 = .ok (.aload_n 1, 1) := by decide +kernel
theorem d_E_findNodes_9 : decode c_E_findNodes 9 = .ok (.iload_n 2, 1) := by decide +kernel
theorem d_E_findNodes_10 : decode c_E_findNodes 10 = .ok (.invokevirtual 61, 3) := by decide +kernel
theorem d_E_findNodes_13 : decode c_E_findNodes 13 = .ok (.ifCond .eq 15, 3) := by decide +kernel
theorem d_E_findNodes_16 : decode c_E_findNodes 16 = .ok (.aload_n 0, 1) := by decide +kernel
theorem d_E_findNodes_17 : decode c_E_findNodes 17 = .ok (.dup, 1) := by decide +kernel
theorem d_E_findNodes_18 : decode c_E_findNodes 18 = .ok (.getfield 40, 3) := by decide +kernel
theorem d_E_findNodes_21 : decode c_E_findNodes 21 = .ok (.iconst 1, 1) := by decide +kernel
theorem d_E_findNodes_22 : decode c_E_findNodes 22 = .ok (.iload_n 2, 1) := by decide +kernel
theorem d_E_findNodes_23 : decode c_E_findNodes 23 = .ok (.ishl, 1) := by decide +kernel
theorem d_E_findNodes_24 : decode c_E_findNodes 24 = .ok (.ior, 1) := by decide +kernel
theorem d_E_findNodes_25 : decode c_E_findNodes 25 = .ok (.putfield 40, 3) := by decide +kernel
theorem d_E_findNodes_28 : decode c_E_findNodes 28 = .ok (.iinc 2 1, 3) := by decide +kernel
theorem d_E_findNodes_31 : decode c_E_findNodes 31 = .ok (.goto (-29), 3) := by decide +kernel
theorem d_E_findNodes_34 : decode c_E_findNodes 34 = .ok (.return_, 1) := by decide +kernel
abbrev c_E_layAll : ByteArray := prog_2_method_6_code
def y_E_layAll : MethodName := ⟨"ReadGraph$Edges", "layAll", "(LReadGraph$Reads;I)V"⟩
theorem d_E_layAll_0 : decode c_E_layAll 0 = .ok (.iconst 0, 1) := by decide +kernel
theorem d_E_layAll_1 : decode c_E_layAll 1 = .ok (.istore_n 3, 1) := by decide +kernel
theorem d_E_layAll_2 : decode c_E_layAll 2 = .ok (.iload_n 3, 1) := by decide +kernel
theorem d_E_layAll_3 : decode c_E_layAll 3 = .ok (.bipush 9, 2) := by decide +kernel
theorem d_E_layAll_5 : decode c_E_layAll 5 = .ok (.if_icmp .ge 118, 3) := by decide +kernel
theorem d_E_layAll_8 : decode c_E_layAll 8 = .ok (.iconst 0, 1) := by decide +kernel
theorem d_E_layAll_9 : decode c_E_layAll 9 = .ok (.istore 4, 2) := by decide +kernel
theorem d_E_layAll_11 : decode c_E_layAll 11 = .ok (.iload 4, 2) := by decide +kernel
theorem d_E_layAll_13 : decode c_E_layAll 13 = .ok (.bipush 9, 2) := by decide +kernel
theorem d_E_layAll_15 : decode c_E_layAll 15 = .ok (.if_icmp .ge 102, 3) := by decide +kernel
theorem d_E_layAll_18 : decode c_E_layAll 18 = .ok (.iload_n 3, 1) := by decide +kernel
theorem d_E_layAll_19 : decode c_E_layAll 19 = .ok (.iload 4, 2) := by decide +kernel
theorem d_E_layAll_21 : decode c_E_layAll 21 = .ok (.if_icmp .eq 37, 3) := by decide +kernel
theorem d_E_layAll_24 : decode c_E_layAll 24 = .ok (.aload_n 0, 1) := by decide +kernel
theorem d_E_layAll_25 : decode c_E_layAll 25 = .ok (.getfield 40, 3) := by decide +kernel
theorem d_E_layAll_28 : decode c_E_layAll 28 = .ok (.iload_n 3, 1) := by decide +kernel
theorem d_E_layAll_29 : decode c_E_layAll 29 = .ok (.invokestatic 67, 3) := by decide +kernel
theorem d_E_layAll_32 : decode c_E_layAll 32 = .ok (.ifCond .eq 26, 3) := by decide +kernel
theorem d_E_layAll_35 : decode c_E_layAll 35 = .ok (.aload_n 0, 1) := by decide +kernel
theorem d_E_layAll_36 : decode c_E_layAll 36 = .ok (.getfield 40, 3) := by decide +kernel
theorem d_E_layAll_39 : decode c_E_layAll 39 = .ok (.iload 4, 2) := by decide +kernel
theorem d_E_layAll_41 : decode c_E_layAll 41 = .ok (.invokestatic 67, 3) := by decide +kernel
theorem d_E_layAll_44 : decode c_E_layAll 44 = .ok (.ifCond .eq 14, 3) := by decide +kernel
theorem d_E_layAll_47 : decode c_E_layAll 47 = .ok (.aload_n 1, 1) := by decide +kernel
theorem d_E_layAll_48 : decode c_E_layAll 48 = .ok (.iload_n 3, 1) := by decide +kernel
theorem d_E_layAll_49 : decode c_E_layAll 49 = .ok (.iload 4, 2) := by decide +kernel
theorem d_E_layAll_51 : decode c_E_layAll 51 = .ok (.iload_n 2, 1) := by decide +kernel
theorem d_E_layAll_52 : decode c_E_layAll 52 = .ok (.invokevirtual 71, 3) := by decide +kernel
theorem d_E_layAll_55 : decode c_E_layAll 55 = .ok (.goto 4, 3) := by decide +kernel
theorem d_E_layAll_58 : decode c_E_layAll 58 = .ok (.iconst 0, 1) := by decide +kernel
theorem d_E_layAll_59 : decode c_E_layAll 59 = .ok (.istore 5, 2) := by decide +kernel
theorem d_E_layAll_61 : decode c_E_layAll 61 = .ok (.aload_n 0, 1) := by decide +kernel
theorem d_E_layAll_62 : decode c_E_layAll 62 = .ok (.getfield 9, 3) := by decide +kernel
theorem d_E_layAll_65 : decode c_E_layAll 65 = .ok (.iload_n 3, 1) := by decide +kernel
theorem d_E_layAll_66 : decode c_E_layAll 66 = .ok (.bipush 9, 2) := by decide +kernel
theorem d_E_layAll_68 : decode c_E_layAll 68 = .ok (.imul, 1) := by decide +kernel
theorem d_E_layAll_69 : decode c_E_layAll 69 = .ok (.iload 4, 2) := by decide +kernel
theorem d_E_layAll_71 : decode c_E_layAll 71 = .ok (.iadd, 1) := by decide +kernel
theorem d_E_layAll_72 : decode c_E_layAll 72 = .ok (.iload 5, 2) := by decide +kernel
theorem d_E_layAll_74 : decode c_E_layAll 74 = .ok (.ifCond .ne 7, 3) := by decide +kernel
theorem d_E_layAll_77 : decode c_E_layAll 77 = .ok (.iconst 0, 1) := by decide +kernel
theorem d_E_layAll_78 : decode c_E_layAll 78 = .ok (.goto 13, 3) := by decide +kernel
theorem d_E_layAll_81 : decode c_E_layAll 81 = .ok (.aload_n 1, 1) := by decide +kernel
theorem d_E_layAll_82 : decode c_E_layAll 82 = .ok (.getfield 75, 3) := by decide +kernel
theorem d_E_layAll_85 : decode c_E_layAll 85 = .ok (.iload 4, 2) := by decide +kernel
theorem d_E_layAll_87 : decode c_E_layAll 87 = .ok (.iaload, 1) := by decide +kernel
theorem d_E_layAll_88 : decode c_E_layAll 88 = .ok (.iload 5, 2) := by decide +kernel
theorem d_E_layAll_90 : decode c_E_layAll 90 = .ok (.isub, 1) := by decide +kernel
theorem d_E_layAll_91 : decode c_E_layAll 91 = .ok (.iastore, 1) := by decide +kernel
theorem d_E_layAll_92 : decode c_E_layAll 92 = .ok (.aload_n 0, 1) := by decide +kernel
theorem d_E_layAll_93 : decode c_E_layAll 93 = .ok (.dup, 1) := by decide +kernel
theorem d_E_layAll_94 : decode c_E_layAll 94 = .ok (.getfield 43, 3) := by decide +kernel
theorem d_E_layAll_97 : decode c_E_layAll 97 = .ok (.iload 5, 2) := by decide +kernel
theorem d_E_layAll_99 : decode c_E_layAll 99 = .ok (.ifCond .ne 7, 3) := by decide +kernel
theorem d_E_layAll_102 : decode c_E_layAll 102 = .ok (.iconst 0, 1) := by decide +kernel
theorem d_E_layAll_103 : decode c_E_layAll 103 = .ok (.goto 4, 3) := by decide +kernel
theorem d_E_layAll_106 : decode c_E_layAll 106 = .ok (.iconst 1, 1) := by decide +kernel
theorem d_E_layAll_107 : decode c_E_layAll 107 = .ok (.iadd, 1) := by decide +kernel
theorem d_E_layAll_108 : decode c_E_layAll 108 = .ok (.putfield 43, 3) := by decide +kernel
theorem d_E_layAll_111 : decode c_E_layAll 111 = .ok (.iinc 4 1, 3) := by decide +kernel
theorem d_E_layAll_114 : decode c_E_layAll 114 = .ok (.goto (-103), 3) := by decide +kernel
theorem d_E_layAll_117 : decode c_E_layAll 117 = .ok (.iinc 3 1, 3) := by decide +kernel
theorem d_E_layAll_120 : decode c_E_layAll 120 = .ok (.goto (-118), 3) := by decide +kernel
theorem d_E_layAll_123 : decode c_E_layAll 123 = .ok (.return_, 1) := by decide +kernel
abbrev c_E_keepUnsaid : ByteArray := prog_2_method_7_code
def y_E_keepUnsaid : MethodName := ⟨"ReadGraph$Edges", "keepUnsaid", "(I)V"⟩
theorem d_E_keepUnsaid_0 : decode c_E_keepUnsaid 0 = .ok (.iconst 0, 1) := by decide +kernel
theorem d_E_keepUnsaid_1 : decode c_E_keepUnsaid 1 = .ok (.istore_n 2, 1) := by decide +kernel
theorem d_E_keepUnsaid_2 : decode c_E_keepUnsaid 2 = .ok (.iload_n 2, 1) := by decide +kernel
theorem d_E_keepUnsaid_3 : decode c_E_keepUnsaid 3 = .ok (.bipush 9, 2) := by decide +kernel
theorem d_E_keepUnsaid_5 : decode c_E_keepUnsaid 5 = .ok (.if_icmp .ge 108, 3) := by decide +kernel
theorem d_E_keepUnsaid_8 : decode c_E_keepUnsaid 8 = .ok (.aload_n 0, 1) := by decide +kernel
theorem d_E_keepUnsaid_9 : decode c_E_keepUnsaid 9 = .ok (.getfield 9, 3) := by decide +kernel
theorem d_E_keepUnsaid_12 : decode c_E_keepUnsaid 12 = .ok (.iload_n 1, 1) := by decide +kernel
theorem d_E_keepUnsaid_13 : decode c_E_keepUnsaid 13 = .ok (.bipush 9, 2) := by decide +kernel
theorem d_E_keepUnsaid_15 : decode c_E_keepUnsaid 15 = .ok (.imul, 1) := by decide +kernel
theorem d_E_keepUnsaid_16 : decode c_E_keepUnsaid 16 = .ok (.iload_n 2, 1) := by decide +kernel
theorem d_E_keepUnsaid_17 : decode c_E_keepUnsaid 17 = .ok (.iadd, 1) := by decide +kernel
theorem d_E_keepUnsaid_18 : decode c_E_keepUnsaid 18 = .ok (.iaload, 1) := by decide +kernel
theorem d_E_keepUnsaid_19 : decode c_E_keepUnsaid 19 = .ok (.istore_n 3, 1) := by decide +kernel
theorem d_E_keepUnsaid_20 : decode c_E_keepUnsaid 20 = .ok (.iload_n 3, 1) := by decide +kernel
theorem d_E_keepUnsaid_21 : decode c_E_keepUnsaid 21 = .ok (.ifCond .eq 86, 3) := by decide +kernel
theorem d_E_keepUnsaid_24 : decode c_E_keepUnsaid 24 = .ok (.aload_n 0, 1) := by decide +kernel
theorem d_E_keepUnsaid_25 : decode c_E_keepUnsaid 25 = .ok (.iload_n 1, 1) := by decide +kernel
theorem d_E_keepUnsaid_26 : decode c_E_keepUnsaid 26 = .ok (.iload_n 2, 1) := by decide +kernel
theorem d_E_keepUnsaid_27 : decode c_E_keepUnsaid 27 = .ok (.iload_n 3, 1) := by decide +kernel
theorem d_E_keepUnsaid_28 : decode c_E_keepUnsaid 28 = .ok (.invokevirtual 78, 3) := by decide +kernel
theorem d_E_keepUnsaid_31 : decode c_E_keepUnsaid 31 = .ok (.ifCond .ne 76, 3) := by decide +kernel
theorem d_E_keepUnsaid_34 : decode c_E_keepUnsaid 34 = .ok (.aload_n 0, 1) := by decide +kernel
theorem d_E_keepUnsaid_35 : decode c_E_keepUnsaid 35 = .ok (.getfield 36, 3) := by decide +kernel
theorem d_E_keepUnsaid_38 : decode c_E_keepUnsaid 38 = .ok (.bipush 72, 2) := by decide +kernel
theorem d_E_keepUnsaid_40 : decode c_E_keepUnsaid 40 = .ok (.if_icmp .ge 67, 3) := by decide +kernel
theorem d_E_keepUnsaid_43 : decode c_E_keepUnsaid 43 = .ok (.aload_n 0, 1) := by decide +kernel
theorem d_E_keepUnsaid_44 : decode c_E_keepUnsaid 44 = .ok (.getfield 15, 3) := by decide +kernel
theorem d_E_keepUnsaid_47 : decode c_E_keepUnsaid 47 = .ok (.aload_n 0, 1) := by decide +kernel
theorem d_E_keepUnsaid_48 : decode c_E_keepUnsaid 48 = .ok (.getfield 36, 3) := by decide +kernel
theorem d_E_keepUnsaid_51 : decode c_E_keepUnsaid 51 = .ok (.iload_n 1, 1) := by decide +kernel
theorem d_E_keepUnsaid_52 : decode c_E_keepUnsaid 52 = .ok (.iastore, 1) := by decide +kernel
theorem d_E_keepUnsaid_53 : decode c_E_keepUnsaid 53 = .ok (.aload_n 0, 1) := by decide +kernel
theorem d_E_keepUnsaid_54 : decode c_E_keepUnsaid 54 = .ok (.getfield 18, 3) := by decide +kernel
theorem d_E_keepUnsaid_57 : decode c_E_keepUnsaid 57 = .ok (.aload_n 0, 1) := by decide +kernel
theorem d_E_keepUnsaid_58 : decode c_E_keepUnsaid 58 = .ok (.getfield 36, 3) := by decide +kernel
theorem d_E_keepUnsaid_61 : decode c_E_keepUnsaid 61 = .ok (.iload_n 2, 1) := by decide +kernel
theorem d_E_keepUnsaid_62 : decode c_E_keepUnsaid 62 = .ok (.iastore, 1) := by decide +kernel
theorem d_E_keepUnsaid_63 : decode c_E_keepUnsaid 63 = .ok (.aload_n 0, 1) := by decide +kernel
theorem d_E_keepUnsaid_64 : decode c_E_keepUnsaid 64 = .ok (.getfield 21, 3) := by decide +kernel
theorem d_E_keepUnsaid_67 : decode c_E_keepUnsaid 67 = .ok (.aload_n 0, 1) := by decide +kernel
theorem d_E_keepUnsaid_68 : decode c_E_keepUnsaid 68 = .ok (.getfield 36, 3) := by decide +kernel
theorem d_E_keepUnsaid_71 : decode c_E_keepUnsaid 71 = .ok (.iload_n 3, 1) := by decide +kernel
theorem d_E_keepUnsaid_72 : decode c_E_keepUnsaid 72 = .ok (.iastore, 1) := by decide +kernel
theorem d_E_keepUnsaid_73 : decode c_E_keepUnsaid 73 = .ok (.aload_n 0, 1) := by decide +kernel
theorem d_E_keepUnsaid_74 : decode c_E_keepUnsaid 74 = .ok (.getfield 27, 3) := by decide +kernel
theorem d_E_keepUnsaid_77 : decode c_E_keepUnsaid 77 = .ok (.iload_n 1, 1) := by decide +kernel
theorem d_E_keepUnsaid_78 : decode c_E_keepUnsaid 78 = .ok (.dup2, 1) := by decide +kernel
theorem d_E_keepUnsaid_79 : decode c_E_keepUnsaid 79 = .ok (.iaload, 1) := by decide +kernel
theorem d_E_keepUnsaid_80 : decode c_E_keepUnsaid 80 = .ok (.iconst 1, 1) := by decide +kernel
theorem d_E_keepUnsaid_81 : decode c_E_keepUnsaid 81 = .ok (.iload_n 2, 1) := by decide +kernel
theorem d_E_keepUnsaid_82 : decode c_E_keepUnsaid 82 = .ok (.ishl, 1) := by decide +kernel
theorem d_E_keepUnsaid_83 : decode c_E_keepUnsaid 83 = .ok (.ior, 1) := by decide +kernel
theorem d_E_keepUnsaid_84 : decode c_E_keepUnsaid 84 = .ok (.iastore, 1) := by decide +kernel
theorem d_E_keepUnsaid_85 : decode c_E_keepUnsaid 85 = .ok (.aload_n 0, 1) := by decide +kernel
theorem d_E_keepUnsaid_86 : decode c_E_keepUnsaid 86 = .ok (.getfield 30, 3) := by decide +kernel
theorem d_E_keepUnsaid_89 : decode c_E_keepUnsaid 89 = .ok (.iload_n 2, 1) := by decide +kernel
theorem d_E_keepUnsaid_90 : decode c_E_keepUnsaid 90 = .ok (.dup2, 1) := by decide +kernel
theorem d_E_keepUnsaid_91 : decode c_E_keepUnsaid 91 = .ok (.iaload, 1) := by decide +kernel
theorem d_E_keepUnsaid_92 : decode c_E_keepUnsaid 92 = .ok (.iconst 1, 1) := by decide +kernel
theorem d_E_keepUnsaid_93 : decode c_E_keepUnsaid 93 = .ok (.iload_n 1, 1) := by decide +kernel
theorem d_E_keepUnsaid_94 : decode c_E_keepUnsaid 94 = .ok (.ishl, 1) := by decide +kernel
theorem d_E_keepUnsaid_95 : decode c_E_keepUnsaid 95 = .ok (.ior, 1) := by decide +kernel
theorem d_E_keepUnsaid_96 : decode c_E_keepUnsaid 96 = .ok (.iastore, 1) := by decide +kernel
theorem d_E_keepUnsaid_97 : decode c_E_keepUnsaid 97 = .ok (.aload_n 0, 1) := by decide +kernel
theorem d_E_keepUnsaid_98 : decode c_E_keepUnsaid 98 = .ok (.dup, 1) := by decide +kernel
theorem d_E_keepUnsaid_99 : decode c_E_keepUnsaid 99 = .ok (.getfield 36, 3) := by decide +kernel
theorem d_E_keepUnsaid_102 : decode c_E_keepUnsaid 102 = .ok (.iconst 1, 1) := by decide +kernel
theorem d_E_keepUnsaid_103 : decode c_E_keepUnsaid 103 = .ok (.iadd, 1) := by decide +kernel
theorem d_E_keepUnsaid_104 : decode c_E_keepUnsaid 104 = .ok (.putfield 36, 3) := by decide +kernel
theorem d_E_keepUnsaid_107 : decode c_E_keepUnsaid 107 = .ok (.iinc 2 1, 3) := by decide +kernel
theorem d_E_keepUnsaid_110 : decode c_E_keepUnsaid 110 = .ok (.goto (-108), 3) := by decide +kernel
theorem d_E_keepUnsaid_113 : decode c_E_keepUnsaid 113 = .ok (.return_, 1) := by decide +kernel
abbrev c_E_isSaid : ByteArray := prog_2_method_8_code
def y_E_isSaid : MethodName := ⟨"ReadGraph$Edges", "isSaid", "(III)Z"⟩
theorem d_E_isSaid_0 : decode c_E_isSaid 0 = .ok (.iconst 0, 1) := by decide +kernel
theorem d_E_isSaid_1 : decode c_E_isSaid 1 = .ok (.istore 4, 2) := by decide +kernel
theorem d_E_isSaid_3 : decode c_E_isSaid 3 = .ok (.iload 4, 2) := by decide +kernel
theorem d_E_isSaid_5 : decode c_E_isSaid 5 = .ok (.bipush 9, 2) := by decide +kernel
theorem d_E_isSaid_7 : decode c_E_isSaid 7 = .ok (.if_icmp .ge 58, 3) := by decide +kernel
theorem d_E_isSaid_10 : decode c_E_isSaid 10 = .ok (.aload_n 0, 1) := by decide +kernel
theorem d_E_isSaid_11 : decode c_E_isSaid 11 = .ok (.getfield 9, 3) := by decide +kernel
theorem d_E_isSaid_14 : decode c_E_isSaid 14 = .ok (.iload_n 1, 1) := by decide +kernel
theorem d_E_isSaid_15 : decode c_E_isSaid 15 = .ok (.bipush 9, 2) := by decide +kernel
theorem d_E_isSaid_17 : decode c_E_isSaid 17 = .ok (.imul, 1) := by decide +kernel
theorem d_E_isSaid_18 : decode c_E_isSaid 18 = .ok (.iload 4, 2) := by decide +kernel
theorem d_E_isSaid_20 : decode c_E_isSaid 20 = .ok (.iadd, 1) := by decide +kernel
theorem d_E_isSaid_21 : decode c_E_isSaid 21 = .ok (.iaload, 1) := by decide +kernel
theorem d_E_isSaid_22 : decode c_E_isSaid 22 = .ok (.istore 5, 2) := by decide +kernel
theorem d_E_isSaid_24 : decode c_E_isSaid 24 = .ok (.aload_n 0, 1) := by decide +kernel
theorem d_E_isSaid_25 : decode c_E_isSaid 25 = .ok (.getfield 9, 3) := by decide +kernel
theorem d_E_isSaid_28 : decode c_E_isSaid 28 = .ok (.iload 4, 2) := by decide +kernel
theorem d_E_isSaid_30 : decode c_E_isSaid 30 = .ok (.bipush 9, 2) := by decide +kernel
theorem d_E_isSaid_32 : decode c_E_isSaid 32 = .ok (.imul, 1) := by decide +kernel
theorem d_E_isSaid_33 : decode c_E_isSaid 33 = .ok (.iload_n 2, 1) := by decide +kernel
theorem d_E_isSaid_34 : decode c_E_isSaid 34 = .ok (.iadd, 1) := by decide +kernel
theorem d_E_isSaid_35 : decode c_E_isSaid 35 = .ok (.iaload, 1) := by decide +kernel
theorem d_E_isSaid_36 : decode c_E_isSaid 36 = .ok (.istore 6, 2) := by decide +kernel
theorem d_E_isSaid_38 : decode c_E_isSaid 38 = .ok (.iload 5, 2) := by decide +kernel
theorem d_E_isSaid_40 : decode c_E_isSaid 40 = .ok (.ifCond .eq 19, 3) := by decide +kernel
theorem d_E_isSaid_43 : decode c_E_isSaid 43 = .ok (.iload 6, 2) := by decide +kernel
theorem d_E_isSaid_45 : decode c_E_isSaid 45 = .ok (.ifCond .eq 14, 3) := by decide +kernel
theorem d_E_isSaid_48 : decode c_E_isSaid 48 = .ok (.iload 5, 2) := by decide +kernel
theorem d_E_isSaid_50 : decode c_E_isSaid 50 = .ok (.iload 6, 2) := by decide +kernel
theorem d_E_isSaid_52 : decode c_E_isSaid 52 = .ok (.iadd, 1) := by decide +kernel
theorem d_E_isSaid_53 : decode c_E_isSaid 53 = .ok (.iload_n 3, 1) := by decide +kernel
theorem d_E_isSaid_54 : decode c_E_isSaid 54 = .ok (.if_icmp .ne 5, 3) := by decide +kernel
theorem d_E_isSaid_57 : decode c_E_isSaid 57 = .ok (.iconst 1, 1) := by decide +kernel
theorem d_E_isSaid_58 : decode c_E_isSaid 58 = .ok (.ireturn, 1) := by decide +kernel
theorem d_E_isSaid_59 : decode c_E_isSaid 59 = .ok (.iinc 4 1, 3) := by decide +kernel
theorem d_E_isSaid_62 : decode c_E_isSaid 62 = .ok (.goto (-59), 3) := by decide +kernel
theorem d_E_isSaid_65 : decode c_E_isSaid 65 = .ok (.iconst 0, 1) := by decide +kernel
theorem d_E_isSaid_66 : decode c_E_isSaid 66 = .ok (.ireturn, 1) := by decide +kernel
abbrev c_E_findReached : ByteArray := prog_2_method_9_code
def y_E_findReached : MethodName := ⟨"ReadGraph$Edges", "findReached", "()V"⟩
theorem d_E_findReached_0 : decode c_E_findReached 0 = .ok (.iconst 0, 1) := by decide +kernel
theorem d_E_findReached_1 : decode c_E_findReached 1 = .ok (.istore_n 1, 1) := by decide +kernel
theorem d_E_findReached_2 : decode c_E_findReached 2 = .ok (.iload_n 1, 1) := by decide +kernel
theorem d_E_findReached_3 : decode c_E_findReached 3 = .ok (.bipush 9, 2) := by decide +kernel
theorem d_E_findReached_5 : decode c_E_findReached 5 = .ok (.if_icmp .ge 21, 3) := by decide +kernel
theorem d_E_findReached_8 : decode c_E_findReached 8 = .ok (.aload_n 0, 1) := by decide +kernel
theorem d_E_findReached_9 : decode c_E_findReached 9 = .ok (.getfield 33, 3) := by decide +kernel
theorem d_E_findReached_12 : decode c_E_findReached 12 = .ok (.iload_n 1, 1) := by decide +kernel
theorem d_E_findReached_13 : decode c_E_findReached 13 = .ok (.aload_n 0, 1) := by decide +kernel
theorem d_E_findReached_14 : decode c_E_findReached 14 = .ok (.getfield 27, 3) := by decide +kernel
theorem d_E_findReached_17 : decode c_E_findReached 17 = .ok (.iload_n 1, 1) := by decide +kernel
theorem d_E_findReached_18 : decode c_E_findReached 18 = .ok (.iaload, 1) := by decide +kernel
theorem d_E_findReached_19 : decode c_E_findReached 19 = .ok (.iastore, 1) := by decide +kernel
theorem d_E_findReached_20 : decode c_E_findReached 20 = .ok (.iinc 1 1, 3) := by decide +kernel
theorem d_E_findReached_23 : decode c_E_findReached 23 = .ok (.goto (-21), 3) := by decide +kernel
theorem d_E_findReached_26 : decode c_E_findReached 26 = .ok (.iconst 0, 1) := by decide +kernel
theorem d_E_findReached_27 : decode c_E_findReached 27 = .ok (.istore_n 1, 1) := by decide +kernel
theorem d_E_findReached_28 : decode c_E_findReached 28 = .ok (.iload_n 1, 1) := by decide +kernel
theorem d_E_findReached_29 : decode c_E_findReached 29 = .ok (.bipush 9, 2) := by decide +kernel
theorem d_E_findReached_31 : decode c_E_findReached 31 = .ok (.if_icmp .ge 51, 3) := by decide +kernel
theorem d_E_findReached_34 : decode c_E_findReached 34 = .ok (.iconst 0, 1) := by decide +kernel
theorem d_E_findReached_35 : decode c_E_findReached 35 = .ok (.istore_n 2, 1) := by decide +kernel
theorem d_E_findReached_36 : decode c_E_findReached 36 = .ok (.iload_n 2, 1) := by decide +kernel
theorem d_E_findReached_37 : decode c_E_findReached 37 = .ok (.bipush 9, 2) := by decide +kernel
theorem d_E_findReached_39 : decode c_E_findReached 39 = .ok (.if_icmp .ge 37, 3) := by decide +kernel
theorem d_E_findReached_42 : decode c_E_findReached 42 = .ok (.aload_n 0, 1) := by decide +kernel
theorem d_E_findReached_43 : decode c_E_findReached 43 = .ok (.getfield 33, 3) := by decide +kernel
theorem d_E_findReached_46 : decode c_E_findReached 46 = .ok (.iload_n 2, 1) := by decide +kernel
theorem d_E_findReached_47 : decode c_E_findReached 47 = .ok (.iaload, 1) := by decide +kernel
theorem d_E_findReached_48 : decode c_E_findReached 48 = .ok (.iload_n 1, 1) := by decide +kernel
theorem d_E_findReached_49 : decode c_E_findReached 49 = .ok (.invokestatic 67, 3) := by decide +kernel
theorem d_E_findReached_52 : decode c_E_findReached 52 = .ok (.ifCond .eq 18, 3) := by decide +kernel
theorem d_E_findReached_55 : decode c_E_findReached 55 = .ok (.aload_n 0, 1) := by decide +kernel
theorem d_E_findReached_56 : decode c_E_findReached 56 = .ok (.getfield 33, 3) := by decide +kernel
theorem d_E_findReached_59 : decode c_E_findReached 59 = .ok (.iload_n 2, 1) := by decide +kernel
theorem d_E_findReached_60 : decode c_E_findReached 60 = .ok (.dup2, 1) := by decide +kernel
theorem d_E_findReached_61 : decode c_E_findReached 61 = .ok (.iaload, 1) := by decide +kernel
theorem d_E_findReached_62 : decode c_E_findReached 62 = .ok (.aload_n 0, 1) := by decide +kernel
theorem d_E_findReached_63 : decode c_E_findReached 63 = .ok (.getfield 33, 3) := by decide +kernel
theorem d_E_findReached_66 : decode c_E_findReached 66 = .ok (.iload_n 1, 1) := by decide +kernel
theorem d_E_findReached_67 : decode c_E_findReached 67 = .ok (.iaload, 1) := by decide +kernel
theorem d_E_findReached_68 : decode c_E_findReached 68 = .ok (.ior, 1) := by decide +kernel
theorem d_E_findReached_69 : decode c_E_findReached 69 = .ok (.iastore, 1) := by decide +kernel
theorem d_E_findReached_70 : decode c_E_findReached 70 = .ok (.iinc 2 1, 3) := by decide +kernel
theorem d_E_findReached_73 : decode c_E_findReached 73 = .ok (.goto (-37), 3) := by decide +kernel
theorem d_E_findReached_76 : decode c_E_findReached 76 = .ok (.iinc 1 1, 3) := by decide +kernel
theorem d_E_findReached_79 : decode c_E_findReached 79 = .ok (.goto (-51), 3) := by decide +kernel
theorem d_E_findReached_82 : decode c_E_findReached 82 = .ok (.return_, 1) := by decide +kernel
abbrev c_E_shape : ByteArray := prog_2_method_10_code
def y_E_shape : MethodName := ⟨"ReadGraph$Edges", "shape", "()I"⟩
theorem d_E_shape_0 : decode c_E_shape 0 = .ok (.aload_n 0, 1) := by decide +kernel
theorem d_E_shape_1 : decode c_E_shape 1 = .ok (.getfield 36, 3) := by decide +kernel
theorem d_E_shape_4 : decode c_E_shape 4 = .ok (.ifCond .ne 5, 3) := by decide +kernel
theorem d_E_shape_7 : decode c_E_shape 7 = .ok (.iconst 0, 1) := by decide +kernel
theorem d_E_shape_8 : decode c_E_shape 8 = .ok (.ireturn, 1) := by decide +kernel
theorem d_E_shape_9 : decode c_E_shape 9 = .ok (.iconst 0, 1) := by decide +kernel
theorem d_E_shape_10 : decode c_E_shape 10 = .ok (.istore_n 1, 1) := by decide +kernel
theorem d_E_shape_11 : decode c_E_shape 11 = .ok (.iload_n 1, 1) := by decide +kernel
theorem d_E_shape_12 : decode c_E_shape 12 = .ok (.bipush 9, 2) := by decide +kernel
theorem d_E_shape_14 : decode c_E_shape 14 = .ok (.if_icmp .ge 35, 3) := by decide +kernel
theorem d_E_shape_17 : decode c_E_shape 17 = .ok (.aload_n 0, 1) := by decide +kernel
theorem d_E_shape_18 : decode c_E_shape 18 = .ok (.getfield 40, 3) := by decide +kernel
theorem d_E_shape_21 : decode c_E_shape 21 = .ok (.iload_n 1, 1) := by decide +kernel
theorem d_E_shape_22 : decode c_E_shape 22 = .ok (.invokestatic 67, 3) := by decide +kernel
theorem d_E_shape_25 : decode c_E_shape 25 = .ok (.ifCond .eq 18, 3) := by decide +kernel
theorem d_E_shape_28 : decode c_E_shape 28 = .ok (.aload_n 0, 1) := by decide +kernel
theorem d_E_shape_29 : decode c_E_shape 29 = .ok (.getfield 33, 3) := by decide +kernel
theorem d_E_shape_32 : decode c_E_shape 32 = .ok (.iload_n 1, 1) := by decide +kernel
theorem d_E_shape_33 : decode c_E_shape 33 = .ok (.iaload, 1) := by decide +kernel
theorem d_E_shape_34 : decode c_E_shape 34 = .ok (.aload_n 0, 1) := by decide +kernel
theorem d_E_shape_35 : decode c_E_shape 35 = .ok (.getfield 40, 3) := by decide +kernel
theorem d_E_shape_38 : decode c_E_shape 38 = .ok (.if_icmp .eq 5, 3) := by decide +kernel
theorem d_E_shape_41 : decode c_E_shape 41 = .ok (.iconst 0, 1) := by decide +kernel
theorem d_E_shape_42 : decode c_E_shape 42 = .ok (.ireturn, 1) := by decide +kernel
theorem d_E_shape_43 : decode c_E_shape 43 = .ok (.iinc 1 1, 3) := by decide +kernel
theorem d_E_shape_46 : decode c_E_shape 46 = .ok (.goto (-35), 3) := by decide +kernel
theorem d_E_shape_49 : decode c_E_shape 49 = .ok (.aload_n 0, 1) := by decide +kernel
theorem d_E_shape_50 : decode c_E_shape 50 = .ok (.getfield 36, 3) := by decide +kernel
theorem d_E_shape_53 : decode c_E_shape 53 = .ok (.aload_n 0, 1) := by decide +kernel
theorem d_E_shape_54 : decode c_E_shape 54 = .ok (.getfield 40, 3) := by decide +kernel
theorem d_E_shape_57 : decode c_E_shape 57 = .ok (.invokestatic 82, 3) := by decide +kernel
theorem d_E_shape_60 : decode c_E_shape 60 = .ok (.if_icmp .ne 7, 3) := by decide +kernel
theorem d_E_shape_63 : decode c_E_shape 63 = .ok (.iconst 1, 1) := by decide +kernel
theorem d_E_shape_64 : decode c_E_shape 64 = .ok (.goto 4, 3) := by decide +kernel
theorem d_E_shape_67 : decode c_E_shape 67 = .ok (.iconst 2, 1) := by decide +kernel
theorem d_E_shape_68 : decode c_E_shape 68 = .ok (.ireturn, 1) := by decide +kernel
abbrev c_E_isPassedBy : ByteArray := prog_2_method_11_code
def y_E_isPassedBy : MethodName := ⟨"ReadGraph$Edges", "isPassedBy", "(II)Z"⟩
theorem d_E_isPassedBy_0 : decode c_E_isPassedBy 0 = .ok (.aload_n 0, 1) := by decide +kernel
theorem d_E_isPassedBy_1 : decode c_E_isPassedBy 1 = .ok (.getfield 27, 3) := by decide +kernel
theorem d_E_isPassedBy_4 : decode c_E_isPassedBy 4 = .ok (.aload_n 0, 1) := by decide +kernel
theorem d_E_isPassedBy_5 : decode c_E_isPassedBy 5 = .ok (.getfield 15, 3) := by decide +kernel
theorem d_E_isPassedBy_8 : decode c_E_isPassedBy 8 = .ok (.iload_n 2, 1) := by decide +kernel
theorem d_E_isPassedBy_9 : decode c_E_isPassedBy 9 = .ok (.iaload, 1) := by decide +kernel
theorem d_E_isPassedBy_10 : decode c_E_isPassedBy 10 = .ok (.iaload, 1) := by decide +kernel
theorem d_E_isPassedBy_11 : decode c_E_isPassedBy 11 = .ok (.iconst 1, 1) := by decide +kernel
theorem d_E_isPassedBy_12 : decode c_E_isPassedBy 12 = .ok (.aload_n 0, 1) := by decide +kernel
theorem d_E_isPassedBy_13 : decode c_E_isPassedBy 13 = .ok (.getfield 18, 3) := by decide +kernel
theorem d_E_isPassedBy_16 : decode c_E_isPassedBy 16 = .ok (.iload_n 2, 1) := by decide +kernel
theorem d_E_isPassedBy_17 : decode c_E_isPassedBy 17 = .ok (.iaload, 1) := by decide +kernel
theorem d_E_isPassedBy_18 : decode c_E_isPassedBy 18 = .ok (.ishl, 1) := by decide +kernel
theorem d_E_isPassedBy_19 : decode c_E_isPassedBy 19 = .ok (.iconst (-1), 1) := by decide +kernel
theorem d_E_isPassedBy_20 : decode c_E_isPassedBy 20 = .ok (.ixor, 1) := by decide +kernel
theorem d_E_isPassedBy_21 : decode c_E_isPassedBy 21 = .ok (.iand, 1) := by decide +kernel
theorem d_E_isPassedBy_22 : decode c_E_isPassedBy 22 = .ok (.istore_n 3, 1) := by decide +kernel
theorem d_E_isPassedBy_23 : decode c_E_isPassedBy 23 = .ok (.aload_n 0, 1) := by decide +kernel
theorem d_E_isPassedBy_24 : decode c_E_isPassedBy 24 = .ok (.getfield 30, 3) := by decide +kernel
theorem d_E_isPassedBy_27 : decode c_E_isPassedBy 27 = .ok (.aload_n 0, 1) := by decide +kernel
theorem d_E_isPassedBy_28 : decode c_E_isPassedBy 28 = .ok (.getfield 18, 3) := by decide +kernel
theorem d_E_isPassedBy_31 : decode c_E_isPassedBy 31 = .ok (.iload_n 1, 1) := by decide +kernel
theorem d_E_isPassedBy_32 : decode c_E_isPassedBy 32 = .ok (.iaload, 1) := by decide +kernel
theorem d_E_isPassedBy_33 : decode c_E_isPassedBy 33 = .ok (.iaload, 1) := by decide +kernel
theorem d_E_isPassedBy_34 : decode c_E_isPassedBy 34 = .ok (.iconst 1, 1) := by decide +kernel
theorem d_E_isPassedBy_35 : decode c_E_isPassedBy 35 = .ok (.aload_n 0, 1) := by decide +kernel
theorem d_E_isPassedBy_36 : decode c_E_isPassedBy 36 = .ok (.getfield 15, 3) := by decide +kernel
theorem d_E_isPassedBy_39 : decode c_E_isPassedBy 39 = .ok (.iload_n 1, 1) := by decide +kernel
theorem d_E_isPassedBy_40 : decode c_E_isPassedBy 40 = .ok (.iaload, 1) := by decide +kernel
theorem d_E_isPassedBy_41 : decode c_E_isPassedBy 41 = .ok (.ishl, 1) := by decide +kernel
theorem d_E_isPassedBy_42 : decode c_E_isPassedBy 42 = .ok (.iconst (-1), 1) := by decide +kernel
theorem d_E_isPassedBy_43 : decode c_E_isPassedBy 43 = .ok (.ixor, 1) := by decide +kernel
theorem d_E_isPassedBy_44 : decode c_E_isPassedBy 44 = .ok (.iand, 1) := by decide +kernel
theorem d_E_isPassedBy_45 : decode c_E_isPassedBy 45 = .ok (.istore 4, 2) := by decide +kernel
theorem d_E_isPassedBy_47 : decode c_E_isPassedBy 47 = .ok (.iconst 0, 1) := by decide +kernel
theorem d_E_isPassedBy_48 : decode c_E_isPassedBy 48 = .ok (.istore 5, 2) := by decide +kernel
theorem d_E_isPassedBy_50 : decode c_E_isPassedBy 50 = .ok (.iload 5, 2) := by decide +kernel
theorem d_E_isPassedBy_52 : decode c_E_isPassedBy 52 = .ok (.bipush 9, 2) := by decide +kernel
theorem d_E_isPassedBy_54 : decode c_E_isPassedBy 54 = .ok (.if_icmp .ge 38, 3) := by decide +kernel
theorem d_E_isPassedBy_57 : decode c_E_isPassedBy 57 = .ok (.iload_n 3, 1) := by decide +kernel
theorem d_E_isPassedBy_58 : decode c_E_isPassedBy 58 = .ok (.iload 5, 2) := by decide +kernel
theorem d_E_isPassedBy_60 : decode c_E_isPassedBy 60 = .ok (.invokestatic 67, 3) := by decide +kernel
theorem d_E_isPassedBy_63 : decode c_E_isPassedBy 63 = .ok (.ifCond .eq 23, 3) := by decide +kernel
theorem d_E_isPassedBy_66 : decode c_E_isPassedBy 66 = .ok (.iconst 1, 1) := by decide +kernel
theorem d_E_isPassedBy_67 : decode c_E_isPassedBy 67 = .ok (.iload 5, 2) := by decide +kernel
theorem d_E_isPassedBy_69 : decode c_E_isPassedBy 69 = .ok (.ishl, 1) := by decide +kernel
theorem d_E_isPassedBy_70 : decode c_E_isPassedBy 70 = .ok (.aload_n 0, 1) := by decide +kernel
theorem d_E_isPassedBy_71 : decode c_E_isPassedBy 71 = .ok (.getfield 33, 3) := by decide +kernel
theorem d_E_isPassedBy_74 : decode c_E_isPassedBy 74 = .ok (.iload 5, 2) := by decide +kernel
theorem d_E_isPassedBy_76 : decode c_E_isPassedBy 76 = .ok (.iaload, 1) := by decide +kernel
theorem d_E_isPassedBy_77 : decode c_E_isPassedBy 77 = .ok (.ior, 1) := by decide +kernel
theorem d_E_isPassedBy_78 : decode c_E_isPassedBy 78 = .ok (.iload 4, 2) := by decide +kernel
theorem d_E_isPassedBy_80 : decode c_E_isPassedBy 80 = .ok (.iand, 1) := by decide +kernel
theorem d_E_isPassedBy_81 : decode c_E_isPassedBy 81 = .ok (.ifCond .eq 5, 3) := by decide +kernel
theorem d_E_isPassedBy_84 : decode c_E_isPassedBy 84 = .ok (.iconst 1, 1) := by decide +kernel
theorem d_E_isPassedBy_85 : decode c_E_isPassedBy 85 = .ok (.ireturn, 1) := by decide +kernel
theorem d_E_isPassedBy_86 : decode c_E_isPassedBy 86 = .ok (.iinc 5 1, 3) := by decide +kernel
theorem d_E_isPassedBy_89 : decode c_E_isPassedBy 89 = .ok (.goto (-39), 3) := by decide +kernel
theorem d_E_isPassedBy_92 : decode c_E_isPassedBy 92 = .ok (.iconst 0, 1) := by decide +kernel
theorem d_E_isPassedBy_93 : decode c_E_isPassedBy 93 = .ok (.ireturn, 1) := by decide +kernel
abbrev c_W_init : ByteArray := prog_4_method_1_code
def y_W_init : MethodName := ⟨"ReadGraph$Walks", "<init>", "(LReadGraph$Edges;)V"⟩
theorem d_W_init_0 : decode c_W_init 0 = .ok (.aload_n 0, 1) := by decide +kernel
theorem d_W_init_1 : decode c_W_init 1 = .ok (.invokespecial 3, 3) := by decide +kernel
theorem d_W_init_4 : decode c_W_init 4 = .ok (.aload_n 0, 1) := by decide +kernel
theorem d_W_init_5 : decode c_W_init 5 = .ok (.sipush 2000, 3) := by decide +kernel
theorem d_W_init_8 : decode c_W_init 8 = .ok (.newarray .int, 2) := by decide +kernel
theorem d_W_init_10 : decode c_W_init 10 = .ok (.putfield 9, 3) := by decide +kernel
theorem d_W_init_13 : decode c_W_init 13 = .ok (.aload_n 0, 1) := by decide +kernel
theorem d_W_init_14 : decode c_W_init 14 = .ok (.bipush 50, 2) := by decide +kernel
theorem d_W_init_16 : decode c_W_init 16 = .ok (.newarray .int, 2) := by decide +kernel
theorem d_W_init_18 : decode c_W_init 18 = .ok (.putfield 15, 3) := by decide +kernel
theorem d_W_init_21 : decode c_W_init 21 = .ok (.aload_n 0, 1) := by decide +kernel
theorem d_W_init_22 : decode c_W_init 22 = .ok (.bipush 40, 2) := by decide +kernel
theorem d_W_init_24 : decode c_W_init 24 = .ok (.newarray .int, 2) := by decide +kernel
theorem d_W_init_26 : decode c_W_init 26 = .ok (.putfield 18, 3) := by decide +kernel
theorem d_W_init_29 : decode c_W_init 29 = .ok (.aload_n 0, 1) := by decide +kernel
theorem d_W_init_30 : decode c_W_init 30 = .ok (.bipush 40, 2) := by decide +kernel
theorem d_W_init_32 : decode c_W_init 32 = .ok (.newarray .int, 2) := by decide +kernel
theorem d_W_init_34 : decode c_W_init 34 = .ok (.putfield 21, 3) := by decide +kernel
theorem d_W_init_37 : decode c_W_init 37 = .ok (.aload_n 0, 1) := by decide +kernel
theorem d_W_init_38 : decode c_W_init 38 = .ok (.aload_n 1, 1) := by decide +kernel
theorem d_W_init_39 : decode c_W_init 39 = .ok (.putfield 24, 3) := by decide +kernel
theorem d_W_init_42 : decode c_W_init 42 = .ok (.return_, 1) := by decide +kernel
abbrev c_W_has : ByteArray := prog_4_method_2_code
def y_W_has : MethodName := ⟨"ReadGraph$Walks", "has", "(I)Z"⟩
theorem d_W_has_0 : decode c_W_has 0 = .ok (.iload_n 1, 1) := by decide +kernel
theorem d_W_has_1 : decode c_W_has 1 = .ok (.ifCond .lt 15, 3) := by decide +kernel
theorem d_W_has_4 : decode c_W_has 4 = .ok (.iload_n 1, 1) := by decide +kernel
theorem d_W_has_5 : decode c_W_has 5 = .ok (.aload_n 0, 1) := by decide +kernel
theorem d_W_has_6 : decode c_W_has 6 = .ok (.getfield 28, 3) := by decide +kernel
theorem d_W_has_9 : decode c_W_has 9 = .ok (.if_icmp .ge 7, 3) := by decide +kernel
theorem d_W_has_12 : decode c_W_has 12 = .ok (.iconst 1, 1) := by decide +kernel
theorem d_W_has_13 : decode c_W_has 13 = .ok (.goto 4, 3) := by decide +kernel
theorem d_W_has_16 : decode c_W_has 16 = .ok (.iconst 0, 1) := by decide +kernel
theorem d_W_has_17 : decode c_W_has 17 = .ok (.ireturn, 1) := by decide +kernel
abbrev c_W_edgeAt : ByteArray := prog_4_method_3_code
def y_W_edgeAt : MethodName := ⟨"ReadGraph$Walks", "edgeAt", "(II)I"⟩
theorem d_W_edgeAt_0 : decode c_W_edgeAt 0 = .ok (.aload_n 0, 1) := by decide +kernel
theorem d_W_edgeAt_1 : decode c_W_edgeAt 1 = .ok (.getfield 9, 3) := by decide +kernel
theorem d_W_edgeAt_4 : decode c_W_edgeAt 4 = .ok (.iload_n 1, 1) := by decide +kernel
theorem d_W_edgeAt_5 : decode c_W_edgeAt 5 = .ok (.bipush 40, 2) := by decide +kernel
theorem d_W_edgeAt_7 : decode c_W_edgeAt 7 = .ok (.imul, 1) := by decide +kernel
theorem d_W_edgeAt_8 : decode c_W_edgeAt 8 = .ok (.iload_n 2, 1) := by decide +kernel
theorem d_W_edgeAt_9 : decode c_W_edgeAt 9 = .ok (.iadd, 1) := by decide +kernel
theorem d_W_edgeAt_10 : decode c_W_edgeAt 10 = .ok (.iaload, 1) := by decide +kernel
theorem d_W_edgeAt_11 : decode c_W_edgeAt 11 = .ok (.ireturn, 1) := by decide +kernel
abbrev c_W_find : ByteArray := prog_4_method_4_code
def y_W_find : MethodName := ⟨"ReadGraph$Walks", "find", "()Z"⟩
theorem d_W_find_0 : decode c_W_find 0 = .ok (.aload_n 0, 1) := by decide +kernel
theorem d_W_find_1 : decode c_W_find 1 = .ok (.iconst 0, 1) := by decide +kernel
theorem d_W_find_2 : decode c_W_find 2 = .ok (.putfield 28, 3) := by decide +kernel
theorem d_W_find_5 : decode c_W_find 5 = .ok (.ldc 32, 2) := by decide +kernel
theorem d_W_find_7 : decode c_W_find 7 = .ok (.istore_n 1, 1) := by decide +kernel
theorem d_W_find_8 : decode c_W_find 8 = .ok (.iconst 0, 1) := by decide +kernel
theorem d_W_find_9 : decode c_W_find 9 = .ok (.istore_n 2, 1) := by decide +kernel
theorem d_W_find_10 : decode c_W_find 10 = .ok (.iload_n 2, 1) := by decide +kernel
theorem d_W_find_11 : decode c_W_find 11 = .ok (.aload_n 0, 1) := by decide +kernel
theorem d_W_find_12 : decode c_W_find 12 = .ok (.getfield 24, 3) := by decide +kernel
theorem d_W_find_15 : decode c_W_find 15 = .ok (.getfield 33, 3) := by decide +kernel
theorem d_W_find_18 : decode c_W_find 18 = .ok (.if_icmp .ge 31, 3) := by decide +kernel
theorem d_W_find_21 : decode c_W_find 21 = .ok (.aload_n 0, 1) := by decide +kernel
theorem d_W_find_22 : decode c_W_find 22 = .ok (.iconst 0, 1) := by decide +kernel
theorem d_W_find_23 : decode c_W_find 23 = .ok (.putfield 36, 3) := by decide +kernel
theorem d_W_find_26 : decode c_W_find 26 = .ok (.aload_n 0, 1) := by decide +kernel
theorem d_W_find_27 : decode c_W_find 27 = .ok (.iload_n 2, 1) := by decide +kernel
theorem d_W_find_28 : decode c_W_find 28 = .ok (.invokevirtual 39, 3) := by decide +kernel
theorem d_W_find_31 : decode c_W_find 31 = .ok (.aload_n 0, 1) := by decide +kernel
theorem d_W_find_32 : decode c_W_find 32 = .ok (.iload_n 1, 1) := by decide +kernel
theorem d_W_find_33 : decode c_W_find 33 = .ok (.invokevirtual 43, 3) := by decide +kernel
theorem d_W_find_36 : decode c_W_find 36 = .ok (.istore_n 1, 1) := by decide +kernel
theorem d_W_find_37 : decode c_W_find 37 = .ok (.iload_n 1, 1) := by decide +kernel
theorem d_W_find_38 : decode c_W_find 38 = .ok (.ifCond .ge 5, 3) := by decide +kernel
theorem d_W_find_41 : decode c_W_find 41 = .ok (.iconst 0, 1) := by decide +kernel
theorem d_W_find_42 : decode c_W_find 42 = .ok (.ireturn, 1) := by decide +kernel
theorem d_W_find_43 : decode c_W_find 43 = .ok (.iinc 2 1, 3) := by decide +kernel
theorem d_W_find_46 : decode c_W_find 46 = .ok (.goto (-36), 3) := by decide +kernel
theorem d_W_find_49 : decode c_W_find 49 = .ok (.iconst 1, 1) := by decide +kernel
theorem d_W_find_50 : decode c_W_find 50 = .ok (.ireturn, 1) := by decide +kernel
abbrev c_W_findFrom : ByteArray := prog_4_method_5_code
def y_W_findFrom : MethodName := ⟨"ReadGraph$Walks", "findFrom", "(I)I"⟩
theorem d_W_findFrom_0 : decode c_W_findFrom 0 = .ok (.iconst 0, 1) := by decide +kernel
theorem d_W_findFrom_1 : decode c_W_findFrom 1 = .ok (.istore_n 2, 1) := by decide +kernel
theorem d_W_findFrom_2 : decode c_W_findFrom 2 = .ok (.iload_n 1, 1) := by decide +kernel
theorem d_W_findFrom_3 : decode c_W_findFrom 3 = .ok (.istore_n 3, 1) := by decide +kernel
theorem d_W_findFrom_4 : decode c_W_findFrom 4 = .ok (.iload_n 3, 1) := by decide +kernel
theorem d_W_findFrom_5 : decode c_W_findFrom 5 = .ok (.ifCond .le 83, 3) := by decide +kernel
theorem d_W_findFrom_8 : decode c_W_findFrom 8 = .ok (.aload_n 0, 1) := by decide +kernel
theorem d_W_findFrom_9 : decode c_W_findFrom 9 = .ok (.invokevirtual 47, 3) := by decide +kernel
theorem d_W_findFrom_12 : decode c_W_findFrom 12 = .ok (.istore 4, 2) := by decide +kernel
theorem d_W_findFrom_14 : decode c_W_findFrom 14 = .ok (.iload 4, 2) := by decide +kernel
theorem d_W_findFrom_16 : decode c_W_findFrom 16 = .ok (.ifCond .lt 25, 3) := by decide +kernel
theorem d_W_findFrom_19 : decode c_W_findFrom 19 = .ok (.aload_n 0, 1) := by decide +kernel
theorem d_W_findFrom_20 : decode c_W_findFrom 20 = .ok (.getfield 36, 3) := by decide +kernel
theorem d_W_findFrom_23 : decode c_W_findFrom 23 = .ok (.bipush 40, 2) := by decide +kernel
theorem d_W_findFrom_25 : decode c_W_findFrom 25 = .ok (.if_icmp .ne 5, 3) := by decide +kernel
theorem d_W_findFrom_28 : decode c_W_findFrom 28 = .ok (.iconst (-1), 1) := by decide +kernel
theorem d_W_findFrom_29 : decode c_W_findFrom 29 = .ok (.ireturn, 1) := by decide +kernel
theorem d_W_findFrom_30 : decode c_W_findFrom 30 = .ok (.aload_n 0, 1) := by decide +kernel
theorem d_W_findFrom_31 : decode c_W_findFrom 31 = .ok (.iload 4, 2) := by decide +kernel
theorem d_W_findFrom_33 : decode c_W_findFrom 33 = .ok (.invokevirtual 39, 3) := by decide +kernel
theorem d_W_findFrom_36 : decode c_W_findFrom 36 = .ok (.iconst 0, 1) := by decide +kernel
theorem d_W_findFrom_37 : decode c_W_findFrom 37 = .ok (.istore_n 2, 1) := by decide +kernel
theorem d_W_findFrom_38 : decode c_W_findFrom 38 = .ok (.goto 35, 3) := by decide +kernel
theorem d_W_findFrom_41 : decode c_W_findFrom 41 = .ok (.iload_n 2, 1) := by decide +kernel
theorem d_W_findFrom_42 : decode c_W_findFrom 42 = .ok (.ifCond .ne 19, 3) := by decide +kernel
theorem d_W_findFrom_45 : decode c_W_findFrom 45 = .ok (.aload_n 0, 1) := by decide +kernel
theorem d_W_findFrom_46 : decode c_W_findFrom 46 = .ok (.invokevirtual 51, 3) := by decide +kernel
theorem d_W_findFrom_49 : decode c_W_findFrom 49 = .ok (.ifCond .ne 12, 3) := by decide +kernel
theorem d_W_findFrom_52 : decode c_W_findFrom 52 = .ok (.aload_n 0, 1) := by decide +kernel
theorem d_W_findFrom_53 : decode c_W_findFrom 53 = .ok (.invokevirtual 55, 3) := by decide +kernel
theorem d_W_findFrom_56 : decode c_W_findFrom 56 = .ok (.ifCond .ne 5, 3) := by decide +kernel
theorem d_W_findFrom_59 : decode c_W_findFrom 59 = .ok (.iconst (-1), 1) := by decide +kernel
theorem d_W_findFrom_60 : decode c_W_findFrom 60 = .ok (.ireturn, 1) := by decide +kernel
theorem d_W_findFrom_61 : decode c_W_findFrom 61 = .ok (.aload_n 0, 1) := by decide +kernel
theorem d_W_findFrom_62 : decode c_W_findFrom 62 = .ok (.dup, 1) := by decide +kernel
theorem d_W_findFrom_63 : decode c_W_findFrom 63 = .ok (.getfield 36, 3) := by decide +kernel
theorem d_W_findFrom_66 : decode c_W_findFrom 66 = .ok (.iconst 1, 1) := by decide +kernel
theorem d_W_findFrom_67 : decode c_W_findFrom 67 = .ok (.isub, 1) := by decide +kernel
theorem d_W_findFrom_68 : decode c_W_findFrom 68 = .ok (.putfield 36, 3) := by decide +kernel
theorem d_W_findFrom_71 : decode c_W_findFrom 71 = .ok (.iconst 1, 1) := by decide +kernel
theorem d_W_findFrom_72 : decode c_W_findFrom 72 = .ok (.istore_n 2, 1) := by decide +kernel
theorem d_W_findFrom_73 : decode c_W_findFrom 73 = .ok (.aload_n 0, 1) := by decide +kernel
theorem d_W_findFrom_74 : decode c_W_findFrom 74 = .ok (.getfield 36, 3) := by decide +kernel
theorem d_W_findFrom_77 : decode c_W_findFrom 77 = .ok (.ifCond .ne 5, 3) := by decide +kernel
theorem d_W_findFrom_80 : decode c_W_findFrom 80 = .ok (.iload_n 3, 1) := by decide +kernel
theorem d_W_findFrom_81 : decode c_W_findFrom 81 = .ok (.ireturn, 1) := by decide +kernel
theorem d_W_findFrom_82 : decode c_W_findFrom 82 = .ok (.iinc 3 (-1), 3) := by decide +kernel
theorem d_W_findFrom_85 : decode c_W_findFrom 85 = .ok (.goto (-81), 3) := by decide +kernel
theorem d_W_findFrom_88 : decode c_W_findFrom 88 = .ok (.iconst (-1), 1) := by decide +kernel
theorem d_W_findFrom_89 : decode c_W_findFrom 89 = .ok (.ireturn, 1) := by decide +kernel
abbrev c_W_stepOn : ByteArray := prog_4_method_6_code
def y_W_stepOn : MethodName := ⟨"ReadGraph$Walks", "stepOn", "(I)V"⟩
theorem d_W_stepOn_0 : decode c_W_stepOn 0 = .ok (.aload_n 0, 1) := by decide +kernel
theorem d_W_stepOn_1 : decode c_W_stepOn 1 = .ok (.getfield 18, 3) := by decide +kernel
theorem d_W_stepOn_4 : decode c_W_stepOn 4 = .ok (.aload_n 0, 1) := by decide +kernel
theorem d_W_stepOn_5 : decode c_W_stepOn 5 = .ok (.getfield 36, 3) := by decide +kernel
theorem d_W_stepOn_8 : decode c_W_stepOn 8 = .ok (.iload_n 1, 1) := by decide +kernel
theorem d_W_stepOn_9 : decode c_W_stepOn 9 = .ok (.iastore, 1) := by decide +kernel
theorem d_W_stepOn_10 : decode c_W_stepOn 10 = .ok (.aload_n 0, 1) := by decide +kernel
theorem d_W_stepOn_11 : decode c_W_stepOn 11 = .ok (.getfield 21, 3) := by decide +kernel
theorem d_W_stepOn_14 : decode c_W_stepOn 14 = .ok (.aload_n 0, 1) := by decide +kernel
theorem d_W_stepOn_15 : decode c_W_stepOn 15 = .ok (.getfield 36, 3) := by decide +kernel
theorem d_W_stepOn_18 : decode c_W_stepOn 18 = .ok (.aload_n 0, 1) := by decide +kernel
theorem d_W_stepOn_19 : decode c_W_stepOn 19 = .ok (.getfield 24, 3) := by decide +kernel
theorem d_W_stepOn_22 : decode c_W_stepOn 22 = .ok (.getfield 58, 3) := by decide +kernel
theorem d_W_stepOn_25 : decode c_W_stepOn 25 = .ok (.aload_n 0, 1) := by decide +kernel
theorem d_W_stepOn_26 : decode c_W_stepOn 26 = .ok (.getfield 24, 3) := by decide +kernel
theorem d_W_stepOn_29 : decode c_W_stepOn 29 = .ok (.getfield 61, 3) := by decide +kernel
theorem d_W_stepOn_32 : decode c_W_stepOn 32 = .ok (.iload_n 1, 1) := by decide +kernel
theorem d_W_stepOn_33 : decode c_W_stepOn 33 = .ok (.iaload, 1) := by decide +kernel
theorem d_W_stepOn_34 : decode c_W_stepOn 34 = .ok (.iaload, 1) := by decide +kernel
theorem d_W_stepOn_35 : decode c_W_stepOn 35 = .ok (.iastore, 1) := by decide +kernel
theorem d_W_stepOn_36 : decode c_W_stepOn 36 = .ok (.aload_n 0, 1) := by decide +kernel
theorem d_W_stepOn_37 : decode c_W_stepOn 37 = .ok (.dup, 1) := by decide +kernel
theorem d_W_stepOn_38 : decode c_W_stepOn 38 = .ok (.getfield 36, 3) := by decide +kernel
theorem d_W_stepOn_41 : decode c_W_stepOn 41 = .ok (.iconst 1, 1) := by decide +kernel
theorem d_W_stepOn_42 : decode c_W_stepOn 42 = .ok (.iadd, 1) := by decide +kernel
theorem d_W_stepOn_43 : decode c_W_stepOn 43 = .ok (.putfield 36, 3) := by decide +kernel
theorem d_W_stepOn_46 : decode c_W_stepOn 46 = .ok (.return_, 1) := by decide +kernel
abbrev c_W_nextBehind : ByteArray := prog_4_method_7_code
def y_W_nextBehind : MethodName := ⟨"ReadGraph$Walks", "nextBehind", "()I"⟩
theorem d_W_nextBehind_0 : decode c_W_nextBehind 0 = .ok (.aload_n 0, 1) := by decide +kernel
theorem d_W_nextBehind_1 : decode c_W_nextBehind 1 = .ok (.getfield 24, 3) := by decide +kernel
theorem d_W_nextBehind_4 : decode c_W_nextBehind 4 = .ok (.getfield 61, 3) := by decide +kernel
theorem d_W_nextBehind_7 : decode c_W_nextBehind 7 = .ok (.aload_n 0, 1) := by decide +kernel
theorem d_W_nextBehind_8 : decode c_W_nextBehind 8 = .ok (.getfield 18, 3) := by decide +kernel
theorem d_W_nextBehind_11 : decode c_W_nextBehind 11 = .ok (.aload_n 0, 1) := by decide +kernel
theorem d_W_nextBehind_12 : decode c_W_nextBehind 12 = .ok (.getfield 36, 3) := by decide +kernel
theorem d_W_nextBehind_15 : decode c_W_nextBehind 15 = .ok (.iconst 1, 1) := by decide +kernel
theorem d_W_nextBehind_16 : decode c_W_nextBehind 16 = .ok (.isub, 1) := by decide +kernel
theorem d_W_nextBehind_17 : decode c_W_nextBehind 17 = .ok (.iaload, 1) := by decide +kernel
theorem d_W_nextBehind_18 : decode c_W_nextBehind 18 = .ok (.iaload, 1) := by decide +kernel
theorem d_W_nextBehind_19 : decode c_W_nextBehind 19 = .ok (.istore_n 1, 1) := by decide +kernel
theorem d_W_nextBehind_20 : decode c_W_nextBehind 20 = .ok (.aload_n 0, 1) := by decide +kernel
theorem d_W_nextBehind_21 : decode c_W_nextBehind 21 = .ok (.getfield 21, 3) := by decide +kernel
theorem d_W_nextBehind_24 : decode c_W_nextBehind 24 = .ok (.aload_n 0, 1) := by decide +kernel
theorem d_W_nextBehind_25 : decode c_W_nextBehind 25 = .ok (.getfield 36, 3) := by decide +kernel
theorem d_W_nextBehind_28 : decode c_W_nextBehind 28 = .ok (.iconst 1, 1) := by decide +kernel
theorem d_W_nextBehind_29 : decode c_W_nextBehind 29 = .ok (.isub, 1) := by decide +kernel
theorem d_W_nextBehind_30 : decode c_W_nextBehind 30 = .ok (.iaload, 1) := by decide +kernel
theorem d_W_nextBehind_31 : decode c_W_nextBehind 31 = .ok (.istore_n 2, 1) := by decide +kernel
theorem d_W_nextBehind_32 : decode c_W_nextBehind 32 = .ok (.iload_n 2, 1) := by decide +kernel
theorem d_W_nextBehind_33 : decode c_W_nextBehind 33 = .ok (.aload_n 0, 1) := by decide +kernel
theorem d_W_nextBehind_34 : decode c_W_nextBehind 34 = .ok (.getfield 24, 3) := by decide +kernel
theorem d_W_nextBehind_37 : decode c_W_nextBehind 37 = .ok (.getfield 58, 3) := by decide +kernel
theorem d_W_nextBehind_40 : decode c_W_nextBehind 40 = .ok (.iload_n 1, 1) := by decide +kernel
theorem d_W_nextBehind_41 : decode c_W_nextBehind 41 = .ok (.iconst 1, 1) := by decide +kernel
theorem d_W_nextBehind_42 : decode c_W_nextBehind 42 = .ok (.iadd, 1) := by decide +kernel
theorem d_W_nextBehind_43 : decode c_W_nextBehind 43 = .ok (.iaload, 1) := by decide +kernel
theorem d_W_nextBehind_44 : decode c_W_nextBehind 44 = .ok (.if_icmp .ge 33, 3) := by decide +kernel
theorem d_W_nextBehind_47 : decode c_W_nextBehind 47 = .ok (.aload_n 0, 1) := by decide +kernel
theorem d_W_nextBehind_48 : decode c_W_nextBehind 48 = .ok (.iload_n 2, 1) := by decide +kernel
theorem d_W_nextBehind_49 : decode c_W_nextBehind 49 = .ok (.invokevirtual 64, 3) := by decide +kernel
theorem d_W_nextBehind_52 : decode c_W_nextBehind 52 = .ok (.ifCond .eq 19, 3) := by decide +kernel
theorem d_W_nextBehind_55 : decode c_W_nextBehind 55 = .ok (.aload_n 0, 1) := by decide +kernel
theorem d_W_nextBehind_56 : decode c_W_nextBehind 56 = .ok (.getfield 21, 3) := by decide +kernel
theorem d_W_nextBehind_59 : decode c_W_nextBehind 59 = .ok (.aload_n 0, 1) := by decide +kernel
theorem d_W_nextBehind_60 : decode c_W_nextBehind 60 = .ok (.getfield 36, 3) := by decide +kernel
theorem d_W_nextBehind_63 : decode c_W_nextBehind 63 = .ok (.iconst 1, 1) := by decide +kernel
theorem d_W_nextBehind_64 : decode c_W_nextBehind 64 = .ok (.isub, 1) := by decide +kernel
theorem d_W_nextBehind_65 : decode c_W_nextBehind 65 = .ok (.iload_n 2, 1) := by decide +kernel
theorem d_W_nextBehind_66 : decode c_W_nextBehind 66 = .ok (.iconst 1, 1) := by decide +kernel
theorem d_W_nextBehind_67 : decode c_W_nextBehind 67 = .ok (.iadd, 1) := by decide +kernel
theorem d_W_nextBehind_68 : decode c_W_nextBehind 68 = .ok (.iastore, 1) := by decide +kernel
theorem d_W_nextBehind_69 : decode c_W_nextBehind 69 = .ok (.iload_n 2, 1) := by decide +kernel
theorem d_W_nextBehind_70 : decode c_W_nextBehind 70 = .ok (.ireturn, 1) := by decide +kernel
theorem d_W_nextBehind_71 : decode c_W_nextBehind 71 = .ok (.iinc 2 1, 3) := by decide +kernel
theorem d_W_nextBehind_74 : decode c_W_nextBehind 74 = .ok (.goto (-42), 3) := by decide +kernel
theorem d_W_nextBehind_77 : decode c_W_nextBehind 77 = .ok (.iconst (-1), 1) := by decide +kernel
theorem d_W_nextBehind_78 : decode c_W_nextBehind 78 = .ok (.ireturn, 1) := by decide +kernel
abbrev c_W_staysSafeBehind : ByteArray := prog_4_method_8_code
def y_W_staysSafeBehind : MethodName := ⟨"ReadGraph$Walks", "staysSafeBehind", "(I)Z"⟩
theorem d_W_staysSafeBehind_0 : decode c_W_staysSafeBehind 0 = .ok (.iconst 0, 1) := by decide +kernel
theorem d_W_staysSafeBehind_1 : decode c_W_staysSafeBehind 1 = .ok (.istore_n 2, 1) := by decide +kernel
theorem d_W_staysSafeBehind_2 : decode c_W_staysSafeBehind 2 = .ok (.iload_n 2, 1) := by decide +kernel
theorem d_W_staysSafeBehind_3 : decode c_W_staysSafeBehind 3 = .ok (.aload_n 0, 1) := by decide +kernel
theorem d_W_staysSafeBehind_4 : decode c_W_staysSafeBehind 4 = .ok (.getfield 36, 3) := by decide +kernel
theorem d_W_staysSafeBehind_7 : decode c_W_staysSafeBehind 7 = .ok (.if_icmp .ge 28, 3) := by decide +kernel
theorem d_W_staysSafeBehind_10 : decode c_W_staysSafeBehind 10 = .ok (.aload_n 0, 1) := by decide +kernel
theorem d_W_staysSafeBehind_11 : decode c_W_staysSafeBehind 11 = .ok (.getfield 24, 3) := by decide +kernel
theorem d_W_staysSafeBehind_14 : decode c_W_staysSafeBehind 14 = .ok (.aload_n 0, 1) := by decide +kernel
theorem d_W_staysSafeBehind_15 : decode c_W_staysSafeBehind 15 = .ok (.getfield 18, 3) := by decide +kernel
theorem d_W_staysSafeBehind_18 : decode c_W_staysSafeBehind 18 = .ok (.iload_n 2, 1) := by decide +kernel
theorem d_W_staysSafeBehind_19 : decode c_W_staysSafeBehind 19 = .ok (.iaload, 1) := by decide +kernel
theorem d_W_staysSafeBehind_20 : decode c_W_staysSafeBehind 20 = .ok (.iload_n 1, 1) := by decide +kernel
theorem d_W_staysSafeBehind_21 : decode c_W_staysSafeBehind 21 = .ok (.invokevirtual 68, 3) := by decide +kernel
theorem d_W_staysSafeBehind_24 : decode c_W_staysSafeBehind 24 = .ok (.ifCond .eq 5, 3) := by decide +kernel
theorem d_W_staysSafeBehind_27 : decode c_W_staysSafeBehind 27 = .ok (.iconst 0, 1) := by decide +kernel
theorem d_W_staysSafeBehind_28 : decode c_W_staysSafeBehind 28 = .ok (.ireturn, 1) := by decide +kernel
theorem d_W_staysSafeBehind_29 : decode c_W_staysSafeBehind 29 = .ok (.iinc 2 1, 3) := by decide +kernel
theorem d_W_staysSafeBehind_32 : decode c_W_staysSafeBehind 32 = .ok (.goto (-30), 3) := by decide +kernel
theorem d_W_staysSafeBehind_35 : decode c_W_staysSafeBehind 35 = .ok (.iconst 1, 1) := by decide +kernel
theorem d_W_staysSafeBehind_36 : decode c_W_staysSafeBehind 36 = .ok (.ireturn, 1) := by decide +kernel
abbrev c_W_hasBefore : ByteArray := prog_4_method_9_code
def y_W_hasBefore : MethodName := ⟨"ReadGraph$Walks", "hasBefore", "()Z"⟩
theorem d_W_hasBefore_0 : decode c_W_hasBefore 0 = .ok (.iconst 0, 1) := by decide +kernel
theorem d_W_hasBefore_1 : decode c_W_hasBefore 1 = .ok (.istore_n 1, 1) := by decide +kernel
theorem d_W_hasBefore_2 : decode c_W_hasBefore 2 = .ok (.iload_n 1, 1) := by decide +kernel
theorem d_W_hasBefore_3 : decode c_W_hasBefore 3 = .ok (.aload_n 0, 1) := by decide +kernel
theorem d_W_hasBefore_4 : decode c_W_hasBefore 4 = .ok (.getfield 24, 3) := by decide +kernel
theorem d_W_hasBefore_7 : decode c_W_hasBefore 7 = .ok (.getfield 33, 3) := by decide +kernel
theorem d_W_hasBefore_10 : decode c_W_hasBefore 10 = .ok (.if_icmp .ge 45, 3) := by decide +kernel
theorem d_W_hasBefore_13 : decode c_W_hasBefore 13 = .ok (.aload_n 0, 1) := by decide +kernel
theorem d_W_hasBefore_14 : decode c_W_hasBefore 14 = .ok (.getfield 24, 3) := by decide +kernel
theorem d_W_hasBefore_17 : decode c_W_hasBefore 17 = .ok (.getfield 61, 3) := by decide +kernel
theorem d_W_hasBefore_20 : decode c_W_hasBefore 20 = .ok (.iload_n 1, 1) := by decide +kernel
theorem d_W_hasBefore_21 : decode c_W_hasBefore 21 = .ok (.iaload, 1) := by decide +kernel
theorem d_W_hasBefore_22 : decode c_W_hasBefore 22 = .ok (.aload_n 0, 1) := by decide +kernel
theorem d_W_hasBefore_23 : decode c_W_hasBefore 23 = .ok (.getfield 24, 3) := by decide +kernel
theorem d_W_hasBefore_26 : decode c_W_hasBefore 26 = .ok (.getfield 72, 3) := by decide +kernel
theorem d_W_hasBefore_29 : decode c_W_hasBefore 29 = .ok (.aload_n 0, 1) := by decide +kernel
theorem d_W_hasBefore_30 : decode c_W_hasBefore 30 = .ok (.getfield 18, 3) := by decide +kernel
theorem d_W_hasBefore_33 : decode c_W_hasBefore 33 = .ok (.iconst 0, 1) := by decide +kernel
theorem d_W_hasBefore_34 : decode c_W_hasBefore 34 = .ok (.iaload, 1) := by decide +kernel
theorem d_W_hasBefore_35 : decode c_W_hasBefore 35 = .ok (.iaload, 1) := by decide +kernel
theorem d_W_hasBefore_36 : decode c_W_hasBefore 36 = .ok (.if_icmp .ne 13, 3) := by decide +kernel
theorem d_W_hasBefore_39 : decode c_W_hasBefore 39 = .ok (.aload_n 0, 1) := by decide +kernel
theorem d_W_hasBefore_40 : decode c_W_hasBefore 40 = .ok (.iload_n 1, 1) := by decide +kernel
theorem d_W_hasBefore_41 : decode c_W_hasBefore 41 = .ok (.invokevirtual 75, 3) := by decide +kernel
theorem d_W_hasBefore_44 : decode c_W_hasBefore 44 = .ok (.ifCond .eq 5, 3) := by decide +kernel
theorem d_W_hasBefore_47 : decode c_W_hasBefore 47 = .ok (.iconst 1, 1) := by decide +kernel
theorem d_W_hasBefore_48 : decode c_W_hasBefore 48 = .ok (.ireturn, 1) := by decide +kernel
theorem d_W_hasBefore_49 : decode c_W_hasBefore 49 = .ok (.iinc 1 1, 3) := by decide +kernel
theorem d_W_hasBefore_52 : decode c_W_hasBefore 52 = .ok (.goto (-50), 3) := by decide +kernel
theorem d_W_hasBefore_55 : decode c_W_hasBefore 55 = .ok (.iconst 0, 1) := by decide +kernel
theorem d_W_hasBefore_56 : decode c_W_hasBefore 56 = .ok (.ireturn, 1) := by decide +kernel
abbrev c_W_staysSafeBefore : ByteArray := prog_4_method_10_code
def y_W_staysSafeBefore : MethodName := ⟨"ReadGraph$Walks", "staysSafeBefore", "(I)Z"⟩
theorem d_W_staysSafeBefore_0 : decode c_W_staysSafeBefore 0 = .ok (.iconst 0, 1) := by decide +kernel
theorem d_W_staysSafeBefore_1 : decode c_W_staysSafeBefore 1 = .ok (.istore_n 2, 1) := by decide +kernel
theorem d_W_staysSafeBefore_2 : decode c_W_staysSafeBefore 2 = .ok (.iload_n 2, 1) := by decide +kernel
theorem d_W_staysSafeBefore_3 : decode c_W_staysSafeBefore 3 = .ok (.aload_n 0, 1) := by decide +kernel
theorem d_W_staysSafeBefore_4 : decode c_W_staysSafeBefore 4 = .ok (.getfield 36, 3) := by decide +kernel
theorem d_W_staysSafeBefore_7 : decode c_W_staysSafeBefore 7 = .ok (.if_icmp .ge 28, 3) := by decide +kernel
theorem d_W_staysSafeBefore_10 : decode c_W_staysSafeBefore 10 = .ok (.aload_n 0, 1) := by decide +kernel
theorem d_W_staysSafeBefore_11 : decode c_W_staysSafeBefore 11 = .ok (.getfield 24, 3) := by decide +kernel
theorem d_W_staysSafeBefore_14 : decode c_W_staysSafeBefore 14 = .ok (.iload_n 1, 1) := by decide +kernel
theorem d_W_staysSafeBefore_15 : decode c_W_staysSafeBefore 15 = .ok (.aload_n 0, 1) := by decide +kernel
theorem d_W_staysSafeBefore_16 : decode c_W_staysSafeBefore 16 = .ok (.getfield 18, 3) := by decide +kernel
theorem d_W_staysSafeBefore_19 : decode c_W_staysSafeBefore 19 = .ok (.iload_n 2, 1) := by decide +kernel
theorem d_W_staysSafeBefore_20 : decode c_W_staysSafeBefore 20 = .ok (.iaload, 1) := by decide +kernel
theorem d_W_staysSafeBefore_21 : decode c_W_staysSafeBefore 21 = .ok (.invokevirtual 68, 3) := by decide +kernel
theorem d_W_staysSafeBefore_24 : decode c_W_staysSafeBefore 24 = .ok (.ifCond .eq 5, 3) := by decide +kernel
theorem d_W_staysSafeBefore_27 : decode c_W_staysSafeBefore 27 = .ok (.iconst 0, 1) := by decide +kernel
theorem d_W_staysSafeBefore_28 : decode c_W_staysSafeBefore 28 = .ok (.ireturn, 1) := by decide +kernel
theorem d_W_staysSafeBefore_29 : decode c_W_staysSafeBefore 29 = .ok (.iinc 2 1, 3) := by decide +kernel
theorem d_W_staysSafeBefore_32 : decode c_W_staysSafeBefore 32 = .ok (.goto (-30), 3) := by decide +kernel
theorem d_W_staysSafeBefore_35 : decode c_W_staysSafeBefore 35 = .ok (.iconst 1, 1) := by decide +kernel
theorem d_W_staysSafeBefore_36 : decode c_W_staysSafeBefore 36 = .ok (.ireturn, 1) := by decide +kernel
abbrev c_W_keepTrail : ByteArray := prog_4_method_11_code
def y_W_keepTrail : MethodName := ⟨"ReadGraph$Walks", "keepTrail", "()Z"⟩
theorem d_W_keepTrail_0 : decode c_W_keepTrail 0 = .ok (.aload_n 0, 1) := by decide +kernel
theorem d_W_keepTrail_1 : decode c_W_keepTrail 1 = .ok (.getfield 28, 3) := by decide +kernel
theorem d_W_keepTrail_4 : decode c_W_keepTrail 4 = .ok (.bipush 50, 2) := by decide +kernel
theorem d_W_keepTrail_6 : decode c_W_keepTrail 6 = .ok (.if_icmp .ne 5, 3) := by decide +kernel
theorem d_W_keepTrail_9 : decode c_W_keepTrail 9 = .ok (.iconst 0, 1) := by decide +kernel
theorem d_W_keepTrail_10 : decode c_W_keepTrail 10 = .ok (.ireturn, 1) := by decide +kernel
theorem d_W_keepTrail_11 : decode c_W_keepTrail 11 = .ok (.iconst 0, 1) := by decide +kernel
theorem d_W_keepTrail_12 : decode c_W_keepTrail 12 = .ok (.istore_n 1, 1) := by decide +kernel
theorem d_W_keepTrail_13 : decode c_W_keepTrail 13 = .ok (.iload_n 1, 1) := by decide +kernel
theorem d_W_keepTrail_14 : decode c_W_keepTrail 14 = .ok (.aload_n 0, 1) := by decide +kernel
theorem d_W_keepTrail_15 : decode c_W_keepTrail 15 = .ok (.getfield 36, 3) := by decide +kernel
theorem d_W_keepTrail_18 : decode c_W_keepTrail 18 = .ok (.if_icmp .ge 29, 3) := by decide +kernel
theorem d_W_keepTrail_21 : decode c_W_keepTrail 21 = .ok (.aload_n 0, 1) := by decide +kernel
theorem d_W_keepTrail_22 : decode c_W_keepTrail 22 = .ok (.getfield 9, 3) := by decide +kernel
theorem d_W_keepTrail_25 : decode c_W_keepTrail 25 = .ok (.aload_n 0, 1) := by decide +kernel
theorem d_W_keepTrail_26 : decode c_W_keepTrail 26 = .ok (.getfield 28, 3) := by decide +kernel
theorem d_W_keepTrail_29 : decode c_W_keepTrail 29 = .ok (.bipush 40, 2) := by decide +kernel
theorem d_W_keepTrail_31 : decode c_W_keepTrail 31 = .ok (.imul, 1) := by decide +kernel
theorem d_W_keepTrail_32 : decode c_W_keepTrail 32 = .ok (.iload_n 1, 1) := by decide +kernel
theorem d_W_keepTrail_33 : decode c_W_keepTrail 33 = .ok (.iadd, 1) := by decide +kernel
theorem d_W_keepTrail_34 : decode c_W_keepTrail 34 = .ok (.aload_n 0, 1) := by decide +kernel
theorem d_W_keepTrail_35 : decode c_W_keepTrail 35 = .ok (.getfield 18, 3) := by decide +kernel
theorem d_W_keepTrail_38 : decode c_W_keepTrail 38 = .ok (.iload_n 1, 1) := by decide +kernel
theorem d_W_keepTrail_39 : decode c_W_keepTrail 39 = .ok (.iaload, 1) := by decide +kernel
theorem d_W_keepTrail_40 : decode c_W_keepTrail 40 = .ok (.iastore, 1) := by decide +kernel
theorem d_W_keepTrail_41 : decode c_W_keepTrail 41 = .ok (.iinc 1 1, 3) := by decide +kernel
theorem d_W_keepTrail_44 : decode c_W_keepTrail 44 = .ok (.goto (-31), 3) := by decide +kernel
theorem d_W_keepTrail_47 : decode c_W_keepTrail 47 = .ok (.aload_n 0, 1) := by decide +kernel
theorem d_W_keepTrail_48 : decode c_W_keepTrail 48 = .ok (.getfield 15, 3) := by decide +kernel
theorem d_W_keepTrail_51 : decode c_W_keepTrail 51 = .ok (.aload_n 0, 1) := by decide +kernel
theorem d_W_keepTrail_52 : decode c_W_keepTrail 52 = .ok (.getfield 28, 3) := by decide +kernel
theorem d_W_keepTrail_55 : decode c_W_keepTrail 55 = .ok (.aload_n 0, 1) := by decide +kernel
theorem d_W_keepTrail_56 : decode c_W_keepTrail 56 = .ok (.getfield 36, 3) := by decide +kernel
theorem d_W_keepTrail_59 : decode c_W_keepTrail 59 = .ok (.iastore, 1) := by decide +kernel
theorem d_W_keepTrail_60 : decode c_W_keepTrail 60 = .ok (.aload_n 0, 1) := by decide +kernel
theorem d_W_keepTrail_61 : decode c_W_keepTrail 61 = .ok (.dup, 1) := by decide +kernel
theorem d_W_keepTrail_62 : decode c_W_keepTrail 62 = .ok (.getfield 28, 3) := by decide +kernel
theorem d_W_keepTrail_65 : decode c_W_keepTrail 65 = .ok (.iconst 1, 1) := by decide +kernel
theorem d_W_keepTrail_66 : decode c_W_keepTrail 66 = .ok (.iadd, 1) := by decide +kernel
theorem d_W_keepTrail_67 : decode c_W_keepTrail 67 = .ok (.putfield 28, 3) := by decide +kernel
theorem d_W_keepTrail_70 : decode c_W_keepTrail 70 = .ok (.iconst 1, 1) := by decide +kernel
theorem d_W_keepTrail_71 : decode c_W_keepTrail 71 = .ok (.ireturn, 1) := by decide +kernel
end
section
/-! names and decode rows: the reference (by program) -/
abbrev c_M_init : ByteArray := prog_6_method_1_code
def y_M_init : MethodName := ⟨"ReadGraphModel", "<init>", "()V"⟩
theorem d_M_init_0 : decode c_M_init 0 = .ok (.aload_n 0, 1) := by decide +kernel
theorem d_M_init_1 : decode c_M_init 1 = .ok (.invokespecial 1, 3) := by decide +kernel
theorem d_M_init_4 : decode c_M_init 4 = .ok (.aload_n 0, 1) := by decide +kernel
theorem d_M_init_5 : decode c_M_init 5 = .ok (.bipush 9, 2) := by decide +kernel
theorem d_M_init_7 : decode c_M_init 7 = .ok (.newarray .int, 2) := by decide +kernel
theorem d_M_init_9 : decode c_M_init 9 = .ok (.putfield 7, 3) := by decide +kernel
theorem d_M_init_12 : decode c_M_init 12 = .ok (.aload_n 0, 1) := by decide +kernel
theorem d_M_init_13 : decode c_M_init 13 = .ok (.bipush 108, 2) := by decide +kernel
theorem d_M_init_15 : decode c_M_init 15 = .ok (.newarray .int, 2) := by decide +kernel
theorem d_M_init_17 : decode c_M_init 17 = .ok (.putfield 13, 3) := by decide +kernel
theorem d_M_init_20 : decode c_M_init 20 = .ok (.aload_n 0, 1) := by decide +kernel
theorem d_M_init_21 : decode c_M_init 21 = .ok (.bipush 9, 2) := by decide +kernel
theorem d_M_init_23 : decode c_M_init 23 = .ok (.newarray .boolean, 2) := by decide +kernel
theorem d_M_init_25 : decode c_M_init 25 = .ok (.putfield 16, 3) := by decide +kernel
theorem d_M_init_28 : decode c_M_init 28 = .ok (.aload_n 0, 1) := by decide +kernel
theorem d_M_init_29 : decode c_M_init 29 = .ok (.bipush 81, 2) := by decide +kernel
theorem d_M_init_31 : decode c_M_init 31 = .ok (.newarray .int, 2) := by decide +kernel
theorem d_M_init_33 : decode c_M_init 33 = .ok (.putfield 20, 3) := by decide +kernel
theorem d_M_init_36 : decode c_M_init 36 = .ok (.aload_n 0, 1) := by decide +kernel
theorem d_M_init_37 : decode c_M_init 37 = .ok (.bipush 81, 2) := by decide +kernel
theorem d_M_init_39 : decode c_M_init 39 = .ok (.newarray .int, 2) := by decide +kernel
theorem d_M_init_41 : decode c_M_init 41 = .ok (.putfield 23, 3) := by decide +kernel
theorem d_M_init_44 : decode c_M_init 44 = .ok (.aload_n 0, 1) := by decide +kernel
theorem d_M_init_45 : decode c_M_init 45 = .ok (.bipush 81, 2) := by decide +kernel
theorem d_M_init_47 : decode c_M_init 47 = .ok (.newarray .int, 2) := by decide +kernel
theorem d_M_init_49 : decode c_M_init 49 = .ok (.putfield 26, 3) := by decide +kernel
theorem d_M_init_52 : decode c_M_init 52 = .ok (.aload_n 0, 1) := by decide +kernel
theorem d_M_init_53 : decode c_M_init 53 = .ok (.bipush 81, 2) := by decide +kernel
theorem d_M_init_55 : decode c_M_init 55 = .ok (.newarray .int, 2) := by decide +kernel
theorem d_M_init_57 : decode c_M_init 57 = .ok (.putfield 29, 3) := by decide +kernel
theorem d_M_init_60 : decode c_M_init 60 = .ok (.aload_n 0, 1) := by decide +kernel
theorem d_M_init_61 : decode c_M_init 61 = .ok (.bipush 81, 2) := by decide +kernel
theorem d_M_init_63 : decode c_M_init 63 = .ok (.newarray .int, 2) := by decide +kernel
theorem d_M_init_65 : decode c_M_init 65 = .ok (.putfield 32, 3) := by decide +kernel
theorem d_M_init_68 : decode c_M_init 68 = .ok (.aload_n 0, 1) := by decide +kernel
theorem d_M_init_69 : decode c_M_init 69 = .ok (.bipush 81, 2) := by decide +kernel
theorem d_M_init_71 : decode c_M_init 71 = .ok (.newarray .int, 2) := by decide +kernel
theorem d_M_init_73 : decode c_M_init 73 = .ok (.putfield 35, 3) := by decide +kernel
theorem d_M_init_76 : decode c_M_init 76 = .ok (.aload_n 0, 1) := by decide +kernel
theorem d_M_init_77 : decode c_M_init 77 = .ok (.bipush 81, 2) := by decide +kernel
theorem d_M_init_79 : decode c_M_init 79 = .ok (.newarray .boolean, 2) := by decide +kernel
theorem d_M_init_81 : decode c_M_init 81 = .ok (.putfield 38, 3) := by decide +kernel
theorem d_M_init_84 : decode c_M_init 84 = .ok (.aload_n 0, 1) := by decide +kernel
theorem d_M_init_85 : decode c_M_init 85 = .ok (.sipush 6561, 3) := by decide +kernel
theorem d_M_init_88 : decode c_M_init 88 = .ok (.newarray .int, 2) := by decide +kernel
theorem d_M_init_90 : decode c_M_init 90 = .ok (.putfield 41, 3) := by decide +kernel
theorem d_M_init_93 : decode c_M_init 93 = .ok (.aload_n 0, 1) := by decide +kernel
theorem d_M_init_94 : decode c_M_init 94 = .ok (.bipush 44, 2) := by decide +kernel
theorem d_M_init_96 : decode c_M_init 96 = .ok (.newarray .int, 2) := by decide +kernel
theorem d_M_init_98 : decode c_M_init 98 = .ok (.putfield 44, 3) := by decide +kernel
theorem d_M_init_101 : decode c_M_init 101 = .ok (.aload_n 0, 1) := by decide +kernel
theorem d_M_init_102 : decode c_M_init 102 = .ok (.bipush 44, 2) := by decide +kernel
theorem d_M_init_104 : decode c_M_init 104 = .ok (.newarray .int, 2) := by decide +kernel
theorem d_M_init_106 : decode c_M_init 106 = .ok (.putfield 47, 3) := by decide +kernel
theorem d_M_init_109 : decode c_M_init 109 = .ok (.aload_n 0, 1) := by decide +kernel
theorem d_M_init_110 : decode c_M_init 110 = .ok (.bipush 50, 2) := by decide +kernel
theorem d_M_init_112 : decode c_M_init 112 = .ok (.newarray .int, 2) := by decide +kernel
theorem d_M_init_114 : decode c_M_init 114 = .ok (.putfield 50, 3) := by decide +kernel
theorem d_M_init_117 : decode c_M_init 117 = .ok (.aload_n 0, 1) := by decide +kernel
theorem d_M_init_118 : decode c_M_init 118 = .ok (.sipush 2000, 3) := by decide +kernel
theorem d_M_init_121 : decode c_M_init 121 = .ok (.newarray .int, 2) := by decide +kernel
theorem d_M_init_123 : decode c_M_init 123 = .ok (.putfield 53, 3) := by decide +kernel
theorem d_M_init_126 : decode c_M_init 126 = .ok (.return_, 1) := by decide +kernel
abbrev c_M_thrown : ByteArray := prog_6_method_2_code
def y_M_thrown : MethodName := ⟨"ReadGraphModel", "thrown", "()I"⟩
theorem d_M_thrown_0 : decode c_M_thrown 0 = .ok (.aload_n 0, 1) := by decide +kernel
theorem d_M_thrown_1 : decode c_M_thrown 1 = .ok (.getfield 56, 3) := by decide +kernel
theorem d_M_thrown_4 : decode c_M_thrown 4 = .ok (.ireturn, 1) := by decide +kernel
abbrev c_M_throwing : ByteArray := prog_6_method_3_code
def y_M_throwing : MethodName := ⟨"ReadGraphModel", "throwing", "(ZZ)Z"⟩
theorem d_M_throwing_0 : decode c_M_throwing 0 = .ok (.aload_n 0, 1) := by decide +kernel
theorem d_M_throwing_1 : decode c_M_throwing 1 = .ok (.iload_n 1, 1) := by decide +kernel
theorem d_M_throwing_2 : decode c_M_throwing 2 = .ok (.ifCond .eq 7, 3) := by decide +kernel
theorem d_M_throwing_5 : decode c_M_throwing 5 = .ok (.iconst 1, 1) := by decide +kernel
theorem d_M_throwing_6 : decode c_M_throwing 6 = .ok (.goto 12, 3) := by decide +kernel
theorem d_M_throwing_9 : decode c_M_throwing 9 = .ok (.iload_n 2, 1) := by decide +kernel
theorem d_M_throwing_10 : decode c_M_throwing 10 = .ok (.ifCond .eq 7, 3) := by decide +kernel
theorem d_M_throwing_13 : decode c_M_throwing 13 = .ok (.iconst 2, 1) := by decide +kernel
theorem d_M_throwing_14 : decode c_M_throwing 14 = .ok (.goto 4, 3) := by decide +kernel
theorem d_M_throwing_17 : decode c_M_throwing 17 = .ok (.iconst 0, 1) := by decide +kernel
theorem d_M_throwing_18 : decode c_M_throwing 18 = .ok (.putfield 56, 3) := by decide +kernel
theorem d_M_throwing_21 : decode c_M_throwing 21 = .ok (.aload_n 0, 1) := by decide +kernel
theorem d_M_throwing_22 : decode c_M_throwing 22 = .ok (.getfield 56, 3) := by decide +kernel
theorem d_M_throwing_25 : decode c_M_throwing 25 = .ok (.ifCond .le 7, 3) := by decide +kernel
theorem d_M_throwing_28 : decode c_M_throwing 28 = .ok (.iconst 1, 1) := by decide +kernel
theorem d_M_throwing_29 : decode c_M_throwing 29 = .ok (.goto 4, 3) := by decide +kernel
theorem d_M_throwing_32 : decode c_M_throwing 32 = .ok (.iconst 0, 1) := by decide +kernel
theorem d_M_throwing_33 : decode c_M_throwing 33 = .ok (.ireturn, 1) := by decide +kernel
abbrev c_M_out : ByteArray := prog_6_method_4_code
def y_M_out : MethodName := ⟨"ReadGraphModel", "out", "(II)Z"⟩
theorem d_M_out_0 : decode c_M_out 0 = .ok (.iload_n 0, 1) := by decide +kernel
theorem d_M_out_1 : decode c_M_out 1 = .ok (.ifCond .lt 8, 3) := by decide +kernel
theorem d_M_out_4 : decode c_M_out 4 = .ok (.iload_n 0, 1) := by decide +kernel
theorem d_M_out_5 : decode c_M_out 5 = .ok (.iload_n 1, 1) := by decide +kernel
theorem d_M_out_6 : decode c_M_out 6 = .ok (.if_icmp .lt 7, 3) := by decide +kernel
theorem d_M_out_9 : decode c_M_out 9 = .ok (.iconst 1, 1) := by decide +kernel
theorem d_M_out_10 : decode c_M_out 10 = .ok (.goto 4, 3) := by decide +kernel
theorem d_M_out_13 : decode c_M_out 13 = .ok (.iconst 0, 1) := by decide +kernel
theorem d_M_out_14 : decode c_M_out 14 = .ok (.ireturn, 1) := by decide +kernel
abbrev c_M_again : ByteArray := prog_6_method_5_code
def y_M_again : MethodName := ⟨"ReadGraphModel", "again", "()V"⟩
theorem d_M_again_0 : decode c_M_again 0 = .ok (.aload_n 0, 1) := by decide +kernel
theorem d_M_again_1 : decode c_M_again 1 = .ok (.iconst 0, 1) := by decide +kernel
theorem d_M_again_2 : decode c_M_again 2 = .ok (.putfield 60, 3) := by decide +kernel
theorem d_M_again_5 : decode c_M_again 5 = .ok (.aload_n 0, 1) := by decide +kernel
theorem d_M_again_6 : decode c_M_again 6 = .ok (.iconst 0, 1) := by decide +kernel
theorem d_M_again_7 : decode c_M_again 7 = .ok (.putfield 63, 3) := by decide +kernel
theorem d_M_again_10 : decode c_M_again 10 = .ok (.aload_n 0, 1) := by decide +kernel
theorem d_M_again_11 : decode c_M_again 11 = .ok (.iconst 0, 1) := by decide +kernel
theorem d_M_again_12 : decode c_M_again 12 = .ok (.putfield 66, 3) := by decide +kernel
theorem d_M_again_15 : decode c_M_again 15 = .ok (.iconst 0, 1) := by decide +kernel
theorem d_M_again_16 : decode c_M_again 16 = .ok (.istore_n 1, 1) := by decide +kernel
theorem d_M_again_17 : decode c_M_again 17 = .ok (.iload_n 1, 1) := by decide +kernel
theorem d_M_again_18 : decode c_M_again 18 = .ok (.bipush 81, 2) := by decide +kernel
theorem d_M_again_20 : decode c_M_again 20 = .ok (.if_icmp .ge 16, 3) := by decide +kernel
theorem d_M_again_23 : decode c_M_again 23 = .ok (.aload_n 0, 1) := by decide +kernel
theorem d_M_again_24 : decode c_M_again 24 = .ok (.getfield 38, 3) := by decide +kernel
theorem d_M_again_27 : decode c_M_again 27 = .ok (.iload_n 1, 1) := by decide +kernel
theorem d_M_again_28 : decode c_M_again 28 = .ok (.iconst 0, 1) := by decide +kernel
theorem d_M_again_29 : decode c_M_again 29 = .ok (.bastore, 1) := by decide +kernel
theorem d_M_again_30 : decode c_M_again 30 = .ok (.iinc 1 1, 3) := by decide +kernel
theorem d_M_again_33 : decode c_M_again 33 = .ok (.goto (-16), 3) := by decide +kernel
theorem d_M_again_36 : decode c_M_again 36 = .ok (.iconst 0, 1) := by decide +kernel
theorem d_M_again_37 : decode c_M_again 37 = .ok (.istore_n 1, 1) := by decide +kernel
theorem d_M_again_38 : decode c_M_again 38 = .ok (.iload_n 1, 1) := by decide +kernel
theorem d_M_again_39 : decode c_M_again 39 = .ok (.sipush 6561, 3) := by decide +kernel
theorem d_M_again_42 : decode c_M_again 42 = .ok (.if_icmp .ge 16, 3) := by decide +kernel
theorem d_M_again_45 : decode c_M_again 45 = .ok (.aload_n 0, 1) := by decide +kernel
theorem d_M_again_46 : decode c_M_again 46 = .ok (.getfield 41, 3) := by decide +kernel
theorem d_M_again_49 : decode c_M_again 49 = .ok (.iload_n 1, 1) := by decide +kernel
theorem d_M_again_50 : decode c_M_again 50 = .ok (.iconst 0, 1) := by decide +kernel
theorem d_M_again_51 : decode c_M_again 51 = .ok (.iastore, 1) := by decide +kernel
theorem d_M_again_52 : decode c_M_again 52 = .ok (.iinc 1 1, 3) := by decide +kernel
theorem d_M_again_55 : decode c_M_again 55 = .ok (.goto (-17), 3) := by decide +kernel
theorem d_M_again_58 : decode c_M_again 58 = .ok (.return_, 1) := by decide +kernel
abbrev c_M_same : ByteArray := prog_6_method_6_code
def y_M_same : MethodName := ⟨"ReadGraphModel", "same", "(IIIII)Z"⟩
theorem d_M_same_0 : decode c_M_same 0 = .ok (.iconst 1, 1) := by decide +kernel
theorem d_M_same_1 : decode c_M_same 1 = .ok (.istore 6, 2) := by decide +kernel
theorem d_M_same_3 : decode c_M_same 3 = .ok (.iconst 0, 1) := by decide +kernel
theorem d_M_same_4 : decode c_M_same 4 = .ok (.istore 7, 2) := by decide +kernel
theorem d_M_same_6 : decode c_M_same 6 = .ok (.iload 7, 2) := by decide +kernel
theorem d_M_same_8 : decode c_M_same 8 = .ok (.iload 5, 2) := by decide +kernel
theorem d_M_same_10 : decode c_M_same 10 = .ok (.if_icmp .ge 53, 3) := by decide +kernel
theorem d_M_same_13 : decode c_M_same 13 = .ok (.iload 6, 2) := by decide +kernel
theorem d_M_same_15 : decode c_M_same 15 = .ok (.ifCond .eq 39, 3) := by decide +kernel
theorem d_M_same_18 : decode c_M_same 18 = .ok (.aload_n 0, 1) := by decide +kernel
theorem d_M_same_19 : decode c_M_same 19 = .ok (.getfield 13, 3) := by decide +kernel
theorem d_M_same_22 : decode c_M_same 22 = .ok (.bipush 12, 2) := by decide +kernel
theorem d_M_same_24 : decode c_M_same 24 = .ok (.iload_n 1, 1) := by decide +kernel
theorem d_M_same_25 : decode c_M_same 25 = .ok (.imul, 1) := by decide +kernel
theorem d_M_same_26 : decode c_M_same 26 = .ok (.iload_n 2, 1) := by decide +kernel
theorem d_M_same_27 : decode c_M_same 27 = .ok (.iadd, 1) := by decide +kernel
theorem d_M_same_28 : decode c_M_same 28 = .ok (.iload 7, 2) := by decide +kernel
theorem d_M_same_30 : decode c_M_same 30 = .ok (.iadd, 1) := by decide +kernel
theorem d_M_same_31 : decode c_M_same 31 = .ok (.iaload, 1) := by decide +kernel
theorem d_M_same_32 : decode c_M_same 32 = .ok (.aload_n 0, 1) := by decide +kernel
theorem d_M_same_33 : decode c_M_same 33 = .ok (.getfield 13, 3) := by decide +kernel
theorem d_M_same_36 : decode c_M_same 36 = .ok (.bipush 12, 2) := by decide +kernel
theorem d_M_same_38 : decode c_M_same 38 = .ok (.iload_n 3, 1) := by decide +kernel
theorem d_M_same_39 : decode c_M_same 39 = .ok (.imul, 1) := by decide +kernel
theorem d_M_same_40 : decode c_M_same 40 = .ok (.iload 4, 2) := by decide +kernel
theorem d_M_same_42 : decode c_M_same 42 = .ok (.iadd, 1) := by decide +kernel
theorem d_M_same_43 : decode c_M_same 43 = .ok (.iload 7, 2) := by decide +kernel
theorem d_M_same_45 : decode c_M_same 45 = .ok (.iadd, 1) := by decide +kernel
theorem d_M_same_46 : decode c_M_same 46 = .ok (.iaload, 1) := by decide +kernel
theorem d_M_same_47 : decode c_M_same 47 = .ok (.if_icmp .ne 7, 3) := by decide +kernel
theorem d_M_same_50 : decode c_M_same 50 = .ok (.iconst 1, 1) := by decide +kernel
theorem d_M_same_51 : decode c_M_same 51 = .ok (.goto 4, 3) := by decide +kernel
theorem d_M_same_54 : decode c_M_same 54 = .ok (.iconst 0, 1) := by decide +kernel
theorem d_M_same_55 : decode c_M_same 55 = .ok (.istore 6, 2) := by decide +kernel
theorem d_M_same_57 : decode c_M_same 57 = .ok (.iinc 7 1, 3) := by decide +kernel
theorem d_M_same_60 : decode c_M_same 60 = .ok (.goto (-54), 3) := by decide +kernel
theorem d_M_same_63 : decode c_M_same 63 = .ok (.iload 6, 2) := by decide +kernel
theorem d_M_same_65 : decode c_M_same 65 = .ok (.ireturn, 1) := by decide +kernel
abbrev c_M_isIn : ByteArray := prog_6_method_7_code
def y_M_isIn : MethodName := ⟨"ReadGraphModel", "isIn", "(II)Z"⟩
theorem d_M_isIn_0 : decode c_M_isIn 0 = .ok (.iload_n 1, 1) := by decide +kernel
theorem d_M_isIn_1 : decode c_M_isIn 1 = .ok (.iload_n 2, 1) := by decide +kernel
theorem d_M_isIn_2 : decode c_M_isIn 2 = .ok (.if_icmp .eq 38, 3) := by decide +kernel
theorem d_M_isIn_5 : decode c_M_isIn 5 = .ok (.aload_n 0, 1) := by decide +kernel
theorem d_M_isIn_6 : decode c_M_isIn 6 = .ok (.getfield 7, 3) := by decide +kernel
theorem d_M_isIn_9 : decode c_M_isIn 9 = .ok (.iload_n 1, 1) := by decide +kernel
theorem d_M_isIn_10 : decode c_M_isIn 10 = .ok (.iaload, 1) := by decide +kernel
theorem d_M_isIn_11 : decode c_M_isIn 11 = .ok (.aload_n 0, 1) := by decide +kernel
theorem d_M_isIn_12 : decode c_M_isIn 12 = .ok (.getfield 7, 3) := by decide +kernel
theorem d_M_isIn_15 : decode c_M_isIn 15 = .ok (.iload_n 2, 1) := by decide +kernel
theorem d_M_isIn_16 : decode c_M_isIn 16 = .ok (.iaload, 1) := by decide +kernel
theorem d_M_isIn_17 : decode c_M_isIn 17 = .ok (.if_icmp .gt 23, 3) := by decide +kernel
theorem d_M_isIn_20 : decode c_M_isIn 20 = .ok (.aload_n 0, 1) := by decide +kernel
theorem d_M_isIn_21 : decode c_M_isIn 21 = .ok (.getfield 7, 3) := by decide +kernel
theorem d_M_isIn_24 : decode c_M_isIn 24 = .ok (.iload_n 1, 1) := by decide +kernel
theorem d_M_isIn_25 : decode c_M_isIn 25 = .ok (.iaload, 1) := by decide +kernel
theorem d_M_isIn_26 : decode c_M_isIn 26 = .ok (.aload_n 0, 1) := by decide +kernel
theorem d_M_isIn_27 : decode c_M_isIn 27 = .ok (.getfield 7, 3) := by decide +kernel
theorem d_M_isIn_30 : decode c_M_isIn 30 = .ok (.iload_n 2, 1) := by decide +kernel
theorem d_M_isIn_31 : decode c_M_isIn 31 = .ok (.iaload, 1) := by decide +kernel
theorem d_M_isIn_32 : decode c_M_isIn 32 = .ok (.if_icmp .ne 10, 3) := by decide +kernel
theorem d_M_isIn_35 : decode c_M_isIn 35 = .ok (.iload_n 2, 1) := by decide +kernel
theorem d_M_isIn_36 : decode c_M_isIn 36 = .ok (.iload_n 1, 1) := by decide +kernel
theorem d_M_isIn_37 : decode c_M_isIn 37 = .ok (.if_icmp .le 5, 3) := by decide +kernel
theorem d_M_isIn_40 : decode c_M_isIn 40 = .ok (.iconst 0, 1) := by decide +kernel
theorem d_M_isIn_41 : decode c_M_isIn 41 = .ok (.ireturn, 1) := by decide +kernel
theorem d_M_isIn_42 : decode c_M_isIn 42 = .ok (.iconst 0, 1) := by decide +kernel
theorem d_M_isIn_43 : decode c_M_isIn 43 = .ok (.istore_n 3, 1) := by decide +kernel
theorem d_M_isIn_44 : decode c_M_isIn 44 = .ok (.iconst 0, 1) := by decide +kernel
theorem d_M_isIn_45 : decode c_M_isIn 45 = .ok (.istore 4, 2) := by decide +kernel
theorem d_M_isIn_47 : decode c_M_isIn 47 = .ok (.iload 4, 2) := by decide +kernel
theorem d_M_isIn_49 : decode c_M_isIn 49 = .ok (.aload_n 0, 1) := by decide +kernel
theorem d_M_isIn_50 : decode c_M_isIn 50 = .ok (.getfield 7, 3) := by decide +kernel
theorem d_M_isIn_53 : decode c_M_isIn 53 = .ok (.iload_n 1, 1) := by decide +kernel
theorem d_M_isIn_54 : decode c_M_isIn 54 = .ok (.iaload, 1) := by decide +kernel
theorem d_M_isIn_55 : decode c_M_isIn 55 = .ok (.iadd, 1) := by decide +kernel
theorem d_M_isIn_56 : decode c_M_isIn 56 = .ok (.aload_n 0, 1) := by decide +kernel
theorem d_M_isIn_57 : decode c_M_isIn 57 = .ok (.getfield 7, 3) := by decide +kernel
theorem d_M_isIn_60 : decode c_M_isIn 60 = .ok (.iload_n 2, 1) := by decide +kernel
theorem d_M_isIn_61 : decode c_M_isIn 61 = .ok (.iaload, 1) := by decide +kernel
theorem d_M_isIn_62 : decode c_M_isIn 62 = .ok (.if_icmp .gt 37, 3) := by decide +kernel
theorem d_M_isIn_65 : decode c_M_isIn 65 = .ok (.iload_n 3, 1) := by decide +kernel
theorem d_M_isIn_66 : decode c_M_isIn 66 = .ok (.ifCond .ne 21, 3) := by decide +kernel
theorem d_M_isIn_69 : decode c_M_isIn 69 = .ok (.aload_n 0, 1) := by decide +kernel
theorem d_M_isIn_70 : decode c_M_isIn 70 = .ok (.iload_n 1, 1) := by decide +kernel
theorem d_M_isIn_71 : decode c_M_isIn 71 = .ok (.iconst 0, 1) := by decide +kernel
theorem d_M_isIn_72 : decode c_M_isIn 72 = .ok (.iload_n 2, 1) := by decide +kernel
theorem d_M_isIn_73 : decode c_M_isIn 73 = .ok (.iload 4, 2) := by decide +kernel
theorem d_M_isIn_75 : decode c_M_isIn 75 = .ok (.aload_n 0, 1) := by decide +kernel
theorem d_M_isIn_76 : decode c_M_isIn 76 = .ok (.getfield 7, 3) := by decide +kernel
theorem d_M_isIn_79 : decode c_M_isIn 79 = .ok (.iload_n 1, 1) := by decide +kernel
theorem d_M_isIn_80 : decode c_M_isIn 80 = .ok (.iaload, 1) := by decide +kernel
theorem d_M_isIn_81 : decode c_M_isIn 81 = .ok (.invokevirtual 69, 3) := by decide +kernel
theorem d_M_isIn_84 : decode c_M_isIn 84 = .ok (.ifCond .eq 7, 3) := by decide +kernel
theorem d_M_isIn_87 : decode c_M_isIn 87 = .ok (.iconst 1, 1) := by decide +kernel
theorem d_M_isIn_88 : decode c_M_isIn 88 = .ok (.goto 4, 3) := by decide +kernel
theorem d_M_isIn_91 : decode c_M_isIn 91 = .ok (.iconst 0, 1) := by decide +kernel
theorem d_M_isIn_92 : decode c_M_isIn 92 = .ok (.istore_n 3, 1) := by decide +kernel
theorem d_M_isIn_93 : decode c_M_isIn 93 = .ok (.iinc 4 1, 3) := by decide +kernel
theorem d_M_isIn_96 : decode c_M_isIn 96 = .ok (.goto (-49), 3) := by decide +kernel
theorem d_M_isIn_99 : decode c_M_isIn 99 = .ok (.iload_n 3, 1) := by decide +kernel
theorem d_M_isIn_100 : decode c_M_isIn 100 = .ok (.ireturn, 1) := by decide +kernel
abbrev c_M_read : ByteArray := prog_6_method_8_code
def y_M_read : MethodName := ⟨"ReadGraphModel", "read", "(II)I"⟩
theorem d_M_read_0 : decode c_M_read 0 = .ok (.iload_n 2, 1) := by decide +kernel
theorem d_M_read_1 : decode c_M_read 1 = .ok (.iconst 3, 1) := by decide +kernel
theorem d_M_read_2 : decode c_M_read 2 = .ok (.isub, 1) := by decide +kernel
theorem d_M_read_3 : decode c_M_read 3 = .ok (.bipush 10, 2) := by decide +kernel
theorem d_M_read_5 : decode c_M_read 5 = .ok (.invokestatic 73, 3) := by decide +kernel
theorem d_M_read_8 : decode c_M_read 8 = .ok (.istore_n 3, 1) := by decide +kernel
theorem d_M_read_9 : decode c_M_read 9 = .ok (.aload_n 0, 1) := by decide +kernel
theorem d_M_read_10 : decode c_M_read 10 = .ok (.iload_n 3, 1) := by decide +kernel
theorem d_M_read_11 : decode c_M_read 11 = .ok (.iload_n 3, 1) := by decide +kernel
theorem d_M_read_12 : decode c_M_read 12 = .ok (.ifCond .ne 16, 3) := by decide +kernel
theorem d_M_read_15 : decode c_M_read 15 = .ok (.aload_n 0, 1) := by decide +kernel
theorem d_M_read_16 : decode c_M_read 16 = .ok (.getfield 77, 3) := by decide +kernel
theorem d_M_read_19 : decode c_M_read 19 = .ok (.bipush 9, 2) := by decide +kernel
theorem d_M_read_21 : decode c_M_read 21 = .ok (.if_icmp .ne 7, 3) := by decide +kernel
theorem d_M_read_24 : decode c_M_read 24 = .ok (.iconst 1, 1) := by decide +kernel
theorem d_M_read_25 : decode c_M_read 25 = .ok (.goto 4, 3) := by decide +kernel
theorem d_M_read_28 : decode c_M_read 28 = .ok (.iconst 0, 1) := by decide +kernel
theorem d_M_read_29 : decode c_M_read 29 = .ok (.invokevirtual 80, 3) := by decide +kernel
theorem d_M_read_32 : decode c_M_read 32 = .ok (.ifCond .eq 5, 3) := by decide +kernel
theorem d_M_read_35 : decode c_M_read 35 = .ok (.iconst 0, 1) := by decide +kernel
theorem d_M_read_36 : decode c_M_read 36 = .ok (.ireturn, 1) := by decide +kernel
theorem d_M_read_37 : decode c_M_read 37 = .ok (.aload_n 0, 1) := by decide +kernel
theorem d_M_read_38 : decode c_M_read 38 = .ok (.invokevirtual 84, 3) := by decide +kernel
theorem d_M_read_41 : decode c_M_read 41 = .ok (.aload_n 0, 1) := by decide +kernel
theorem d_M_read_42 : decode c_M_read 42 = .ok (.getfield 7, 3) := by decide +kernel
theorem d_M_read_45 : decode c_M_read 45 = .ok (.aload_n 0, 1) := by decide +kernel
theorem d_M_read_46 : decode c_M_read 46 = .ok (.getfield 77, 3) := by decide +kernel
theorem d_M_read_49 : decode c_M_read 49 = .ok (.iload_n 2, 1) := by decide +kernel
theorem d_M_read_50 : decode c_M_read 50 = .ok (.iastore, 1) := by decide +kernel
theorem d_M_read_51 : decode c_M_read 51 = .ok (.iconst 0, 1) := by decide +kernel
theorem d_M_read_52 : decode c_M_read 52 = .ok (.istore 4, 2) := by decide +kernel
theorem d_M_read_54 : decode c_M_read 54 = .ok (.iload 4, 2) := by decide +kernel
theorem d_M_read_56 : decode c_M_read 56 = .ok (.iload_n 2, 1) := by decide +kernel
theorem d_M_read_57 : decode c_M_read 57 = .ok (.if_icmp .ge 36, 3) := by decide +kernel
theorem d_M_read_60 : decode c_M_read 60 = .ok (.aload_n 0, 1) := by decide +kernel
theorem d_M_read_61 : decode c_M_read 61 = .ok (.getfield 13, 3) := by decide +kernel
theorem d_M_read_64 : decode c_M_read 64 = .ok (.bipush 12, 2) := by decide +kernel
theorem d_M_read_66 : decode c_M_read 66 = .ok (.aload_n 0, 1) := by decide +kernel
theorem d_M_read_67 : decode c_M_read 67 = .ok (.getfield 77, 3) := by decide +kernel
theorem d_M_read_70 : decode c_M_read 70 = .ok (.imul, 1) := by decide +kernel
theorem d_M_read_71 : decode c_M_read 71 = .ok (.iload 4, 2) := by decide +kernel
theorem d_M_read_73 : decode c_M_read 73 = .ok (.iadd, 1) := by decide +kernel
theorem d_M_read_74 : decode c_M_read 74 = .ok (.iload_n 1, 1) := by decide +kernel
theorem d_M_read_75 : decode c_M_read 75 = .ok (.iconst 2, 1) := by decide +kernel
theorem d_M_read_76 : decode c_M_read 76 = .ok (.iload_n 2, 1) := by decide +kernel
theorem d_M_read_77 : decode c_M_read 77 = .ok (.iconst 1, 1) := by decide +kernel
theorem d_M_read_78 : decode c_M_read 78 = .ok (.isub, 1) := by decide +kernel
theorem d_M_read_79 : decode c_M_read 79 = .ok (.iload 4, 2) := by decide +kernel
theorem d_M_read_81 : decode c_M_read 81 = .ok (.isub, 1) := by decide +kernel
theorem d_M_read_82 : decode c_M_read 82 = .ok (.imul, 1) := by decide +kernel
theorem d_M_read_83 : decode c_M_read 83 = .ok (.ishr, 1) := by decide +kernel
theorem d_M_read_84 : decode c_M_read 84 = .ok (.iconst 3, 1) := by decide +kernel
theorem d_M_read_85 : decode c_M_read 85 = .ok (.iand, 1) := by decide +kernel
theorem d_M_read_86 : decode c_M_read 86 = .ok (.iastore, 1) := by decide +kernel
theorem d_M_read_87 : decode c_M_read 87 = .ok (.iinc 4 1, 3) := by decide +kernel
theorem d_M_read_90 : decode c_M_read 90 = .ok (.goto (-36), 3) := by decide +kernel
theorem d_M_read_93 : decode c_M_read 93 = .ok (.aload_n 0, 1) := by decide +kernel
theorem d_M_read_94 : decode c_M_read 94 = .ok (.dup, 1) := by decide +kernel
theorem d_M_read_95 : decode c_M_read 95 = .ok (.getfield 77, 3) := by decide +kernel
theorem d_M_read_98 : decode c_M_read 98 = .ok (.iconst 1, 1) := by decide +kernel
theorem d_M_read_99 : decode c_M_read 99 = .ok (.iadd, 1) := by decide +kernel
theorem d_M_read_100 : decode c_M_read 100 = .ok (.putfield 77, 3) := by decide +kernel
theorem d_M_read_103 : decode c_M_read 103 = .ok (.iconst 0, 1) := by decide +kernel
theorem d_M_read_104 : decode c_M_read 104 = .ok (.istore 4, 2) := by decide +kernel
theorem d_M_read_106 : decode c_M_read 106 = .ok (.iload 4, 2) := by decide +kernel
theorem d_M_read_108 : decode c_M_read 108 = .ok (.aload_n 0, 1) := by decide +kernel
theorem d_M_read_109 : decode c_M_read 109 = .ok (.getfield 77, 3) := by decide +kernel
theorem d_M_read_112 : decode c_M_read 112 = .ok (.if_icmp .ge 68, 3) := by decide +kernel
theorem d_M_read_115 : decode c_M_read 115 = .ok (.aload_n 0, 1) := by decide +kernel
theorem d_M_read_116 : decode c_M_read 116 = .ok (.getfield 16, 3) := by decide +kernel
theorem d_M_read_119 : decode c_M_read 119 = .ok (.iload 4, 2) := by decide +kernel
theorem d_M_read_121 : decode c_M_read 121 = .ok (.iconst 0, 1) := by decide +kernel
theorem d_M_read_122 : decode c_M_read 122 = .ok (.bastore, 1) := by decide +kernel
theorem d_M_read_123 : decode c_M_read 123 = .ok (.iconst 0, 1) := by decide +kernel
theorem d_M_read_124 : decode c_M_read 124 = .ok (.istore 5, 2) := by decide +kernel
theorem d_M_read_126 : decode c_M_read 126 = .ok (.iload 5, 2) := by decide +kernel
theorem d_M_read_128 : decode c_M_read 128 = .ok (.aload_n 0, 1) := by decide +kernel
theorem d_M_read_129 : decode c_M_read 129 = .ok (.getfield 77, 3) := by decide +kernel
theorem d_M_read_132 : decode c_M_read 132 = .ok (.if_icmp .ge 42, 3) := by decide +kernel
theorem d_M_read_135 : decode c_M_read 135 = .ok (.aload_n 0, 1) := by decide +kernel
theorem d_M_read_136 : decode c_M_read 136 = .ok (.getfield 16, 3) := by decide +kernel
theorem d_M_read_139 : decode c_M_read 139 = .ok (.iload 4, 2) := by decide +kernel
theorem d_M_read_141 : decode c_M_read 141 = .ok (.aload_n 0, 1) := by decide +kernel
theorem d_M_read_142 : decode c_M_read 142 = .ok (.getfield 16, 3) := by decide +kernel
theorem d_M_read_145 : decode c_M_read 145 = .ok (.iload 4, 2) := by decide +kernel
theorem d_M_read_147 : decode c_M_read 147 = .ok (.baload, 1) := by decide +kernel
theorem d_M_read_148 : decode c_M_read 148 = .ok (.ifCond .ne 14, 3) := by decide +kernel
theorem d_M_read_151 : decode c_M_read 151 = .ok (.aload_n 0, 1) := by decide +kernel
theorem d_M_read_152 : decode c_M_read 152 = .ok (.iload 4, 2) := by decide +kernel
theorem d_M_read_154 : decode c_M_read 154 = .ok (.iload 5, 2) := by decide +kernel
theorem d_M_read_156 : decode c_M_read 156 = .ok (.invokevirtual 87, 3) := by decide +kernel
theorem d_M_read_159 : decode c_M_read 159 = .ok (.ifCond .eq 7, 3) := by decide +kernel
theorem d_M_read_162 : decode c_M_read 162 = .ok (.iconst 1, 1) := by decide +kernel
theorem d_M_read_163 : decode c_M_read 163 = .ok (.goto 4, 3) := by decide +kernel
theorem d_M_read_166 : decode c_M_read 166 = .ok (.iconst 0, 1) := by decide +kernel
theorem d_M_read_167 : decode c_M_read 167 = .ok (.bastore, 1) := by decide +kernel
theorem d_M_read_168 : decode c_M_read 168 = .ok (.iinc 5 1, 3) := by decide +kernel
theorem d_M_read_171 : decode c_M_read 171 = .ok (.goto (-45), 3) := by decide +kernel
theorem d_M_read_174 : decode c_M_read 174 = .ok (.iinc 4 1, 3) := by decide +kernel
theorem d_M_read_177 : decode c_M_read 177 = .ok (.goto (-71), 3) := by decide +kernel
theorem d_M_read_180 : decode c_M_read 180 = .ok (.aload_n 0, 1) := by decide +kernel
theorem d_M_read_181 : decode c_M_read 181 = .ok (.getfield 77, 3) := by decide +kernel
theorem d_M_read_184 : decode c_M_read 184 = .ok (.iconst 1, 1) := by decide +kernel
theorem d_M_read_185 : decode c_M_read 185 = .ok (.isub, 1) := by decide +kernel
theorem d_M_read_186 : decode c_M_read 186 = .ok (.ireturn, 1) := by decide +kernel
abbrev c_M_clear : ByteArray := prog_6_method_9_code
def y_M_clear : MethodName := ⟨"ReadGraphModel", "clear", "()V"⟩
theorem d_M_clear_0 : decode c_M_clear 0 = .ok (.aload_n 0, 1) := by decide +kernel
theorem d_M_clear_1 : decode c_M_clear 1 = .ok (.iconst 0, 1) := by decide +kernel
theorem d_M_clear_2 : decode c_M_clear 2 = .ok (.putfield 56, 3) := by decide +kernel
theorem d_M_clear_5 : decode c_M_clear 5 = .ok (.aload_n 0, 1) := by decide +kernel
theorem d_M_clear_6 : decode c_M_clear 6 = .ok (.invokevirtual 84, 3) := by decide +kernel
theorem d_M_clear_9 : decode c_M_clear 9 = .ok (.aload_n 0, 1) := by decide +kernel
theorem d_M_clear_10 : decode c_M_clear 10 = .ok (.iconst 0, 1) := by decide +kernel
theorem d_M_clear_11 : decode c_M_clear 11 = .ok (.putfield 77, 3) := by decide +kernel
theorem d_M_clear_14 : decode c_M_clear 14 = .ok (.return_, 1) := by decide +kernel
abbrev c_M_letter : ByteArray := prog_6_method_10_code
def y_M_letter : MethodName := ⟨"ReadGraphModel", "letter", "(II)I"⟩
theorem d_M_letter_0 : decode c_M_letter 0 = .ok (.iload_n 1, 1) := by decide +kernel
theorem d_M_letter_1 : decode c_M_letter 1 = .ok (.aload_n 0, 1) := by decide +kernel
theorem d_M_letter_2 : decode c_M_letter 2 = .ok (.getfield 77, 3) := by decide +kernel
theorem d_M_letter_5 : decode c_M_letter 5 = .ok (.invokestatic 73, 3) := by decide +kernel
theorem d_M_letter_8 : decode c_M_letter 8 = .ok (.istore_n 3, 1) := by decide +kernel
theorem d_M_letter_9 : decode c_M_letter 9 = .ok (.aload_n 0, 1) := by decide +kernel
theorem d_M_letter_10 : decode c_M_letter 10 = .ok (.iload_n 3, 1) := by decide +kernel
theorem d_M_letter_11 : decode c_M_letter 11 = .ok (.iload_n 3, 1) := by decide +kernel
theorem d_M_letter_12 : decode c_M_letter 12 = .ok (.ifCond .ne 22, 3) := by decide +kernel
theorem d_M_letter_15 : decode c_M_letter 15 = .ok (.iload_n 2, 1) := by decide +kernel
theorem d_M_letter_16 : decode c_M_letter 16 = .ok (.iconst (-1), 1) := by decide +kernel
theorem d_M_letter_17 : decode c_M_letter 17 = .ok (.if_icmp .lt 13, 3) := by decide +kernel
theorem d_M_letter_20 : decode c_M_letter 20 = .ok (.iload_n 2, 1) := by decide +kernel
theorem d_M_letter_21 : decode c_M_letter 21 = .ok (.aload_n 0, 1) := by decide +kernel
theorem d_M_letter_22 : decode c_M_letter 22 = .ok (.getfield 7, 3) := by decide +kernel
theorem d_M_letter_25 : decode c_M_letter 25 = .ok (.iload_n 1, 1) := by decide +kernel
theorem d_M_letter_26 : decode c_M_letter 26 = .ok (.iaload, 1) := by decide +kernel
theorem d_M_letter_27 : decode c_M_letter 27 = .ok (.if_icmp .lt 7, 3) := by decide +kernel
theorem d_M_letter_30 : decode c_M_letter 30 = .ok (.iconst 1, 1) := by decide +kernel
theorem d_M_letter_31 : decode c_M_letter 31 = .ok (.goto 4, 3) := by decide +kernel
theorem d_M_letter_34 : decode c_M_letter 34 = .ok (.iconst 0, 1) := by decide +kernel
theorem d_M_letter_35 : decode c_M_letter 35 = .ok (.invokevirtual 80, 3) := by decide +kernel
theorem d_M_letter_38 : decode c_M_letter 38 = .ok (.ifCond .eq 5, 3) := by decide +kernel
theorem d_M_letter_41 : decode c_M_letter 41 = .ok (.iconst 0, 1) := by decide +kernel
theorem d_M_letter_42 : decode c_M_letter 42 = .ok (.ireturn, 1) := by decide +kernel
theorem d_M_letter_43 : decode c_M_letter 43 = .ok (.iload_n 2, 1) := by decide +kernel
theorem d_M_letter_44 : decode c_M_letter 44 = .ok (.ifCond .ge 12, 3) := by decide +kernel
theorem d_M_letter_47 : decode c_M_letter 47 = .ok (.aload_n 0, 1) := by decide +kernel
theorem d_M_letter_48 : decode c_M_letter 48 = .ok (.getfield 7, 3) := by decide +kernel
theorem d_M_letter_51 : decode c_M_letter 51 = .ok (.iload_n 1, 1) := by decide +kernel
theorem d_M_letter_52 : decode c_M_letter 52 = .ok (.iaload, 1) := by decide +kernel
theorem d_M_letter_53 : decode c_M_letter 53 = .ok (.goto 14, 3) := by decide +kernel
theorem d_M_letter_56 : decode c_M_letter 56 = .ok (.aload_n 0, 1) := by decide +kernel
theorem d_M_letter_57 : decode c_M_letter 57 = .ok (.getfield 13, 3) := by decide +kernel
theorem d_M_letter_60 : decode c_M_letter 60 = .ok (.bipush 12, 2) := by decide +kernel
theorem d_M_letter_62 : decode c_M_letter 62 = .ok (.iload_n 1, 1) := by decide +kernel
theorem d_M_letter_63 : decode c_M_letter 63 = .ok (.imul, 1) := by decide +kernel
theorem d_M_letter_64 : decode c_M_letter 64 = .ok (.iload_n 2, 1) := by decide +kernel
theorem d_M_letter_65 : decode c_M_letter 65 = .ok (.iadd, 1) := by decide +kernel
theorem d_M_letter_66 : decode c_M_letter 66 = .ok (.iaload, 1) := by decide +kernel
theorem d_M_letter_67 : decode c_M_letter 67 = .ok (.ireturn, 1) := by decide +kernel
abbrev c_M_contained : ByteArray := prog_6_method_11_code
def y_M_contained : MethodName := ⟨"ReadGraphModel", "contained", "(I)Z"⟩
theorem d_M_contained_0 : decode c_M_contained 0 = .ok (.aload_n 0, 1) := by decide +kernel
theorem d_M_contained_1 : decode c_M_contained 1 = .ok (.iload_n 1, 1) := by decide +kernel
theorem d_M_contained_2 : decode c_M_contained 2 = .ok (.aload_n 0, 1) := by decide +kernel
theorem d_M_contained_3 : decode c_M_contained 3 = .ok (.getfield 77, 3) := by decide +kernel
theorem d_M_contained_6 : decode c_M_contained 6 = .ok (.invokestatic 73, 3) := by decide +kernel
theorem d_M_contained_9 : decode c_M_contained 9 = .ok (.iconst 0, 1) := by decide +kernel
theorem d_M_contained_10 : decode c_M_contained 10 = .ok (.invokevirtual 80, 3) := by decide +kernel
theorem d_M_contained_13 : decode c_M_contained 13 = .ok (.ifCond .ne 16, 3) := by decide +kernel
theorem d_M_contained_16 : decode c_M_contained 16 = .ok (.aload_n 0, 1) := by decide +kernel
theorem d_M_contained_17 : decode c_M_contained 17 = .ok (.getfield 16, 3) := by decide +kernel
theorem d_M_contained_20 : decode c_M_contained 20 = .ok (.iload_n 1, 1) := by decide +kernel
theorem d_M_contained_21 : decode c_M_contained 21 = .ok (.baload, 1) := by decide +kernel
theorem d_M_contained_22 : decode c_M_contained 22 = .ok (.ifCond .eq 7, 3) := by decide +kernel
theorem d_M_contained_25 : decode c_M_contained 25 = .ok (.iconst 1, 1) := by decide +kernel
theorem d_M_contained_26 : decode c_M_contained 26 = .ok (.goto 4, 3) := by decide +kernel
theorem d_M_contained_29 : decode c_M_contained 29 = .ok (.iconst 0, 1) := by decide +kernel
theorem d_M_contained_30 : decode c_M_contained 30 = .ok (.ireturn, 1) := by decide +kernel
abbrev c_M_isNode : ByteArray := prog_6_method_12_code
def y_M_isNode : MethodName := ⟨"ReadGraphModel", "isNode", "(I)Z"⟩
theorem d_M_isNode_0 : decode c_M_isNode 0 = .ok (.iload_n 1, 1) := by decide +kernel
theorem d_M_isNode_1 : decode c_M_isNode 1 = .ok (.aload_n 0, 1) := by decide +kernel
theorem d_M_isNode_2 : decode c_M_isNode 2 = .ok (.getfield 77, 3) := by decide +kernel
theorem d_M_isNode_5 : decode c_M_isNode 5 = .ok (.invokestatic 73, 3) := by decide +kernel
theorem d_M_isNode_8 : decode c_M_isNode 8 = .ok (.ifCond .ne 16, 3) := by decide +kernel
theorem d_M_isNode_11 : decode c_M_isNode 11 = .ok (.aload_n 0, 1) := by decide +kernel
theorem d_M_isNode_12 : decode c_M_isNode 12 = .ok (.getfield 16, 3) := by decide +kernel
theorem d_M_isNode_15 : decode c_M_isNode 15 = .ok (.iload_n 1, 1) := by decide +kernel
theorem d_M_isNode_16 : decode c_M_isNode 16 = .ok (.baload, 1) := by decide +kernel
theorem d_M_isNode_17 : decode c_M_isNode 17 = .ok (.ifCond .ne 7, 3) := by decide +kernel
theorem d_M_isNode_20 : decode c_M_isNode 20 = .ok (.iconst 1, 1) := by decide +kernel
theorem d_M_isNode_21 : decode c_M_isNode 21 = .ok (.goto 4, 3) := by decide +kernel
theorem d_M_isNode_24 : decode c_M_isNode 24 = .ok (.iconst 0, 1) := by decide +kernel
theorem d_M_isNode_25 : decode c_M_isNode 25 = .ok (.ireturn, 1) := by decide +kernel
abbrev c_M_overlapOf : ByteArray := prog_6_method_13_code
def y_M_overlapOf : MethodName := ⟨"ReadGraphModel", "overlapOf", "(III)I"⟩
theorem d_M_overlapOf_0 : decode c_M_overlapOf 0 = .ok (.iconst 0, 1) := by decide +kernel
theorem d_M_overlapOf_1 : decode c_M_overlapOf 1 = .ok (.istore 4, 2) := by decide +kernel
theorem d_M_overlapOf_3 : decode c_M_overlapOf 3 = .ok (.iload_n 3, 1) := by decide +kernel
theorem d_M_overlapOf_4 : decode c_M_overlapOf 4 = .ok (.istore 5, 2) := by decide +kernel
theorem d_M_overlapOf_6 : decode c_M_overlapOf 6 = .ok (.iload 5, 2) := by decide +kernel
theorem d_M_overlapOf_8 : decode c_M_overlapOf 8 = .ok (.aload_n 0, 1) := by decide +kernel
theorem d_M_overlapOf_9 : decode c_M_overlapOf 9 = .ok (.getfield 7, 3) := by decide +kernel
theorem d_M_overlapOf_12 : decode c_M_overlapOf 12 = .ok (.iload_n 1, 1) := by decide +kernel
theorem d_M_overlapOf_13 : decode c_M_overlapOf 13 = .ok (.iaload, 1) := by decide +kernel
theorem d_M_overlapOf_14 : decode c_M_overlapOf 14 = .ok (.if_icmp .ge 50, 3) := by decide +kernel
theorem d_M_overlapOf_17 : decode c_M_overlapOf 17 = .ok (.iload 5, 2) := by decide +kernel
theorem d_M_overlapOf_19 : decode c_M_overlapOf 19 = .ok (.aload_n 0, 1) := by decide +kernel
theorem d_M_overlapOf_20 : decode c_M_overlapOf 20 = .ok (.getfield 7, 3) := by decide +kernel
theorem d_M_overlapOf_23 : decode c_M_overlapOf 23 = .ok (.iload_n 2, 1) := by decide +kernel
theorem d_M_overlapOf_24 : decode c_M_overlapOf 24 = .ok (.iaload, 1) := by decide +kernel
theorem d_M_overlapOf_25 : decode c_M_overlapOf 25 = .ok (.if_icmp .ge 39, 3) := by decide +kernel
theorem d_M_overlapOf_28 : decode c_M_overlapOf 28 = .ok (.aload_n 0, 1) := by decide +kernel
theorem d_M_overlapOf_29 : decode c_M_overlapOf 29 = .ok (.iload_n 1, 1) := by decide +kernel
theorem d_M_overlapOf_30 : decode c_M_overlapOf 30 = .ok (.aload_n 0, 1) := by decide +kernel
theorem d_M_overlapOf_31 : decode c_M_overlapOf 31 = .ok (.getfield 7, 3) := by decide +kernel
theorem d_M_overlapOf_34 : decode c_M_overlapOf 34 = .ok (.iload_n 1, 1) := by decide +kernel
theorem d_M_overlapOf_35 : decode c_M_overlapOf 35 = .ok (.iaload, 1) := by decide +kernel
theorem d_M_overlapOf_36 : decode c_M_overlapOf 36 = .ok (.iload 5, 2) := by decide +kernel
theorem d_M_overlapOf_38 : decode c_M_overlapOf 38 = .ok (.isub, 1) := by decide +kernel
theorem d_M_overlapOf_39 : decode c_M_overlapOf 39 = .ok (.iload_n 2, 1) := by decide +kernel
theorem d_M_overlapOf_40 : decode c_M_overlapOf 40 = .ok (.iconst 0, 1) := by decide +kernel
theorem d_M_overlapOf_41 : decode c_M_overlapOf 41 = .ok (.iload 5, 2) := by decide +kernel
theorem d_M_overlapOf_43 : decode c_M_overlapOf 43 = .ok (.invokevirtual 69, 3) := by decide +kernel
theorem d_M_overlapOf_46 : decode c_M_overlapOf 46 = .ok (.ifCond .eq 8, 3) := by decide +kernel
theorem d_M_overlapOf_49 : decode c_M_overlapOf 49 = .ok (.iload 5, 2) := by decide +kernel
theorem d_M_overlapOf_51 : decode c_M_overlapOf 51 = .ok (.goto 5, 3) := by decide +kernel
theorem d_M_overlapOf_54 : decode c_M_overlapOf 54 = .ok (.iload 4, 2) := by decide +kernel
theorem d_M_overlapOf_56 : decode c_M_overlapOf 56 = .ok (.istore 4, 2) := by decide +kernel
theorem d_M_overlapOf_58 : decode c_M_overlapOf 58 = .ok (.iinc 5 1, 3) := by decide +kernel
theorem d_M_overlapOf_61 : decode c_M_overlapOf 61 = .ok (.goto (-55), 3) := by decide +kernel
theorem d_M_overlapOf_64 : decode c_M_overlapOf 64 = .ok (.iload 4, 2) := by decide +kernel
theorem d_M_overlapOf_66 : decode c_M_overlapOf 66 = .ok (.ireturn, 1) := by decide +kernel
abbrev c_M_overlap : ByteArray := prog_6_method_14_code
def y_M_overlap : MethodName := ⟨"ReadGraphModel", "overlap", "(III)I"⟩
theorem d_M_overlap_0 : decode c_M_overlap 0 = .ok (.aload_n 0, 1) := by decide +kernel
theorem d_M_overlap_1 : decode c_M_overlap 1 = .ok (.aload_n 0, 1) := by decide +kernel
theorem d_M_overlap_2 : decode c_M_overlap 2 = .ok (.iload_n 1, 1) := by decide +kernel
theorem d_M_overlap_3 : decode c_M_overlap 3 = .ok (.invokevirtual 90, 3) := by decide +kernel
theorem d_M_overlap_6 : decode c_M_overlap 6 = .ok (.ifCond .eq 27, 3) := by decide +kernel
theorem d_M_overlap_9 : decode c_M_overlap 9 = .ok (.aload_n 0, 1) := by decide +kernel
theorem d_M_overlap_10 : decode c_M_overlap 10 = .ok (.iload_n 2, 1) := by decide +kernel
theorem d_M_overlap_11 : decode c_M_overlap 11 = .ok (.invokevirtual 90, 3) := by decide +kernel
theorem d_M_overlap_14 : decode c_M_overlap 14 = .ok (.ifCond .eq 19, 3) := by decide +kernel
theorem d_M_overlap_17 : decode c_M_overlap 17 = .ok (.iload_n 1, 1) := by decide +kernel
theorem d_M_overlap_18 : decode c_M_overlap 18 = .ok (.iload_n 2, 1) := by decide +kernel
theorem d_M_overlap_19 : decode c_M_overlap 19 = .ok (.if_icmp .eq 14, 3) := by decide +kernel
theorem d_M_overlap_22 : decode c_M_overlap 22 = .ok (.iload_n 3, 1) := by decide +kernel
theorem d_M_overlap_23 : decode c_M_overlap 23 = .ok (.iconst 1, 1) := by decide +kernel
theorem d_M_overlap_24 : decode c_M_overlap 24 = .ok (.isub, 1) := by decide +kernel
theorem d_M_overlap_25 : decode c_M_overlap 25 = .ok (.bipush 12, 2) := by decide +kernel
theorem d_M_overlap_27 : decode c_M_overlap 27 = .ok (.invokestatic 73, 3) := by decide +kernel
theorem d_M_overlap_30 : decode c_M_overlap 30 = .ok (.ifCond .eq 7, 3) := by decide +kernel
theorem d_M_overlap_33 : decode c_M_overlap 33 = .ok (.iconst 1, 1) := by decide +kernel
theorem d_M_overlap_34 : decode c_M_overlap 34 = .ok (.goto 4, 3) := by decide +kernel
theorem d_M_overlap_37 : decode c_M_overlap 37 = .ok (.iconst 0, 1) := by decide +kernel
theorem d_M_overlap_38 : decode c_M_overlap 38 = .ok (.iconst 0, 1) := by decide +kernel
theorem d_M_overlap_39 : decode c_M_overlap 39 = .ok (.invokevirtual 80, 3) := by decide +kernel
theorem d_M_overlap_42 : decode c_M_overlap 42 = .ok (.ifCond .eq 5, 3) := by decide +kernel
theorem d_M_overlap_45 : decode c_M_overlap 45 = .ok (.iconst 0, 1) := by decide +kernel
theorem d_M_overlap_46 : decode c_M_overlap 46 = .ok (.ireturn, 1) := by decide +kernel
theorem d_M_overlap_47 : decode c_M_overlap 47 = .ok (.aload_n 0, 1) := by decide +kernel
theorem d_M_overlap_48 : decode c_M_overlap 48 = .ok (.iload_n 1, 1) := by decide +kernel
theorem d_M_overlap_49 : decode c_M_overlap 49 = .ok (.iload_n 2, 1) := by decide +kernel
theorem d_M_overlap_50 : decode c_M_overlap 50 = .ok (.iload_n 3, 1) := by decide +kernel
theorem d_M_overlap_51 : decode c_M_overlap 51 = .ok (.invokevirtual 94, 3) := by decide +kernel
theorem d_M_overlap_54 : decode c_M_overlap 54 = .ok (.ireturn, 1) := by decide +kernel
abbrev c_M_between : ByteArray := prog_6_method_15_code
def y_M_between : MethodName := ⟨"ReadGraphModel", "between", "(II)I"⟩
theorem d_M_between_0 : decode c_M_between 0 = .ok (.iconst 0, 1) := by decide +kernel
theorem d_M_between_1 : decode c_M_between 1 = .ok (.istore_n 3, 1) := by decide +kernel
theorem d_M_between_2 : decode c_M_between 2 = .ok (.iload_n 3, 1) := by decide +kernel
theorem d_M_between_3 : decode c_M_between 3 = .ok (.aload_n 0, 1) := by decide +kernel
theorem d_M_between_4 : decode c_M_between 4 = .ok (.getfield 60, 3) := by decide +kernel
theorem d_M_between_7 : decode c_M_between 7 = .ok (.if_icmp .ge 36, 3) := by decide +kernel
theorem d_M_between_10 : decode c_M_between 10 = .ok (.aload_n 0, 1) := by decide +kernel
theorem d_M_between_11 : decode c_M_between 11 = .ok (.getfield 20, 3) := by decide +kernel
theorem d_M_between_14 : decode c_M_between 14 = .ok (.iload_n 3, 1) := by decide +kernel
theorem d_M_between_15 : decode c_M_between 15 = .ok (.iaload, 1) := by decide +kernel
theorem d_M_between_16 : decode c_M_between 16 = .ok (.iload_n 1, 1) := by decide +kernel
theorem d_M_between_17 : decode c_M_between 17 = .ok (.if_icmp .ne 20, 3) := by decide +kernel
theorem d_M_between_20 : decode c_M_between 20 = .ok (.aload_n 0, 1) := by decide +kernel
theorem d_M_between_21 : decode c_M_between 21 = .ok (.getfield 23, 3) := by decide +kernel
theorem d_M_between_24 : decode c_M_between 24 = .ok (.iload_n 3, 1) := by decide +kernel
theorem d_M_between_25 : decode c_M_between 25 = .ok (.iaload, 1) := by decide +kernel
theorem d_M_between_26 : decode c_M_between 26 = .ok (.iload_n 2, 1) := by decide +kernel
theorem d_M_between_27 : decode c_M_between 27 = .ok (.if_icmp .ne 10, 3) := by decide +kernel
theorem d_M_between_30 : decode c_M_between 30 = .ok (.aload_n 0, 1) := by decide +kernel
theorem d_M_between_31 : decode c_M_between 31 = .ok (.getfield 26, 3) := by decide +kernel
theorem d_M_between_34 : decode c_M_between 34 = .ok (.iload_n 3, 1) := by decide +kernel
theorem d_M_between_35 : decode c_M_between 35 = .ok (.iaload, 1) := by decide +kernel
theorem d_M_between_36 : decode c_M_between 36 = .ok (.ireturn, 1) := by decide +kernel
theorem d_M_between_37 : decode c_M_between 37 = .ok (.iinc 3 1, 3) := by decide +kernel
theorem d_M_between_40 : decode c_M_between 40 = .ok (.goto (-38), 3) := by decide +kernel
theorem d_M_between_43 : decode c_M_between 43 = .ok (.iconst 0, 1) := by decide +kernel
theorem d_M_between_44 : decode c_M_between 44 = .ok (.ireturn, 1) := by decide +kernel
abbrev c_M_isSaid : ByteArray := prog_6_method_16_code
def y_M_isSaid : MethodName := ⟨"ReadGraphModel", "isSaid", "(I)Z"⟩
theorem d_M_isSaid_0 : decode c_M_isSaid 0 = .ok (.aload_n 0, 1) := by decide +kernel
theorem d_M_isSaid_1 : decode c_M_isSaid 1 = .ok (.getfield 20, 3) := by decide +kernel
theorem d_M_isSaid_4 : decode c_M_isSaid 4 = .ok (.iload_n 1, 1) := by decide +kernel
theorem d_M_isSaid_5 : decode c_M_isSaid 5 = .ok (.iaload, 1) := by decide +kernel
theorem d_M_isSaid_6 : decode c_M_isSaid 6 = .ok (.istore_n 2, 1) := by decide +kernel
theorem d_M_isSaid_7 : decode c_M_isSaid 7 = .ok (.aload_n 0, 1) := by decide +kernel
theorem d_M_isSaid_8 : decode c_M_isSaid 8 = .ok (.getfield 23, 3) := by decide +kernel
theorem d_M_isSaid_11 : decode c_M_isSaid 11 = .ok (.iload_n 1, 1) := by decide +kernel
theorem d_M_isSaid_12 : decode c_M_isSaid 12 = .ok (.iaload, 1) := by decide +kernel
theorem d_M_isSaid_13 : decode c_M_isSaid 13 = .ok (.istore_n 3, 1) := by decide +kernel
theorem d_M_isSaid_14 : decode c_M_isSaid 14 = .ok (.iconst 0, 1) := by decide +kernel
theorem d_M_isSaid_15 : decode c_M_isSaid 15 = .ok (.istore 4, 2) := by decide +kernel
theorem d_M_isSaid_17 : decode c_M_isSaid 17 = .ok (.iconst 0, 1) := by decide +kernel
theorem d_M_isSaid_18 : decode c_M_isSaid 18 = .ok (.istore 5, 2) := by decide +kernel
theorem d_M_isSaid_20 : decode c_M_isSaid 20 = .ok (.iload 5, 2) := by decide +kernel
theorem d_M_isSaid_22 : decode c_M_isSaid 22 = .ok (.aload_n 0, 1) := by decide +kernel
theorem d_M_isSaid_23 : decode c_M_isSaid 23 = .ok (.getfield 77, 3) := by decide +kernel
theorem d_M_isSaid_26 : decode c_M_isSaid 26 = .ok (.if_icmp .ge 109, 3) := by decide +kernel
theorem d_M_isSaid_29 : decode c_M_isSaid 29 = .ok (.aload_n 0, 1) := by decide +kernel
theorem d_M_isSaid_30 : decode c_M_isSaid 30 = .ok (.iload_n 2, 1) := by decide +kernel
theorem d_M_isSaid_31 : decode c_M_isSaid 31 = .ok (.iload 5, 2) := by decide +kernel
theorem d_M_isSaid_33 : decode c_M_isSaid 33 = .ok (.invokevirtual 98, 3) := by decide +kernel
theorem d_M_isSaid_36 : decode c_M_isSaid 36 = .ok (.istore 6, 2) := by decide +kernel
theorem d_M_isSaid_38 : decode c_M_isSaid 38 = .ok (.aload_n 0, 1) := by decide +kernel
theorem d_M_isSaid_39 : decode c_M_isSaid 39 = .ok (.iload 5, 2) := by decide +kernel
theorem d_M_isSaid_41 : decode c_M_isSaid 41 = .ok (.iload_n 3, 1) := by decide +kernel
theorem d_M_isSaid_42 : decode c_M_isSaid 42 = .ok (.invokevirtual 98, 3) := by decide +kernel
theorem d_M_isSaid_45 : decode c_M_isSaid 45 = .ok (.istore 7, 2) := by decide +kernel
theorem d_M_isSaid_47 : decode c_M_isSaid 47 = .ok (.iload 5, 2) := by decide +kernel
theorem d_M_isSaid_49 : decode c_M_isSaid 49 = .ok (.iload_n 2, 1) := by decide +kernel
theorem d_M_isSaid_50 : decode c_M_isSaid 50 = .ok (.if_icmp .eq 13, 3) := by decide +kernel
theorem d_M_isSaid_53 : decode c_M_isSaid 53 = .ok (.iload 5, 2) := by decide +kernel
theorem d_M_isSaid_55 : decode c_M_isSaid 55 = .ok (.iload_n 3, 1) := by decide +kernel
theorem d_M_isSaid_56 : decode c_M_isSaid 56 = .ok (.if_icmp .eq 7, 3) := by decide +kernel
theorem d_M_isSaid_59 : decode c_M_isSaid 59 = .ok (.iconst 1, 1) := by decide +kernel
theorem d_M_isSaid_60 : decode c_M_isSaid 60 = .ok (.goto 4, 3) := by decide +kernel
theorem d_M_isSaid_63 : decode c_M_isSaid 63 = .ok (.iconst 0, 1) := by decide +kernel
theorem d_M_isSaid_64 : decode c_M_isSaid 64 = .ok (.istore 8, 2) := by decide +kernel
theorem d_M_isSaid_66 : decode c_M_isSaid 66 = .ok (.iload 4, 2) := by decide +kernel
theorem d_M_isSaid_68 : decode c_M_isSaid 68 = .ok (.ifCond .ne 54, 3) := by decide +kernel
theorem d_M_isSaid_71 : decode c_M_isSaid 71 = .ok (.iload 8, 2) := by decide +kernel
theorem d_M_isSaid_73 : decode c_M_isSaid 73 = .ok (.ifCond .eq 53, 3) := by decide +kernel
theorem d_M_isSaid_76 : decode c_M_isSaid 76 = .ok (.iload 6, 2) := by decide +kernel
theorem d_M_isSaid_78 : decode c_M_isSaid 78 = .ok (.ifCond .le 48, 3) := by decide +kernel
theorem d_M_isSaid_81 : decode c_M_isSaid 81 = .ok (.iload 7, 2) := by decide +kernel
theorem d_M_isSaid_83 : decode c_M_isSaid 83 = .ok (.ifCond .le 43, 3) := by decide +kernel
theorem d_M_isSaid_86 : decode c_M_isSaid 86 = .ok (.aload_n 0, 1) := by decide +kernel
theorem d_M_isSaid_87 : decode c_M_isSaid 87 = .ok (.getfield 7, 3) := by decide +kernel
theorem d_M_isSaid_90 : decode c_M_isSaid 90 = .ok (.iload 5, 2) := by decide +kernel
theorem d_M_isSaid_92 : decode c_M_isSaid 92 = .ok (.iaload, 1) := by decide +kernel
theorem d_M_isSaid_93 : decode c_M_isSaid 93 = .ok (.iload 6, 2) := by decide +kernel
theorem d_M_isSaid_95 : decode c_M_isSaid 95 = .ok (.isub, 1) := by decide +kernel
theorem d_M_isSaid_96 : decode c_M_isSaid 96 = .ok (.aload_n 0, 1) := by decide +kernel
theorem d_M_isSaid_97 : decode c_M_isSaid 97 = .ok (.getfield 7, 3) := by decide +kernel
theorem d_M_isSaid_100 : decode c_M_isSaid 100 = .ok (.iload_n 3, 1) := by decide +kernel
theorem d_M_isSaid_101 : decode c_M_isSaid 101 = .ok (.iaload, 1) := by decide +kernel
theorem d_M_isSaid_102 : decode c_M_isSaid 102 = .ok (.iadd, 1) := by decide +kernel
theorem d_M_isSaid_103 : decode c_M_isSaid 103 = .ok (.iload 7, 2) := by decide +kernel
theorem d_M_isSaid_105 : decode c_M_isSaid 105 = .ok (.isub, 1) := by decide +kernel
theorem d_M_isSaid_106 : decode c_M_isSaid 106 = .ok (.aload_n 0, 1) := by decide +kernel
theorem d_M_isSaid_107 : decode c_M_isSaid 107 = .ok (.getfield 7, 3) := by decide +kernel
theorem d_M_isSaid_110 : decode c_M_isSaid 110 = .ok (.iload_n 3, 1) := by decide +kernel
theorem d_M_isSaid_111 : decode c_M_isSaid 111 = .ok (.iaload, 1) := by decide +kernel
theorem d_M_isSaid_112 : decode c_M_isSaid 112 = .ok (.aload_n 0, 1) := by decide +kernel
theorem d_M_isSaid_113 : decode c_M_isSaid 113 = .ok (.getfield 26, 3) := by decide +kernel
theorem d_M_isSaid_116 : decode c_M_isSaid 116 = .ok (.iload_n 1, 1) := by decide +kernel
theorem d_M_isSaid_117 : decode c_M_isSaid 117 = .ok (.iaload, 1) := by decide +kernel
theorem d_M_isSaid_118 : decode c_M_isSaid 118 = .ok (.isub, 1) := by decide +kernel
theorem d_M_isSaid_119 : decode c_M_isSaid 119 = .ok (.if_icmp .ne 7, 3) := by decide +kernel
theorem d_M_isSaid_122 : decode c_M_isSaid 122 = .ok (.iconst 1, 1) := by decide +kernel
theorem d_M_isSaid_123 : decode c_M_isSaid 123 = .ok (.goto 4, 3) := by decide +kernel
theorem d_M_isSaid_126 : decode c_M_isSaid 126 = .ok (.iconst 0, 1) := by decide +kernel
theorem d_M_isSaid_127 : decode c_M_isSaid 127 = .ok (.istore 4, 2) := by decide +kernel
theorem d_M_isSaid_129 : decode c_M_isSaid 129 = .ok (.iinc 5 1, 3) := by decide +kernel
theorem d_M_isSaid_132 : decode c_M_isSaid 132 = .ok (.goto (-112), 3) := by decide +kernel
theorem d_M_isSaid_135 : decode c_M_isSaid 135 = .ok (.iload 4, 2) := by decide +kernel
theorem d_M_isSaid_137 : decode c_M_isSaid 137 = .ok (.ireturn, 1) := by decide +kernel
abbrev c_M_spread : ByteArray := prog_6_method_17_code
def y_M_spread : MethodName := ⟨"ReadGraphModel", "spread", "()V"⟩
theorem d_M_spread_0 : decode c_M_spread 0 = .ok (.iconst 0, 1) := by decide +kernel
theorem d_M_spread_1 : decode c_M_spread 1 = .ok (.istore_n 1, 1) := by decide +kernel
theorem d_M_spread_2 : decode c_M_spread 2 = .ok (.iload_n 1, 1) := by decide +kernel
theorem d_M_spread_3 : decode c_M_spread 3 = .ok (.aload_n 0, 1) := by decide +kernel
theorem d_M_spread_4 : decode c_M_spread 4 = .ok (.getfield 63, 3) := by decide +kernel
theorem d_M_spread_7 : decode c_M_spread 7 = .ok (.if_icmp .ge 31, 3) := by decide +kernel
theorem d_M_spread_10 : decode c_M_spread 10 = .ok (.aload_n 0, 1) := by decide +kernel
theorem d_M_spread_11 : decode c_M_spread 11 = .ok (.getfield 38, 3) := by decide +kernel
theorem d_M_spread_14 : decode c_M_spread 14 = .ok (.bipush 9, 2) := by decide +kernel
theorem d_M_spread_16 : decode c_M_spread 16 = .ok (.aload_n 0, 1) := by decide +kernel
theorem d_M_spread_17 : decode c_M_spread 17 = .ok (.getfield 29, 3) := by decide +kernel
theorem d_M_spread_20 : decode c_M_spread 20 = .ok (.iload_n 1, 1) := by decide +kernel
theorem d_M_spread_21 : decode c_M_spread 21 = .ok (.iaload, 1) := by decide +kernel
theorem d_M_spread_22 : decode c_M_spread 22 = .ok (.imul, 1) := by decide +kernel
theorem d_M_spread_23 : decode c_M_spread 23 = .ok (.aload_n 0, 1) := by decide +kernel
theorem d_M_spread_24 : decode c_M_spread 24 = .ok (.getfield 32, 3) := by decide +kernel
theorem d_M_spread_27 : decode c_M_spread 27 = .ok (.iload_n 1, 1) := by decide +kernel
theorem d_M_spread_28 : decode c_M_spread 28 = .ok (.iaload, 1) := by decide +kernel
theorem d_M_spread_29 : decode c_M_spread 29 = .ok (.iadd, 1) := by decide +kernel
theorem d_M_spread_30 : decode c_M_spread 30 = .ok (.iconst 1, 1) := by decide +kernel
theorem d_M_spread_31 : decode c_M_spread 31 = .ok (.bastore, 1) := by decide +kernel
theorem d_M_spread_32 : decode c_M_spread 32 = .ok (.iinc 1 1, 3) := by decide +kernel
theorem d_M_spread_35 : decode c_M_spread 35 = .ok (.goto (-33), 3) := by decide +kernel
theorem d_M_spread_38 : decode c_M_spread 38 = .ok (.iconst 1, 1) := by decide +kernel
theorem d_M_spread_39 : decode c_M_spread 39 = .ok (.istore_n 1, 1) := by decide +kernel
theorem d_M_spread_40 : decode c_M_spread 40 = .ok (.iload_n 1, 1) := by decide +kernel
theorem d_M_spread_41 : decode c_M_spread 41 = .ok (.ifCond .eq 98, 3) := by decide +kernel
theorem d_M_spread_44 : decode c_M_spread 44 = .ok (.iconst 0, 1) := by decide +kernel
theorem d_M_spread_45 : decode c_M_spread 45 = .ok (.istore_n 1, 1) := by decide +kernel
theorem d_M_spread_46 : decode c_M_spread 46 = .ok (.iconst 0, 1) := by decide +kernel
theorem d_M_spread_47 : decode c_M_spread 47 = .ok (.istore_n 2, 1) := by decide +kernel
theorem d_M_spread_48 : decode c_M_spread 48 = .ok (.iload_n 2, 1) := by decide +kernel
theorem d_M_spread_49 : decode c_M_spread 49 = .ok (.bipush 9, 2) := by decide +kernel
theorem d_M_spread_51 : decode c_M_spread 51 = .ok (.if_icmp .ge 85, 3) := by decide +kernel
theorem d_M_spread_54 : decode c_M_spread 54 = .ok (.iconst 0, 1) := by decide +kernel
theorem d_M_spread_55 : decode c_M_spread 55 = .ok (.istore_n 3, 1) := by decide +kernel
theorem d_M_spread_56 : decode c_M_spread 56 = .ok (.iload_n 3, 1) := by decide +kernel
theorem d_M_spread_57 : decode c_M_spread 57 = .ok (.aload_n 0, 1) := by decide +kernel
theorem d_M_spread_58 : decode c_M_spread 58 = .ok (.getfield 63, 3) := by decide +kernel
theorem d_M_spread_61 : decode c_M_spread 61 = .ok (.if_icmp .ge 69, 3) := by decide +kernel
theorem d_M_spread_64 : decode c_M_spread 64 = .ok (.aload_n 0, 1) := by decide +kernel
theorem d_M_spread_65 : decode c_M_spread 65 = .ok (.getfield 38, 3) := by decide +kernel
theorem d_M_spread_68 : decode c_M_spread 68 = .ok (.bipush 9, 2) := by decide +kernel
theorem d_M_spread_70 : decode c_M_spread 70 = .ok (.iload_n 2, 1) := by decide +kernel
theorem d_M_spread_71 : decode c_M_spread 71 = .ok (.imul, 1) := by decide +kernel
theorem d_M_spread_72 : decode c_M_spread 72 = .ok (.aload_n 0, 1) := by decide +kernel
theorem d_M_spread_73 : decode c_M_spread 73 = .ok (.getfield 29, 3) := by decide +kernel
theorem d_M_spread_76 : decode c_M_spread 76 = .ok (.iload_n 3, 1) := by decide +kernel
theorem d_M_spread_77 : decode c_M_spread 77 = .ok (.iaload, 1) := by decide +kernel
theorem d_M_spread_78 : decode c_M_spread 78 = .ok (.iadd, 1) := by decide +kernel
theorem d_M_spread_79 : decode c_M_spread 79 = .ok (.baload, 1) := by decide +kernel
theorem d_M_spread_80 : decode c_M_spread 80 = .ok (.ifCond .eq 44, 3) := by decide +kernel
theorem d_M_spread_83 : decode c_M_spread 83 = .ok (.aload_n 0, 1) := by decide +kernel
theorem d_M_spread_84 : decode c_M_spread 84 = .ok (.getfield 38, 3) := by decide +kernel
theorem d_M_spread_87 : decode c_M_spread 87 = .ok (.bipush 9, 2) := by decide +kernel
theorem d_M_spread_89 : decode c_M_spread 89 = .ok (.iload_n 2, 1) := by decide +kernel
theorem d_M_spread_90 : decode c_M_spread 90 = .ok (.imul, 1) := by decide +kernel
theorem d_M_spread_91 : decode c_M_spread 91 = .ok (.aload_n 0, 1) := by decide +kernel
theorem d_M_spread_92 : decode c_M_spread 92 = .ok (.getfield 32, 3) := by decide +kernel
theorem d_M_spread_95 : decode c_M_spread 95 = .ok (.iload_n 3, 1) := by decide +kernel
theorem d_M_spread_96 : decode c_M_spread 96 = .ok (.iaload, 1) := by decide +kernel
theorem d_M_spread_97 : decode c_M_spread 97 = .ok (.iadd, 1) := by decide +kernel
theorem d_M_spread_98 : decode c_M_spread 98 = .ok (.baload, 1) := by decide +kernel
theorem d_M_spread_99 : decode c_M_spread 99 = .ok (.ifCond .eq 6, 3) := by decide +kernel
theorem d_M_spread_102 : decode c_M_spread 102 = .ok (.goto 22, 3) := by decide +kernel
theorem d_M_spread_105 : decode c_M_spread 105 = .ok (.aload_n 0, 1) := by decide +kernel
theorem d_M_spread_106 : decode c_M_spread 106 = .ok (.getfield 38, 3) := by decide +kernel
theorem d_M_spread_109 : decode c_M_spread 109 = .ok (.bipush 9, 2) := by decide +kernel
theorem d_M_spread_111 : decode c_M_spread 111 = .ok (.iload_n 2, 1) := by decide +kernel
theorem d_M_spread_112 : decode c_M_spread 112 = .ok (.imul, 1) := by decide +kernel
theorem d_M_spread_113 : decode c_M_spread 113 = .ok (.aload_n 0, 1) := by decide +kernel
theorem d_M_spread_114 : decode c_M_spread 114 = .ok (.getfield 32, 3) := by decide +kernel
theorem d_M_spread_117 : decode c_M_spread 117 = .ok (.iload_n 3, 1) := by decide +kernel
theorem d_M_spread_118 : decode c_M_spread 118 = .ok (.iaload, 1) := by decide +kernel
theorem d_M_spread_119 : decode c_M_spread 119 = .ok (.iadd, 1) := by decide +kernel
theorem d_M_spread_120 : decode c_M_spread 120 = .ok (.iconst 1, 1) := by decide +kernel
theorem d_M_spread_121 : decode c_M_spread 121 = .ok (.bastore, 1) := by decide +kernel
theorem d_M_spread_122 : decode c_M_spread 122 = .ok (.iconst 1, 1) := by decide +kernel
theorem d_M_spread_123 : decode c_M_spread 123 = .ok (.istore_n 1, 1) := by decide +kernel
theorem d_M_spread_124 : decode c_M_spread 124 = .ok (.iinc 3 1, 3) := by decide +kernel
theorem d_M_spread_127 : decode c_M_spread 127 = .ok (.goto (-71), 3) := by decide +kernel
theorem d_M_spread_130 : decode c_M_spread 130 = .ok (.iinc 2 1, 3) := by decide +kernel
theorem d_M_spread_133 : decode c_M_spread 133 = .ok (.goto (-85), 3) := by decide +kernel
theorem d_M_spread_136 : decode c_M_spread 136 = .ok (.goto (-96), 3) := by decide +kernel
theorem d_M_spread_139 : decode c_M_spread 139 = .ok (.return_, 1) := by decide +kernel
abbrev c_M_build : ByteArray := prog_6_method_18_code
def y_M_build : MethodName := ⟨"ReadGraphModel", "build", "(I)I"⟩
theorem d_M_build_0 : decode c_M_build 0 = .ok (.aload_n 0, 1) := by decide +kernel
theorem d_M_build_1 : decode c_M_build 1 = .ok (.iload_n 1, 1) := by decide +kernel
theorem d_M_build_2 : decode c_M_build 2 = .ok (.iconst 1, 1) := by decide +kernel
theorem d_M_build_3 : decode c_M_build 3 = .ok (.isub, 1) := by decide +kernel
theorem d_M_build_4 : decode c_M_build 4 = .ok (.bipush 12, 2) := by decide +kernel
theorem d_M_build_6 : decode c_M_build 6 = .ok (.invokestatic 73, 3) := by decide +kernel
theorem d_M_build_9 : decode c_M_build 9 = .ok (.iconst 0, 1) := by decide +kernel
theorem d_M_build_10 : decode c_M_build 10 = .ok (.invokevirtual 80, 3) := by decide +kernel
theorem d_M_build_13 : decode c_M_build 13 = .ok (.ifCond .eq 5, 3) := by decide +kernel
theorem d_M_build_16 : decode c_M_build 16 = .ok (.iconst 0, 1) := by decide +kernel
theorem d_M_build_17 : decode c_M_build 17 = .ok (.ireturn, 1) := by decide +kernel
theorem d_M_build_18 : decode c_M_build 18 = .ok (.aload_n 0, 1) := by decide +kernel
theorem d_M_build_19 : decode c_M_build 19 = .ok (.invokevirtual 84, 3) := by decide +kernel
theorem d_M_build_22 : decode c_M_build 22 = .ok (.iconst 0, 1) := by decide +kernel
theorem d_M_build_23 : decode c_M_build 23 = .ok (.istore_n 2, 1) := by decide +kernel
theorem d_M_build_24 : decode c_M_build 24 = .ok (.iload_n 2, 1) := by decide +kernel
theorem d_M_build_25 : decode c_M_build 25 = .ok (.aload_n 0, 1) := by decide +kernel
theorem d_M_build_26 : decode c_M_build 26 = .ok (.getfield 77, 3) := by decide +kernel
theorem d_M_build_29 : decode c_M_build 29 = .ok (.if_icmp .ge 108, 3) := by decide +kernel
theorem d_M_build_32 : decode c_M_build 32 = .ok (.iconst 0, 1) := by decide +kernel
theorem d_M_build_33 : decode c_M_build 33 = .ok (.istore_n 3, 1) := by decide +kernel
theorem d_M_build_34 : decode c_M_build 34 = .ok (.iload_n 3, 1) := by decide +kernel
theorem d_M_build_35 : decode c_M_build 35 = .ok (.aload_n 0, 1) := by decide +kernel
theorem d_M_build_36 : decode c_M_build 36 = .ok (.getfield 77, 3) := by decide +kernel
theorem d_M_build_39 : decode c_M_build 39 = .ok (.if_icmp .ge 92, 3) := by decide +kernel
theorem d_M_build_42 : decode c_M_build 42 = .ok (.iload_n 2, 1) := by decide +kernel
theorem d_M_build_43 : decode c_M_build 43 = .ok (.iload_n 3, 1) := by decide +kernel
theorem d_M_build_44 : decode c_M_build 44 = .ok (.if_icmp .eq 29, 3) := by decide +kernel
theorem d_M_build_47 : decode c_M_build 47 = .ok (.aload_n 0, 1) := by decide +kernel
theorem d_M_build_48 : decode c_M_build 48 = .ok (.iload_n 2, 1) := by decide +kernel
theorem d_M_build_49 : decode c_M_build 49 = .ok (.invokevirtual 90, 3) := by decide +kernel
theorem d_M_build_52 : decode c_M_build 52 = .ok (.ifCond .eq 21, 3) := by decide +kernel
theorem d_M_build_55 : decode c_M_build 55 = .ok (.aload_n 0, 1) := by decide +kernel
theorem d_M_build_56 : decode c_M_build 56 = .ok (.iload_n 3, 1) := by decide +kernel
theorem d_M_build_57 : decode c_M_build 57 = .ok (.invokevirtual 90, 3) := by decide +kernel
theorem d_M_build_60 : decode c_M_build 60 = .ok (.ifCond .eq 13, 3) := by decide +kernel
theorem d_M_build_63 : decode c_M_build 63 = .ok (.aload_n 0, 1) := by decide +kernel
theorem d_M_build_64 : decode c_M_build 64 = .ok (.iload_n 2, 1) := by decide +kernel
theorem d_M_build_65 : decode c_M_build 65 = .ok (.iload_n 3, 1) := by decide +kernel
theorem d_M_build_66 : decode c_M_build 66 = .ok (.iload_n 1, 1) := by decide +kernel
theorem d_M_build_67 : decode c_M_build 67 = .ok (.invokevirtual 94, 3) := by decide +kernel
theorem d_M_build_70 : decode c_M_build 70 = .ok (.goto 4, 3) := by decide +kernel
theorem d_M_build_73 : decode c_M_build 73 = .ok (.iconst 0, 1) := by decide +kernel
theorem d_M_build_74 : decode c_M_build 74 = .ok (.istore 4, 2) := by decide +kernel
theorem d_M_build_76 : decode c_M_build 76 = .ok (.iload 4, 2) := by decide +kernel
theorem d_M_build_78 : decode c_M_build 78 = .ok (.ifCond .ne 6, 3) := by decide +kernel
theorem d_M_build_81 : decode c_M_build 81 = .ok (.goto 44, 3) := by decide +kernel
theorem d_M_build_84 : decode c_M_build 84 = .ok (.aload_n 0, 1) := by decide +kernel
theorem d_M_build_85 : decode c_M_build 85 = .ok (.getfield 20, 3) := by decide +kernel
theorem d_M_build_88 : decode c_M_build 88 = .ok (.aload_n 0, 1) := by decide +kernel
theorem d_M_build_89 : decode c_M_build 89 = .ok (.getfield 60, 3) := by decide +kernel
theorem d_M_build_92 : decode c_M_build 92 = .ok (.iload_n 2, 1) := by decide +kernel
theorem d_M_build_93 : decode c_M_build 93 = .ok (.iastore, 1) := by decide +kernel
theorem d_M_build_94 : decode c_M_build 94 = .ok (.aload_n 0, 1) := by decide +kernel
theorem d_M_build_95 : decode c_M_build 95 = .ok (.getfield 23, 3) := by decide +kernel
theorem d_M_build_98 : decode c_M_build 98 = .ok (.aload_n 0, 1) := by decide +kernel
theorem d_M_build_99 : decode c_M_build 99 = .ok (.getfield 60, 3) := by decide +kernel
theorem d_M_build_102 : decode c_M_build 102 = .ok (.iload_n 3, 1) := by decide +kernel
theorem d_M_build_103 : decode c_M_build 103 = .ok (.iastore, 1) := by decide +kernel
theorem d_M_build_104 : decode c_M_build 104 = .ok (.aload_n 0, 1) := by decide +kernel
theorem d_M_build_105 : decode c_M_build 105 = .ok (.getfield 26, 3) := by decide +kernel
theorem d_M_build_108 : decode c_M_build 108 = .ok (.aload_n 0, 1) := by decide +kernel
theorem d_M_build_109 : decode c_M_build 109 = .ok (.getfield 60, 3) := by decide +kernel
theorem d_M_build_112 : decode c_M_build 112 = .ok (.iload 4, 2) := by decide +kernel
theorem d_M_build_114 : decode c_M_build 114 = .ok (.iastore, 1) := by decide +kernel
theorem d_M_build_115 : decode c_M_build 115 = .ok (.aload_n 0, 1) := by decide +kernel
theorem d_M_build_116 : decode c_M_build 116 = .ok (.dup, 1) := by decide +kernel
theorem d_M_build_117 : decode c_M_build 117 = .ok (.getfield 60, 3) := by decide +kernel
theorem d_M_build_120 : decode c_M_build 120 = .ok (.iconst 1, 1) := by decide +kernel
theorem d_M_build_121 : decode c_M_build 121 = .ok (.iadd, 1) := by decide +kernel
theorem d_M_build_122 : decode c_M_build 122 = .ok (.putfield 60, 3) := by decide +kernel
theorem d_M_build_125 : decode c_M_build 125 = .ok (.iinc 3 1, 3) := by decide +kernel
theorem d_M_build_128 : decode c_M_build 128 = .ok (.goto (-94), 3) := by decide +kernel
theorem d_M_build_131 : decode c_M_build 131 = .ok (.iinc 2 1, 3) := by decide +kernel
theorem d_M_build_134 : decode c_M_build 134 = .ok (.goto (-110), 3) := by decide +kernel
theorem d_M_build_137 : decode c_M_build 137 = .ok (.iconst 0, 1) := by decide +kernel
theorem d_M_build_138 : decode c_M_build 138 = .ok (.istore_n 2, 1) := by decide +kernel
theorem d_M_build_139 : decode c_M_build 139 = .ok (.iload_n 2, 1) := by decide +kernel
theorem d_M_build_140 : decode c_M_build 140 = .ok (.aload_n 0, 1) := by decide +kernel
theorem d_M_build_141 : decode c_M_build 141 = .ok (.getfield 60, 3) := by decide +kernel
theorem d_M_build_144 : decode c_M_build 144 = .ok (.if_icmp .ge 75, 3) := by decide +kernel
theorem d_M_build_147 : decode c_M_build 147 = .ok (.aload_n 0, 1) := by decide +kernel
theorem d_M_build_148 : decode c_M_build 148 = .ok (.iload_n 2, 1) := by decide +kernel
theorem d_M_build_149 : decode c_M_build 149 = .ok (.invokevirtual 102, 3) := by decide +kernel
theorem d_M_build_152 : decode c_M_build 152 = .ok (.ifCond .eq 6, 3) := by decide +kernel
theorem d_M_build_155 : decode c_M_build 155 = .ok (.goto 58, 3) := by decide +kernel
theorem d_M_build_158 : decode c_M_build 158 = .ok (.aload_n 0, 1) := by decide +kernel
theorem d_M_build_159 : decode c_M_build 159 = .ok (.getfield 29, 3) := by decide +kernel
theorem d_M_build_162 : decode c_M_build 162 = .ok (.aload_n 0, 1) := by decide +kernel
theorem d_M_build_163 : decode c_M_build 163 = .ok (.getfield 63, 3) := by decide +kernel
theorem d_M_build_166 : decode c_M_build 166 = .ok (.aload_n 0, 1) := by decide +kernel
theorem d_M_build_167 : decode c_M_build 167 = .ok (.getfield 20, 3) := by decide +kernel
theorem d_M_build_170 : decode c_M_build 170 = .ok (.iload_n 2, 1) := by decide +kernel
theorem d_M_build_171 : decode c_M_build 171 = .ok (.iaload, 1) := by decide +kernel
theorem d_M_build_172 : decode c_M_build 172 = .ok (.iastore, 1) := by decide +kernel
theorem d_M_build_173 : decode c_M_build 173 = .ok (.aload_n 0, 1) := by decide +kernel
theorem d_M_build_174 : decode c_M_build 174 = .ok (.getfield 32, 3) := by decide +kernel
theorem d_M_build_177 : decode c_M_build 177 = .ok (.aload_n 0, 1) := by decide +kernel
theorem d_M_build_178 : decode c_M_build 178 = .ok (.getfield 63, 3) := by decide +kernel
theorem d_M_build_181 : decode c_M_build 181 = .ok (.aload_n 0, 1) := by decide +kernel
theorem d_M_build_182 : decode c_M_build 182 = .ok (.getfield 23, 3) := by decide +kernel
theorem d_M_build_185 : decode c_M_build 185 = .ok (.iload_n 2, 1) := by decide +kernel
theorem d_M_build_186 : decode c_M_build 186 = .ok (.iaload, 1) := by decide +kernel
theorem d_M_build_187 : decode c_M_build 187 = .ok (.iastore, 1) := by decide +kernel
theorem d_M_build_188 : decode c_M_build 188 = .ok (.aload_n 0, 1) := by decide +kernel
theorem d_M_build_189 : decode c_M_build 189 = .ok (.getfield 35, 3) := by decide +kernel
theorem d_M_build_192 : decode c_M_build 192 = .ok (.aload_n 0, 1) := by decide +kernel
theorem d_M_build_193 : decode c_M_build 193 = .ok (.getfield 63, 3) := by decide +kernel
theorem d_M_build_196 : decode c_M_build 196 = .ok (.aload_n 0, 1) := by decide +kernel
theorem d_M_build_197 : decode c_M_build 197 = .ok (.getfield 26, 3) := by decide +kernel
theorem d_M_build_200 : decode c_M_build 200 = .ok (.iload_n 2, 1) := by decide +kernel
theorem d_M_build_201 : decode c_M_build 201 = .ok (.iaload, 1) := by decide +kernel
theorem d_M_build_202 : decode c_M_build 202 = .ok (.iastore, 1) := by decide +kernel
theorem d_M_build_203 : decode c_M_build 203 = .ok (.aload_n 0, 1) := by decide +kernel
theorem d_M_build_204 : decode c_M_build 204 = .ok (.dup, 1) := by decide +kernel
theorem d_M_build_205 : decode c_M_build 205 = .ok (.getfield 63, 3) := by decide +kernel
theorem d_M_build_208 : decode c_M_build 208 = .ok (.iconst 1, 1) := by decide +kernel
theorem d_M_build_209 : decode c_M_build 209 = .ok (.iadd, 1) := by decide +kernel
theorem d_M_build_210 : decode c_M_build 210 = .ok (.putfield 63, 3) := by decide +kernel
theorem d_M_build_213 : decode c_M_build 213 = .ok (.iinc 2 1, 3) := by decide +kernel
theorem d_M_build_216 : decode c_M_build 216 = .ok (.goto (-77), 3) := by decide +kernel
theorem d_M_build_219 : decode c_M_build 219 = .ok (.aload_n 0, 1) := by decide +kernel
theorem d_M_build_220 : decode c_M_build 220 = .ok (.invokevirtual 105, 3) := by decide +kernel
theorem d_M_build_223 : decode c_M_build 223 = .ok (.aload_n 0, 1) := by decide +kernel
theorem d_M_build_224 : decode c_M_build 224 = .ok (.getfield 63, 3) := by decide +kernel
theorem d_M_build_227 : decode c_M_build 227 = .ok (.ireturn, 1) := by decide +kernel
abbrev c_M_all : ByteArray := prog_6_method_19_code
def y_M_all : MethodName := ⟨"ReadGraphModel", "all", "()I"⟩
theorem d_M_all_0 : decode c_M_all 0 = .ok (.aload_n 0, 1) := by decide +kernel
theorem d_M_all_1 : decode c_M_all 1 = .ok (.iconst 0, 1) := by decide +kernel
theorem d_M_all_2 : decode c_M_all 2 = .ok (.putfield 56, 3) := by decide +kernel
theorem d_M_all_5 : decode c_M_all 5 = .ok (.aload_n 0, 1) := by decide +kernel
theorem d_M_all_6 : decode c_M_all 6 = .ok (.getfield 60, 3) := by decide +kernel
theorem d_M_all_9 : decode c_M_all 9 = .ok (.ireturn, 1) := by decide +kernel
abbrev c_M_edge : ByteArray := prog_6_method_20_code
def y_M_edge : MethodName := ⟨"ReadGraphModel", "edge", "(II)I"⟩
theorem d_M_edge_0 : decode c_M_edge 0 = .ok (.iload_n 2, 1) := by decide +kernel
theorem d_M_edge_1 : decode c_M_edge 1 = .ok (.iconst 4, 1) := by decide +kernel
theorem d_M_edge_2 : decode c_M_edge 2 = .ok (.invokestatic 73, 3) := by decide +kernel
theorem d_M_edge_5 : decode c_M_edge 5 = .ok (.istore_n 3, 1) := by decide +kernel
theorem d_M_edge_6 : decode c_M_edge 6 = .ok (.aload_n 0, 1) := by decide +kernel
theorem d_M_edge_7 : decode c_M_edge 7 = .ok (.iload_n 3, 1) := by decide +kernel
theorem d_M_edge_8 : decode c_M_edge 8 = .ok (.iload_n 3, 1) := by decide +kernel
theorem d_M_edge_9 : decode c_M_edge 9 = .ok (.ifCond .ne 18, 3) := by decide +kernel
theorem d_M_edge_12 : decode c_M_edge 12 = .ok (.iload_n 1, 1) := by decide +kernel
theorem d_M_edge_13 : decode c_M_edge 13 = .ok (.aload_n 0, 1) := by decide +kernel
theorem d_M_edge_14 : decode c_M_edge 14 = .ok (.getfield 63, 3) := by decide +kernel
theorem d_M_edge_17 : decode c_M_edge 17 = .ok (.invokestatic 73, 3) := by decide +kernel
theorem d_M_edge_20 : decode c_M_edge 20 = .ok (.ifCond .eq 7, 3) := by decide +kernel
theorem d_M_edge_23 : decode c_M_edge 23 = .ok (.iconst 1, 1) := by decide +kernel
theorem d_M_edge_24 : decode c_M_edge 24 = .ok (.goto 4, 3) := by decide +kernel
theorem d_M_edge_27 : decode c_M_edge 27 = .ok (.iconst 0, 1) := by decide +kernel
theorem d_M_edge_28 : decode c_M_edge 28 = .ok (.invokevirtual 80, 3) := by decide +kernel
theorem d_M_edge_31 : decode c_M_edge 31 = .ok (.ifCond .eq 5, 3) := by decide +kernel
theorem d_M_edge_34 : decode c_M_edge 34 = .ok (.iconst 0, 1) := by decide +kernel
theorem d_M_edge_35 : decode c_M_edge 35 = .ok (.ireturn, 1) := by decide +kernel
theorem d_M_edge_36 : decode c_M_edge 36 = .ok (.iload_n 2, 1) := by decide +kernel
theorem d_M_edge_37 : decode c_M_edge 37 = .ok (.ifCond .ne 12, 3) := by decide +kernel
theorem d_M_edge_40 : decode c_M_edge 40 = .ok (.aload_n 0, 1) := by decide +kernel
theorem d_M_edge_41 : decode c_M_edge 41 = .ok (.getfield 29, 3) := by decide +kernel
theorem d_M_edge_44 : decode c_M_edge 44 = .ok (.iload_n 1, 1) := by decide +kernel
theorem d_M_edge_45 : decode c_M_edge 45 = .ok (.iaload, 1) := by decide +kernel
theorem d_M_edge_46 : decode c_M_edge 46 = .ok (.goto 49, 3) := by decide +kernel
theorem d_M_edge_49 : decode c_M_edge 49 = .ok (.iload_n 2, 1) := by decide +kernel
theorem d_M_edge_50 : decode c_M_edge 50 = .ok (.iconst 1, 1) := by decide +kernel
theorem d_M_edge_51 : decode c_M_edge 51 = .ok (.if_icmp .ne 12, 3) := by decide +kernel
theorem d_M_edge_54 : decode c_M_edge 54 = .ok (.aload_n 0, 1) := by decide +kernel
theorem d_M_edge_55 : decode c_M_edge 55 = .ok (.getfield 32, 3) := by decide +kernel
theorem d_M_edge_58 : decode c_M_edge 58 = .ok (.iload_n 1, 1) := by decide +kernel
theorem d_M_edge_59 : decode c_M_edge 59 = .ok (.iaload, 1) := by decide +kernel
theorem d_M_edge_60 : decode c_M_edge 60 = .ok (.goto 35, 3) := by decide +kernel
theorem d_M_edge_63 : decode c_M_edge 63 = .ok (.iload_n 2, 1) := by decide +kernel
theorem d_M_edge_64 : decode c_M_edge 64 = .ok (.iconst 2, 1) := by decide +kernel
theorem d_M_edge_65 : decode c_M_edge 65 = .ok (.if_icmp .ne 12, 3) := by decide +kernel
theorem d_M_edge_68 : decode c_M_edge 68 = .ok (.aload_n 0, 1) := by decide +kernel
theorem d_M_edge_69 : decode c_M_edge 69 = .ok (.getfield 35, 3) := by decide +kernel
theorem d_M_edge_72 : decode c_M_edge 72 = .ok (.iload_n 1, 1) := by decide +kernel
theorem d_M_edge_73 : decode c_M_edge 73 = .ok (.iaload, 1) := by decide +kernel
theorem d_M_edge_74 : decode c_M_edge 74 = .ok (.goto 21, 3) := by decide +kernel
theorem d_M_edge_77 : decode c_M_edge 77 = .ok (.aload_n 0, 1) := by decide +kernel
theorem d_M_edge_78 : decode c_M_edge 78 = .ok (.getfield 7, 3) := by decide +kernel
theorem d_M_edge_81 : decode c_M_edge 81 = .ok (.aload_n 0, 1) := by decide +kernel
theorem d_M_edge_82 : decode c_M_edge 82 = .ok (.getfield 32, 3) := by decide +kernel
theorem d_M_edge_85 : decode c_M_edge 85 = .ok (.iload_n 1, 1) := by decide +kernel
theorem d_M_edge_86 : decode c_M_edge 86 = .ok (.iaload, 1) := by decide +kernel
theorem d_M_edge_87 : decode c_M_edge 87 = .ok (.iaload, 1) := by decide +kernel
theorem d_M_edge_88 : decode c_M_edge 88 = .ok (.aload_n 0, 1) := by decide +kernel
theorem d_M_edge_89 : decode c_M_edge 89 = .ok (.getfield 35, 3) := by decide +kernel
theorem d_M_edge_92 : decode c_M_edge 92 = .ok (.iload_n 1, 1) := by decide +kernel
theorem d_M_edge_93 : decode c_M_edge 93 = .ok (.iaload, 1) := by decide +kernel
theorem d_M_edge_94 : decode c_M_edge 94 = .ok (.isub, 1) := by decide +kernel
theorem d_M_edge_95 : decode c_M_edge 95 = .ok (.ireturn, 1) := by decide +kernel
abbrev c_M_way : ByteArray := prog_6_method_21_code
def y_M_way : MethodName := ⟨"ReadGraphModel", "way", "(II)Z"⟩
theorem d_M_way_0 : decode c_M_way 0 = .ok (.aload_n 0, 1) := by decide +kernel
theorem d_M_way_1 : decode c_M_way 1 = .ok (.aload_n 0, 1) := by decide +kernel
theorem d_M_way_2 : decode c_M_way 2 = .ok (.iload_n 1, 1) := by decide +kernel
theorem d_M_way_3 : decode c_M_way 3 = .ok (.invokevirtual 90, 3) := by decide +kernel
theorem d_M_way_6 : decode c_M_way 6 = .ok (.ifCond .eq 11, 3) := by decide +kernel
theorem d_M_way_9 : decode c_M_way 9 = .ok (.aload_n 0, 1) := by decide +kernel
theorem d_M_way_10 : decode c_M_way 10 = .ok (.iload_n 2, 1) := by decide +kernel
theorem d_M_way_11 : decode c_M_way 11 = .ok (.invokevirtual 90, 3) := by decide +kernel
theorem d_M_way_14 : decode c_M_way 14 = .ok (.ifCond .ne 7, 3) := by decide +kernel
theorem d_M_way_17 : decode c_M_way 17 = .ok (.iconst 1, 1) := by decide +kernel
theorem d_M_way_18 : decode c_M_way 18 = .ok (.goto 4, 3) := by decide +kernel
theorem d_M_way_21 : decode c_M_way 21 = .ok (.iconst 0, 1) := by decide +kernel
theorem d_M_way_22 : decode c_M_way 22 = .ok (.iconst 0, 1) := by decide +kernel
theorem d_M_way_23 : decode c_M_way 23 = .ok (.invokevirtual 80, 3) := by decide +kernel
theorem d_M_way_26 : decode c_M_way 26 = .ok (.ifCond .ne 21, 3) := by decide +kernel
theorem d_M_way_29 : decode c_M_way 29 = .ok (.aload_n 0, 1) := by decide +kernel
theorem d_M_way_30 : decode c_M_way 30 = .ok (.getfield 38, 3) := by decide +kernel
theorem d_M_way_33 : decode c_M_way 33 = .ok (.bipush 9, 2) := by decide +kernel
theorem d_M_way_35 : decode c_M_way 35 = .ok (.iload_n 1, 1) := by decide +kernel
theorem d_M_way_36 : decode c_M_way 36 = .ok (.imul, 1) := by decide +kernel
theorem d_M_way_37 : decode c_M_way 37 = .ok (.iload_n 2, 1) := by decide +kernel
theorem d_M_way_38 : decode c_M_way 38 = .ok (.iadd, 1) := by decide +kernel
theorem d_M_way_39 : decode c_M_way 39 = .ok (.baload, 1) := by decide +kernel
theorem d_M_way_40 : decode c_M_way 40 = .ok (.ifCond .eq 7, 3) := by decide +kernel
theorem d_M_way_43 : decode c_M_way 43 = .ok (.iconst 1, 1) := by decide +kernel
theorem d_M_way_44 : decode c_M_way 44 = .ok (.goto 4, 3) := by decide +kernel
theorem d_M_way_47 : decode c_M_way 47 = .ok (.iconst 0, 1) := by decide +kernel
theorem d_M_way_48 : decode c_M_way 48 = .ok (.ireturn, 1) := by decide +kernel
abbrev c_M_kind : ByteArray := prog_6_method_22_code
def y_M_kind : MethodName := ⟨"ReadGraphModel", "kind", "()I"⟩
theorem d_M_kind_0 : decode c_M_kind 0 = .ok (.aload_n 0, 1) := by decide +kernel
theorem d_M_kind_1 : decode c_M_kind 1 = .ok (.iconst 0, 1) := by decide +kernel
theorem d_M_kind_2 : decode c_M_kind 2 = .ok (.putfield 56, 3) := by decide +kernel
theorem d_M_kind_5 : decode c_M_kind 5 = .ok (.iconst 0, 1) := by decide +kernel
theorem d_M_kind_6 : decode c_M_kind 6 = .ok (.istore_n 1, 1) := by decide +kernel
theorem d_M_kind_7 : decode c_M_kind 7 = .ok (.aload_n 0, 1) := by decide +kernel
theorem d_M_kind_8 : decode c_M_kind 8 = .ok (.getfield 63, 3) := by decide +kernel
theorem d_M_kind_11 : decode c_M_kind 11 = .ok (.ifCond .le 7, 3) := by decide +kernel
theorem d_M_kind_14 : decode c_M_kind 14 = .ok (.iconst 1, 1) := by decide +kernel
theorem d_M_kind_15 : decode c_M_kind 15 = .ok (.goto 4, 3) := by decide +kernel
theorem d_M_kind_18 : decode c_M_kind 18 = .ok (.iconst 0, 1) := by decide +kernel
theorem d_M_kind_19 : decode c_M_kind 19 = .ok (.istore_n 2, 1) := by decide +kernel
theorem d_M_kind_20 : decode c_M_kind 20 = .ok (.iconst 0, 1) := by decide +kernel
theorem d_M_kind_21 : decode c_M_kind 21 = .ok (.istore_n 3, 1) := by decide +kernel
theorem d_M_kind_22 : decode c_M_kind 22 = .ok (.iload_n 3, 1) := by decide +kernel
theorem d_M_kind_23 : decode c_M_kind 23 = .ok (.aload_n 0, 1) := by decide +kernel
theorem d_M_kind_24 : decode c_M_kind 24 = .ok (.getfield 77, 3) := by decide +kernel
theorem d_M_kind_27 : decode c_M_kind 27 = .ok (.if_icmp .ge 77, 3) := by decide +kernel
theorem d_M_kind_30 : decode c_M_kind 30 = .ok (.aload_n 0, 1) := by decide +kernel
theorem d_M_kind_31 : decode c_M_kind 31 = .ok (.getfield 16, 3) := by decide +kernel
theorem d_M_kind_34 : decode c_M_kind 34 = .ok (.iload_n 3, 1) := by decide +kernel
theorem d_M_kind_35 : decode c_M_kind 35 = .ok (.baload, 1) := by decide +kernel
theorem d_M_kind_36 : decode c_M_kind 36 = .ok (.ifCond .eq 6, 3) := by decide +kernel
theorem d_M_kind_39 : decode c_M_kind 39 = .ok (.goto 59, 3) := by decide +kernel
theorem d_M_kind_42 : decode c_M_kind 42 = .ok (.iinc 1 1, 3) := by decide +kernel
theorem d_M_kind_45 : decode c_M_kind 45 = .ok (.iconst 0, 1) := by decide +kernel
theorem d_M_kind_46 : decode c_M_kind 46 = .ok (.istore 4, 2) := by decide +kernel
theorem d_M_kind_48 : decode c_M_kind 48 = .ok (.iload 4, 2) := by decide +kernel
theorem d_M_kind_50 : decode c_M_kind 50 = .ok (.aload_n 0, 1) := by decide +kernel
theorem d_M_kind_51 : decode c_M_kind 51 = .ok (.getfield 77, 3) := by decide +kernel
theorem d_M_kind_54 : decode c_M_kind 54 = .ok (.if_icmp .ge 44, 3) := by decide +kernel
theorem d_M_kind_57 : decode c_M_kind 57 = .ok (.iload_n 2, 1) := by decide +kernel
theorem d_M_kind_58 : decode c_M_kind 58 = .ok (.ifCond .eq 32, 3) := by decide +kernel
theorem d_M_kind_61 : decode c_M_kind 61 = .ok (.aload_n 0, 1) := by decide +kernel
theorem d_M_kind_62 : decode c_M_kind 62 = .ok (.getfield 16, 3) := by decide +kernel
theorem d_M_kind_65 : decode c_M_kind 65 = .ok (.iload 4, 2) := by decide +kernel
theorem d_M_kind_67 : decode c_M_kind 67 = .ok (.baload, 1) := by decide +kernel
theorem d_M_kind_68 : decode c_M_kind 68 = .ok (.ifCond .ne 18, 3) := by decide +kernel
theorem d_M_kind_71 : decode c_M_kind 71 = .ok (.aload_n 0, 1) := by decide +kernel
theorem d_M_kind_72 : decode c_M_kind 72 = .ok (.getfield 38, 3) := by decide +kernel
theorem d_M_kind_75 : decode c_M_kind 75 = .ok (.bipush 9, 2) := by decide +kernel
theorem d_M_kind_77 : decode c_M_kind 77 = .ok (.iload_n 3, 1) := by decide +kernel
theorem d_M_kind_78 : decode c_M_kind 78 = .ok (.imul, 1) := by decide +kernel
theorem d_M_kind_79 : decode c_M_kind 79 = .ok (.iload 4, 2) := by decide +kernel
theorem d_M_kind_81 : decode c_M_kind 81 = .ok (.iadd, 1) := by decide +kernel
theorem d_M_kind_82 : decode c_M_kind 82 = .ok (.baload, 1) := by decide +kernel
theorem d_M_kind_83 : decode c_M_kind 83 = .ok (.ifCond .eq 7, 3) := by decide +kernel
theorem d_M_kind_86 : decode c_M_kind 86 = .ok (.iconst 1, 1) := by decide +kernel
theorem d_M_kind_87 : decode c_M_kind 87 = .ok (.goto 4, 3) := by decide +kernel
theorem d_M_kind_90 : decode c_M_kind 90 = .ok (.iconst 0, 1) := by decide +kernel
theorem d_M_kind_91 : decode c_M_kind 91 = .ok (.istore_n 2, 1) := by decide +kernel
theorem d_M_kind_92 : decode c_M_kind 92 = .ok (.iinc 4 1, 3) := by decide +kernel
theorem d_M_kind_95 : decode c_M_kind 95 = .ok (.goto (-47), 3) := by decide +kernel
theorem d_M_kind_98 : decode c_M_kind 98 = .ok (.iinc 3 1, 3) := by decide +kernel
theorem d_M_kind_101 : decode c_M_kind 101 = .ok (.goto (-79), 3) := by decide +kernel
theorem d_M_kind_104 : decode c_M_kind 104 = .ok (.iload_n 2, 1) := by decide +kernel
theorem d_M_kind_105 : decode c_M_kind 105 = .ok (.ifCond .ne 7, 3) := by decide +kernel
theorem d_M_kind_108 : decode c_M_kind 108 = .ok (.iconst 0, 1) := by decide +kernel
theorem d_M_kind_109 : decode c_M_kind 109 = .ok (.goto 16, 3) := by decide +kernel
theorem d_M_kind_112 : decode c_M_kind 112 = .ok (.aload_n 0, 1) := by decide +kernel
theorem d_M_kind_113 : decode c_M_kind 113 = .ok (.getfield 63, 3) := by decide +kernel
theorem d_M_kind_116 : decode c_M_kind 116 = .ok (.iload_n 1, 1) := by decide +kernel
theorem d_M_kind_117 : decode c_M_kind 117 = .ok (.if_icmp .ne 7, 3) := by decide +kernel
theorem d_M_kind_120 : decode c_M_kind 120 = .ok (.iconst 1, 1) := by decide +kernel
theorem d_M_kind_121 : decode c_M_kind 121 = .ok (.goto 4, 3) := by decide +kernel
theorem d_M_kind_124 : decode c_M_kind 124 = .ok (.iconst 2, 1) := by decide +kernel
theorem d_M_kind_125 : decode c_M_kind 125 = .ok (.ireturn, 1) := by decide +kernel
abbrev c_M_escapes : ByteArray := prog_6_method_23_code
def y_M_escapes : MethodName := ⟨"ReadGraphModel", "escapes", "(II)Z"⟩
theorem d_M_escapes_0 : decode c_M_escapes 0 = .ok (.aload_n 0, 1) := by decide +kernel
theorem d_M_escapes_1 : decode c_M_escapes 1 = .ok (.getfield 41, 3) := by decide +kernel
theorem d_M_escapes_4 : decode c_M_escapes 4 = .ok (.bipush 81, 2) := by decide +kernel
theorem d_M_escapes_6 : decode c_M_escapes 6 = .ok (.iload_n 1, 1) := by decide +kernel
theorem d_M_escapes_7 : decode c_M_escapes 7 = .ok (.imul, 1) := by decide +kernel
theorem d_M_escapes_8 : decode c_M_escapes 8 = .ok (.iload_n 2, 1) := by decide +kernel
theorem d_M_escapes_9 : decode c_M_escapes 9 = .ok (.iadd, 1) := by decide +kernel
theorem d_M_escapes_10 : decode c_M_escapes 10 = .ok (.iaload, 1) := by decide +kernel
theorem d_M_escapes_11 : decode c_M_escapes 11 = .ok (.ifCond .le 24, 3) := by decide +kernel
theorem d_M_escapes_14 : decode c_M_escapes 14 = .ok (.aload_n 0, 1) := by decide +kernel
theorem d_M_escapes_15 : decode c_M_escapes 15 = .ok (.getfield 41, 3) := by decide +kernel
theorem d_M_escapes_18 : decode c_M_escapes 18 = .ok (.bipush 81, 2) := by decide +kernel
theorem d_M_escapes_20 : decode c_M_escapes 20 = .ok (.iload_n 1, 1) := by decide +kernel
theorem d_M_escapes_21 : decode c_M_escapes 21 = .ok (.imul, 1) := by decide +kernel
theorem d_M_escapes_22 : decode c_M_escapes 22 = .ok (.iload_n 2, 1) := by decide +kernel
theorem d_M_escapes_23 : decode c_M_escapes 23 = .ok (.iadd, 1) := by decide +kernel
theorem d_M_escapes_24 : decode c_M_escapes 24 = .ok (.iaload, 1) := by decide +kernel
theorem d_M_escapes_25 : decode c_M_escapes 25 = .ok (.iconst 2, 1) := by decide +kernel
theorem d_M_escapes_26 : decode c_M_escapes 26 = .ok (.if_icmp .ne 7, 3) := by decide +kernel
theorem d_M_escapes_29 : decode c_M_escapes 29 = .ok (.iconst 1, 1) := by decide +kernel
theorem d_M_escapes_30 : decode c_M_escapes 30 = .ok (.goto 4, 3) := by decide +kernel
theorem d_M_escapes_33 : decode c_M_escapes 33 = .ok (.iconst 0, 1) := by decide +kernel
theorem d_M_escapes_34 : decode c_M_escapes 34 = .ok (.ireturn, 1) := by decide +kernel
theorem d_M_escapes_35 : decode c_M_escapes 35 = .ok (.iconst 0, 1) := by decide +kernel
theorem d_M_escapes_36 : decode c_M_escapes 36 = .ok (.istore_n 3, 1) := by decide +kernel
theorem d_M_escapes_37 : decode c_M_escapes 37 = .ok (.iconst 0, 1) := by decide +kernel
theorem d_M_escapes_38 : decode c_M_escapes 38 = .ok (.istore 4, 2) := by decide +kernel
theorem d_M_escapes_40 : decode c_M_escapes 40 = .ok (.iload 4, 2) := by decide +kernel
theorem d_M_escapes_42 : decode c_M_escapes 42 = .ok (.aload_n 0, 1) := by decide +kernel
theorem d_M_escapes_43 : decode c_M_escapes 43 = .ok (.getfield 63, 3) := by decide +kernel
theorem d_M_escapes_46 : decode c_M_escapes 46 = .ok (.if_icmp .ge 146, 3) := by decide +kernel
theorem d_M_escapes_49 : decode c_M_escapes 49 = .ok (.aload_n 0, 1) := by decide +kernel
theorem d_M_escapes_50 : decode c_M_escapes 50 = .ok (.getfield 29, 3) := by decide +kernel
theorem d_M_escapes_53 : decode c_M_escapes 53 = .ok (.iload 4, 2) := by decide +kernel
theorem d_M_escapes_55 : decode c_M_escapes 55 = .ok (.iaload, 1) := by decide +kernel
theorem d_M_escapes_56 : decode c_M_escapes 56 = .ok (.aload_n 0, 1) := by decide +kernel
theorem d_M_escapes_57 : decode c_M_escapes 57 = .ok (.getfield 29, 3) := by decide +kernel
theorem d_M_escapes_60 : decode c_M_escapes 60 = .ok (.iload_n 2, 1) := by decide +kernel
theorem d_M_escapes_61 : decode c_M_escapes 61 = .ok (.iaload, 1) := by decide +kernel
theorem d_M_escapes_62 : decode c_M_escapes 62 = .ok (.if_icmp .ne 124, 3) := by decide +kernel
theorem d_M_escapes_65 : decode c_M_escapes 65 = .ok (.iload 4, 2) := by decide +kernel
theorem d_M_escapes_67 : decode c_M_escapes 67 = .ok (.iload_n 2, 1) := by decide +kernel
theorem d_M_escapes_68 : decode c_M_escapes 68 = .ok (.if_icmp .ne 6, 3) := by decide +kernel
theorem d_M_escapes_71 : decode c_M_escapes 71 = .ok (.goto 115, 3) := by decide +kernel
theorem d_M_escapes_74 : decode c_M_escapes 74 = .ok (.iconst 0, 1) := by decide +kernel
theorem d_M_escapes_75 : decode c_M_escapes 75 = .ok (.istore 5, 2) := by decide +kernel
theorem d_M_escapes_77 : decode c_M_escapes 77 = .ok (.iload 5, 2) := by decide +kernel
theorem d_M_escapes_79 : decode c_M_escapes 79 = .ok (.aload_n 0, 1) := by decide +kernel
theorem d_M_escapes_80 : decode c_M_escapes 80 = .ok (.getfield 63, 3) := by decide +kernel
theorem d_M_escapes_83 : decode c_M_escapes 83 = .ok (.if_icmp .ge 103, 3) := by decide +kernel
theorem d_M_escapes_86 : decode c_M_escapes 86 = .ok (.aload_n 0, 1) := by decide +kernel
theorem d_M_escapes_87 : decode c_M_escapes 87 = .ok (.getfield 32, 3) := by decide +kernel
theorem d_M_escapes_90 : decode c_M_escapes 90 = .ok (.iload 5, 2) := by decide +kernel
theorem d_M_escapes_92 : decode c_M_escapes 92 = .ok (.iaload, 1) := by decide +kernel
theorem d_M_escapes_93 : decode c_M_escapes 93 = .ok (.aload_n 0, 1) := by decide +kernel
theorem d_M_escapes_94 : decode c_M_escapes 94 = .ok (.getfield 32, 3) := by decide +kernel
theorem d_M_escapes_97 : decode c_M_escapes 97 = .ok (.iload_n 1, 1) := by decide +kernel
theorem d_M_escapes_98 : decode c_M_escapes 98 = .ok (.iaload, 1) := by decide +kernel
theorem d_M_escapes_99 : decode c_M_escapes 99 = .ok (.if_icmp .ne 13, 3) := by decide +kernel
theorem d_M_escapes_102 : decode c_M_escapes 102 = .ok (.iload 5, 2) := by decide +kernel
theorem d_M_escapes_104 : decode c_M_escapes 104 = .ok (.iload_n 1, 1) := by decide +kernel
theorem d_M_escapes_105 : decode c_M_escapes 105 = .ok (.if_icmp .eq 7, 3) := by decide +kernel
theorem d_M_escapes_108 : decode c_M_escapes 108 = .ok (.iconst 1, 1) := by decide +kernel
theorem d_M_escapes_109 : decode c_M_escapes 109 = .ok (.goto 4, 3) := by decide +kernel
theorem d_M_escapes_112 : decode c_M_escapes 112 = .ok (.iconst 0, 1) := by decide +kernel
theorem d_M_escapes_113 : decode c_M_escapes 113 = .ok (.istore 6, 2) := by decide +kernel
theorem d_M_escapes_115 : decode c_M_escapes 115 = .ok (.iload_n 3, 1) := by decide +kernel
theorem d_M_escapes_116 : decode c_M_escapes 116 = .ok (.ifCond .ne 58, 3) := by decide +kernel
theorem d_M_escapes_119 : decode c_M_escapes 119 = .ok (.iload 6, 2) := by decide +kernel
theorem d_M_escapes_121 : decode c_M_escapes 121 = .ok (.ifCond .eq 57, 3) := by decide +kernel
theorem d_M_escapes_124 : decode c_M_escapes 124 = .ok (.iload 4, 2) := by decide +kernel
theorem d_M_escapes_126 : decode c_M_escapes 126 = .ok (.iload 5, 2) := by decide +kernel
theorem d_M_escapes_128 : decode c_M_escapes 128 = .ok (.if_icmp .eq 46, 3) := by decide +kernel
theorem d_M_escapes_131 : decode c_M_escapes 131 = .ok (.aload_n 0, 1) := by decide +kernel
theorem d_M_escapes_132 : decode c_M_escapes 132 = .ok (.getfield 32, 3) := by decide +kernel
theorem d_M_escapes_135 : decode c_M_escapes 135 = .ok (.iload 4, 2) := by decide +kernel
theorem d_M_escapes_137 : decode c_M_escapes 137 = .ok (.iaload, 1) := by decide +kernel
theorem d_M_escapes_138 : decode c_M_escapes 138 = .ok (.aload_n 0, 1) := by decide +kernel
theorem d_M_escapes_139 : decode c_M_escapes 139 = .ok (.getfield 29, 3) := by decide +kernel
theorem d_M_escapes_142 : decode c_M_escapes 142 = .ok (.iload 5, 2) := by decide +kernel
theorem d_M_escapes_144 : decode c_M_escapes 144 = .ok (.iaload, 1) := by decide +kernel
theorem d_M_escapes_145 : decode c_M_escapes 145 = .ok (.if_icmp .eq 29, 3) := by decide +kernel
theorem d_M_escapes_148 : decode c_M_escapes 148 = .ok (.aload_n 0, 1) := by decide +kernel
theorem d_M_escapes_149 : decode c_M_escapes 149 = .ok (.getfield 38, 3) := by decide +kernel
theorem d_M_escapes_152 : decode c_M_escapes 152 = .ok (.bipush 9, 2) := by decide +kernel
theorem d_M_escapes_154 : decode c_M_escapes 154 = .ok (.aload_n 0, 1) := by decide +kernel
theorem d_M_escapes_155 : decode c_M_escapes 155 = .ok (.getfield 32, 3) := by decide +kernel
theorem d_M_escapes_158 : decode c_M_escapes 158 = .ok (.iload 4, 2) := by decide +kernel
theorem d_M_escapes_160 : decode c_M_escapes 160 = .ok (.iaload, 1) := by decide +kernel
theorem d_M_escapes_161 : decode c_M_escapes 161 = .ok (.imul, 1) := by decide +kernel
theorem d_M_escapes_162 : decode c_M_escapes 162 = .ok (.aload_n 0, 1) := by decide +kernel
theorem d_M_escapes_163 : decode c_M_escapes 163 = .ok (.getfield 29, 3) := by decide +kernel
theorem d_M_escapes_166 : decode c_M_escapes 166 = .ok (.iload 5, 2) := by decide +kernel
theorem d_M_escapes_168 : decode c_M_escapes 168 = .ok (.iaload, 1) := by decide +kernel
theorem d_M_escapes_169 : decode c_M_escapes 169 = .ok (.iadd, 1) := by decide +kernel
theorem d_M_escapes_170 : decode c_M_escapes 170 = .ok (.baload, 1) := by decide +kernel
theorem d_M_escapes_171 : decode c_M_escapes 171 = .ok (.ifCond .eq 7, 3) := by decide +kernel
theorem d_M_escapes_174 : decode c_M_escapes 174 = .ok (.iconst 1, 1) := by decide +kernel
theorem d_M_escapes_175 : decode c_M_escapes 175 = .ok (.goto 4, 3) := by decide +kernel
theorem d_M_escapes_178 : decode c_M_escapes 178 = .ok (.iconst 0, 1) := by decide +kernel
theorem d_M_escapes_179 : decode c_M_escapes 179 = .ok (.istore_n 3, 1) := by decide +kernel
theorem d_M_escapes_180 : decode c_M_escapes 180 = .ok (.iinc 5 1, 3) := by decide +kernel
theorem d_M_escapes_183 : decode c_M_escapes 183 = .ok (.goto (-106), 3) := by decide +kernel
theorem d_M_escapes_186 : decode c_M_escapes 186 = .ok (.iinc 4 1, 3) := by decide +kernel
theorem d_M_escapes_189 : decode c_M_escapes 189 = .ok (.goto (-149), 3) := by decide +kernel
theorem d_M_escapes_192 : decode c_M_escapes 192 = .ok (.aload_n 0, 1) := by decide +kernel
theorem d_M_escapes_193 : decode c_M_escapes 193 = .ok (.getfield 41, 3) := by decide +kernel
theorem d_M_escapes_196 : decode c_M_escapes 196 = .ok (.bipush 81, 2) := by decide +kernel
theorem d_M_escapes_198 : decode c_M_escapes 198 = .ok (.iload_n 1, 1) := by decide +kernel
theorem d_M_escapes_199 : decode c_M_escapes 199 = .ok (.imul, 1) := by decide +kernel
theorem d_M_escapes_200 : decode c_M_escapes 200 = .ok (.iload_n 2, 1) := by decide +kernel
theorem d_M_escapes_201 : decode c_M_escapes 201 = .ok (.iadd, 1) := by decide +kernel
theorem d_M_escapes_202 : decode c_M_escapes 202 = .ok (.iload_n 3, 1) := by decide +kernel
theorem d_M_escapes_203 : decode c_M_escapes 203 = .ok (.ifCond .eq 7, 3) := by decide +kernel
theorem d_M_escapes_206 : decode c_M_escapes 206 = .ok (.iconst 2, 1) := by decide +kernel
theorem d_M_escapes_207 : decode c_M_escapes 207 = .ok (.goto 4, 3) := by decide +kernel
theorem d_M_escapes_210 : decode c_M_escapes 210 = .ok (.iconst 1, 1) := by decide +kernel
theorem d_M_escapes_211 : decode c_M_escapes 211 = .ok (.iastore, 1) := by decide +kernel
theorem d_M_escapes_212 : decode c_M_escapes 212 = .ok (.iload_n 3, 1) := by decide +kernel
theorem d_M_escapes_213 : decode c_M_escapes 213 = .ok (.ireturn, 1) := by decide +kernel
abbrev c_M_isSafe : ByteArray := prog_6_method_24_code
def y_M_isSafe : MethodName := ⟨"ReadGraphModel", "isSafe", "(II)Z"⟩
theorem d_M_isSafe_0 : decode c_M_isSafe 0 = .ok (.iload_n 1, 1) := by decide +kernel
theorem d_M_isSafe_1 : decode c_M_isSafe 1 = .ok (.istore_n 3, 1) := by decide +kernel
theorem d_M_isSafe_2 : decode c_M_isSafe 2 = .ok (.iload_n 3, 1) := by decide +kernel
theorem d_M_isSafe_3 : decode c_M_isSafe 3 = .ok (.iload_n 2, 1) := by decide +kernel
theorem d_M_isSafe_4 : decode c_M_isSafe 4 = .ok (.iconst 1, 1) := by decide +kernel
theorem d_M_isSafe_5 : decode c_M_isSafe 5 = .ok (.isub, 1) := by decide +kernel
theorem d_M_isSafe_6 : decode c_M_isSafe 6 = .ok (.if_icmp .ge 50, 3) := by decide +kernel
theorem d_M_isSafe_9 : decode c_M_isSafe 9 = .ok (.iload_n 3, 1) := by decide +kernel
theorem d_M_isSafe_10 : decode c_M_isSafe 10 = .ok (.istore 4, 2) := by decide +kernel
theorem d_M_isSafe_12 : decode c_M_isSafe 12 = .ok (.iload 4, 2) := by decide +kernel
theorem d_M_isSafe_14 : decode c_M_isSafe 14 = .ok (.iload_n 2, 1) := by decide +kernel
theorem d_M_isSafe_15 : decode c_M_isSafe 15 = .ok (.iconst 1, 1) := by decide +kernel
theorem d_M_isSafe_16 : decode c_M_isSafe 16 = .ok (.isub, 1) := by decide +kernel
theorem d_M_isSafe_17 : decode c_M_isSafe 17 = .ok (.if_icmp .ge 33, 3) := by decide +kernel
theorem d_M_isSafe_20 : decode c_M_isSafe 20 = .ok (.aload_n 0, 1) := by decide +kernel
theorem d_M_isSafe_21 : decode c_M_isSafe 21 = .ok (.aload_n 0, 1) := by decide +kernel
theorem d_M_isSafe_22 : decode c_M_isSafe 22 = .ok (.getfield 44, 3) := by decide +kernel
theorem d_M_isSafe_25 : decode c_M_isSafe 25 = .ok (.iload_n 3, 1) := by decide +kernel
theorem d_M_isSafe_26 : decode c_M_isSafe 26 = .ok (.iaload, 1) := by decide +kernel
theorem d_M_isSafe_27 : decode c_M_isSafe 27 = .ok (.aload_n 0, 1) := by decide +kernel
theorem d_M_isSafe_28 : decode c_M_isSafe 28 = .ok (.getfield 44, 3) := by decide +kernel
theorem d_M_isSafe_31 : decode c_M_isSafe 31 = .ok (.iload 4, 2) := by decide +kernel
theorem d_M_isSafe_33 : decode c_M_isSafe 33 = .ok (.iconst 1, 1) := by decide +kernel
theorem d_M_isSafe_34 : decode c_M_isSafe 34 = .ok (.iadd, 1) := by decide +kernel
theorem d_M_isSafe_35 : decode c_M_isSafe 35 = .ok (.iaload, 1) := by decide +kernel
theorem d_M_isSafe_36 : decode c_M_isSafe 36 = .ok (.invokevirtual 108, 3) := by decide +kernel
theorem d_M_isSafe_39 : decode c_M_isSafe 39 = .ok (.ifCond .eq 5, 3) := by decide +kernel
theorem d_M_isSafe_42 : decode c_M_isSafe 42 = .ok (.iconst 0, 1) := by decide +kernel
theorem d_M_isSafe_43 : decode c_M_isSafe 43 = .ok (.ireturn, 1) := by decide +kernel
theorem d_M_isSafe_44 : decode c_M_isSafe 44 = .ok (.iinc 4 1, 3) := by decide +kernel
theorem d_M_isSafe_47 : decode c_M_isSafe 47 = .ok (.goto (-35), 3) := by decide +kernel
theorem d_M_isSafe_50 : decode c_M_isSafe 50 = .ok (.iinc 3 1, 3) := by decide +kernel
theorem d_M_isSafe_53 : decode c_M_isSafe 53 = .ok (.goto (-51), 3) := by decide +kernel
theorem d_M_isSafe_56 : decode c_M_isSafe 56 = .ok (.iconst 1, 1) := by decide +kernel
theorem d_M_isSafe_57 : decode c_M_isSafe 57 = .ok (.ireturn, 1) := by decide +kernel
abbrev c_M_safe : ByteArray := prog_6_method_25_code
def y_M_safe : MethodName := ⟨"ReadGraphModel", "safe", "(JI)Z"⟩
theorem d_M_safe_0 : decode c_M_safe 0 = .ok (.iload_n 3, 1) := by decide +kernel
theorem d_M_safe_1 : decode c_M_safe 1 = .ok (.iconst 1, 1) := by decide +kernel
theorem d_M_safe_2 : decode c_M_safe 2 = .ok (.if_icmp .lt 9, 3) := by decide +kernel
theorem d_M_safe_5 : decode c_M_safe 5 = .ok (.iload_n 3, 1) := by decide +kernel
theorem d_M_safe_6 : decode c_M_safe 6 = .ok (.bipush 8, 2) := by decide +kernel
theorem d_M_safe_8 : decode c_M_safe 8 = .ok (.if_icmp .le 7, 3) := by decide +kernel
theorem d_M_safe_11 : decode c_M_safe 11 = .ok (.iconst 1, 1) := by decide +kernel
theorem d_M_safe_12 : decode c_M_safe 12 = .ok (.goto 4, 3) := by decide +kernel
theorem d_M_safe_15 : decode c_M_safe 15 = .ok (.iconst 0, 1) := by decide +kernel
theorem d_M_safe_16 : decode c_M_safe 16 = .ok (.istore 4, 2) := by decide +kernel
theorem d_M_safe_18 : decode c_M_safe 18 = .ok (.iconst 0, 1) := by decide +kernel
theorem d_M_safe_19 : decode c_M_safe 19 = .ok (.istore 5, 2) := by decide +kernel
theorem d_M_safe_21 : decode c_M_safe 21 = .ok (.iload 5, 2) := by decide +kernel
theorem d_M_safe_23 : decode c_M_safe 23 = .ok (.iload_n 3, 1) := by decide +kernel
theorem d_M_safe_24 : decode c_M_safe 24 = .ok (.if_icmp .ge 86, 3) := by decide +kernel
theorem d_M_safe_27 : decode c_M_safe 27 = .ok (.iload 4, 2) := by decide +kernel
theorem d_M_safe_29 : decode c_M_safe 29 = .ok (.ifCond .ne 81, 3) := by decide +kernel
theorem d_M_safe_32 : decode c_M_safe 32 = .ok (.lload_n 1, 1) := by decide +kernel
theorem d_M_safe_33 : decode c_M_safe 33 = .ok (.bipush 8, 2) := by decide +kernel
theorem d_M_safe_35 : decode c_M_safe 35 = .ok (.iload_n 3, 1) := by decide +kernel
theorem d_M_safe_36 : decode c_M_safe 36 = .ok (.iconst 1, 1) := by decide +kernel
theorem d_M_safe_37 : decode c_M_safe 37 = .ok (.isub, 1) := by decide +kernel
theorem d_M_safe_38 : decode c_M_safe 38 = .ok (.iload 5, 2) := by decide +kernel
theorem d_M_safe_40 : decode c_M_safe 40 = .ok (.isub, 1) := by decide +kernel
theorem d_M_safe_41 : decode c_M_safe 41 = .ok (.imul, 1) := by decide +kernel
theorem d_M_safe_42 : decode c_M_safe 42 = .ok (.lshr, 1) := by decide +kernel
theorem d_M_safe_43 : decode c_M_safe 43 = .ok (.ldc2_w 111, 3) := by decide +kernel
theorem d_M_safe_46 : decode c_M_safe 46 = .ok (.land, 1) := by decide +kernel
theorem d_M_safe_47 : decode c_M_safe 47 = .ok (.l2i, 1) := by decide +kernel
theorem d_M_safe_48 : decode c_M_safe 48 = .ok (.istore 6, 2) := by decide +kernel
theorem d_M_safe_50 : decode c_M_safe 50 = .ok (.iload 6, 2) := by decide +kernel
theorem d_M_safe_52 : decode c_M_safe 52 = .ok (.aload_n 0, 1) := by decide +kernel
theorem d_M_safe_53 : decode c_M_safe 53 = .ok (.getfield 63, 3) := by decide +kernel
theorem d_M_safe_56 : decode c_M_safe 56 = .ok (.if_icmp .ge 30, 3) := by decide +kernel
theorem d_M_safe_59 : decode c_M_safe 59 = .ok (.iload 5, 2) := by decide +kernel
theorem d_M_safe_61 : decode c_M_safe 61 = .ok (.ifCond .le 29, 3) := by decide +kernel
theorem d_M_safe_64 : decode c_M_safe 64 = .ok (.aload_n 0, 1) := by decide +kernel
theorem d_M_safe_65 : decode c_M_safe 65 = .ok (.getfield 32, 3) := by decide +kernel
theorem d_M_safe_68 : decode c_M_safe 68 = .ok (.aload_n 0, 1) := by decide +kernel
theorem d_M_safe_69 : decode c_M_safe 69 = .ok (.getfield 44, 3) := by decide +kernel
theorem d_M_safe_72 : decode c_M_safe 72 = .ok (.iload 5, 2) := by decide +kernel
theorem d_M_safe_74 : decode c_M_safe 74 = .ok (.iaload, 1) := by decide +kernel
theorem d_M_safe_75 : decode c_M_safe 75 = .ok (.iaload, 1) := by decide +kernel
theorem d_M_safe_76 : decode c_M_safe 76 = .ok (.aload_n 0, 1) := by decide +kernel
theorem d_M_safe_77 : decode c_M_safe 77 = .ok (.getfield 29, 3) := by decide +kernel
theorem d_M_safe_80 : decode c_M_safe 80 = .ok (.iload 6, 2) := by decide +kernel
theorem d_M_safe_82 : decode c_M_safe 82 = .ok (.iaload, 1) := by decide +kernel
theorem d_M_safe_83 : decode c_M_safe 83 = .ok (.if_icmp .eq 7, 3) := by decide +kernel
theorem d_M_safe_86 : decode c_M_safe 86 = .ok (.iconst 1, 1) := by decide +kernel
theorem d_M_safe_87 : decode c_M_safe 87 = .ok (.goto 4, 3) := by decide +kernel
theorem d_M_safe_90 : decode c_M_safe 90 = .ok (.iconst 0, 1) := by decide +kernel
theorem d_M_safe_91 : decode c_M_safe 91 = .ok (.istore 4, 2) := by decide +kernel
theorem d_M_safe_93 : decode c_M_safe 93 = .ok (.aload_n 0, 1) := by decide +kernel
theorem d_M_safe_94 : decode c_M_safe 94 = .ok (.getfield 44, 3) := by decide +kernel
theorem d_M_safe_97 : decode c_M_safe 97 = .ok (.iload 5, 2) := by decide +kernel
theorem d_M_safe_99 : decode c_M_safe 99 = .ok (.iconst 1, 1) := by decide +kernel
theorem d_M_safe_100 : decode c_M_safe 100 = .ok (.iadd, 1) := by decide +kernel
theorem d_M_safe_101 : decode c_M_safe 101 = .ok (.iload 6, 2) := by decide +kernel
theorem d_M_safe_103 : decode c_M_safe 103 = .ok (.iastore, 1) := by decide +kernel
theorem d_M_safe_104 : decode c_M_safe 104 = .ok (.iinc 5 1, 3) := by decide +kernel
theorem d_M_safe_107 : decode c_M_safe 107 = .ok (.goto (-86), 3) := by decide +kernel
theorem d_M_safe_110 : decode c_M_safe 110 = .ok (.aload_n 0, 1) := by decide +kernel
theorem d_M_safe_111 : decode c_M_safe 111 = .ok (.iload 4, 2) := by decide +kernel
theorem d_M_safe_113 : decode c_M_safe 113 = .ok (.iconst 0, 1) := by decide +kernel
theorem d_M_safe_114 : decode c_M_safe 114 = .ok (.invokevirtual 80, 3) := by decide +kernel
theorem d_M_safe_117 : decode c_M_safe 117 = .ok (.ifCond .ne 18, 3) := by decide +kernel
theorem d_M_safe_120 : decode c_M_safe 120 = .ok (.aload_n 0, 1) := by decide +kernel
theorem d_M_safe_121 : decode c_M_safe 121 = .ok (.iconst 1, 1) := by decide +kernel
theorem d_M_safe_122 : decode c_M_safe 122 = .ok (.iload_n 3, 1) := by decide +kernel
theorem d_M_safe_123 : decode c_M_safe 123 = .ok (.iconst 1, 1) := by decide +kernel
theorem d_M_safe_124 : decode c_M_safe 124 = .ok (.iadd, 1) := by decide +kernel
theorem d_M_safe_125 : decode c_M_safe 125 = .ok (.invokevirtual 113, 3) := by decide +kernel
theorem d_M_safe_128 : decode c_M_safe 128 = .ok (.ifCond .eq 7, 3) := by decide +kernel
theorem d_M_safe_131 : decode c_M_safe 131 = .ok (.iconst 1, 1) := by decide +kernel
theorem d_M_safe_132 : decode c_M_safe 132 = .ok (.goto 4, 3) := by decide +kernel
theorem d_M_safe_135 : decode c_M_safe 135 = .ok (.iconst 0, 1) := by decide +kernel
theorem d_M_safe_136 : decode c_M_safe 136 = .ok (.ireturn, 1) := by decide +kernel
abbrev c_M_hasBeginning : ByteArray := prog_6_method_26_code
def y_M_hasBeginning : MethodName := ⟨"ReadGraphModel", "hasBeginning", "(I)Z"⟩
theorem d_M_hasBeginning_0 : decode c_M_hasBeginning 0 = .ok (.iconst 0, 1) := by decide +kernel
theorem d_M_hasBeginning_1 : decode c_M_hasBeginning 1 = .ok (.istore_n 2, 1) := by decide +kernel
theorem d_M_hasBeginning_2 : decode c_M_hasBeginning 2 = .ok (.iload_n 2, 1) := by decide +kernel
theorem d_M_hasBeginning_3 : decode c_M_hasBeginning 3 = .ok (.aload_n 0, 1) := by decide +kernel
theorem d_M_hasBeginning_4 : decode c_M_hasBeginning 4 = .ok (.getfield 63, 3) := by decide +kernel
theorem d_M_hasBeginning_7 : decode c_M_hasBeginning 7 = .ok (.if_icmp .ge 47, 3) := by decide +kernel
theorem d_M_hasBeginning_10 : decode c_M_hasBeginning 10 = .ok (.aload_n 0, 1) := by decide +kernel
theorem d_M_hasBeginning_11 : decode c_M_hasBeginning 11 = .ok (.getfield 44, 3) := by decide +kernel
theorem d_M_hasBeginning_14 : decode c_M_hasBeginning 14 = .ok (.iconst 0, 1) := by decide +kernel
theorem d_M_hasBeginning_15 : decode c_M_hasBeginning 15 = .ok (.iload_n 2, 1) := by decide +kernel
theorem d_M_hasBeginning_16 : decode c_M_hasBeginning 16 = .ok (.iastore, 1) := by decide +kernel
theorem d_M_hasBeginning_17 : decode c_M_hasBeginning 17 = .ok (.aload_n 0, 1) := by decide +kernel
theorem d_M_hasBeginning_18 : decode c_M_hasBeginning 18 = .ok (.getfield 32, 3) := by decide +kernel
theorem d_M_hasBeginning_21 : decode c_M_hasBeginning 21 = .ok (.iload_n 2, 1) := by decide +kernel
theorem d_M_hasBeginning_22 : decode c_M_hasBeginning 22 = .ok (.iaload, 1) := by decide +kernel
theorem d_M_hasBeginning_23 : decode c_M_hasBeginning 23 = .ok (.aload_n 0, 1) := by decide +kernel
theorem d_M_hasBeginning_24 : decode c_M_hasBeginning 24 = .ok (.getfield 29, 3) := by decide +kernel
theorem d_M_hasBeginning_27 : decode c_M_hasBeginning 27 = .ok (.aload_n 0, 1) := by decide +kernel
theorem d_M_hasBeginning_28 : decode c_M_hasBeginning 28 = .ok (.getfield 44, 3) := by decide +kernel
theorem d_M_hasBeginning_31 : decode c_M_hasBeginning 31 = .ok (.iconst 1, 1) := by decide +kernel
theorem d_M_hasBeginning_32 : decode c_M_hasBeginning 32 = .ok (.iaload, 1) := by decide +kernel
theorem d_M_hasBeginning_33 : decode c_M_hasBeginning 33 = .ok (.iaload, 1) := by decide +kernel
theorem d_M_hasBeginning_34 : decode c_M_hasBeginning 34 = .ok (.if_icmp .ne 14, 3) := by decide +kernel
theorem d_M_hasBeginning_37 : decode c_M_hasBeginning 37 = .ok (.aload_n 0, 1) := by decide +kernel
theorem d_M_hasBeginning_38 : decode c_M_hasBeginning 38 = .ok (.iconst 0, 1) := by decide +kernel
theorem d_M_hasBeginning_39 : decode c_M_hasBeginning 39 = .ok (.iload_n 1, 1) := by decide +kernel
theorem d_M_hasBeginning_40 : decode c_M_hasBeginning 40 = .ok (.invokevirtual 113, 3) := by decide +kernel
theorem d_M_hasBeginning_43 : decode c_M_hasBeginning 43 = .ok (.ifCond .eq 5, 3) := by decide +kernel
theorem d_M_hasBeginning_46 : decode c_M_hasBeginning 46 = .ok (.iconst 1, 1) := by decide +kernel
theorem d_M_hasBeginning_47 : decode c_M_hasBeginning 47 = .ok (.ireturn, 1) := by decide +kernel
theorem d_M_hasBeginning_48 : decode c_M_hasBeginning 48 = .ok (.iinc 2 1, 3) := by decide +kernel
theorem d_M_hasBeginning_51 : decode c_M_hasBeginning 51 = .ok (.goto (-49), 3) := by decide +kernel
theorem d_M_hasBeginning_54 : decode c_M_hasBeginning 54 = .ok (.iconst 0, 1) := by decide +kernel
theorem d_M_hasBeginning_55 : decode c_M_hasBeginning 55 = .ok (.ireturn, 1) := by decide +kernel
abbrev c_M_hasEnd : ByteArray := prog_6_method_27_code
def y_M_hasEnd : MethodName := ⟨"ReadGraphModel", "hasEnd", "(I)Z"⟩
theorem d_M_hasEnd_0 : decode c_M_hasEnd 0 = .ok (.iconst 0, 1) := by decide +kernel
theorem d_M_hasEnd_1 : decode c_M_hasEnd 1 = .ok (.istore_n 2, 1) := by decide +kernel
theorem d_M_hasEnd_2 : decode c_M_hasEnd 2 = .ok (.iload_n 2, 1) := by decide +kernel
theorem d_M_hasEnd_3 : decode c_M_hasEnd 3 = .ok (.aload_n 0, 1) := by decide +kernel
theorem d_M_hasEnd_4 : decode c_M_hasEnd 4 = .ok (.getfield 63, 3) := by decide +kernel
theorem d_M_hasEnd_7 : decode c_M_hasEnd 7 = .ok (.if_icmp .ge 51, 3) := by decide +kernel
theorem d_M_hasEnd_10 : decode c_M_hasEnd 10 = .ok (.aload_n 0, 1) := by decide +kernel
theorem d_M_hasEnd_11 : decode c_M_hasEnd 11 = .ok (.getfield 44, 3) := by decide +kernel
theorem d_M_hasEnd_14 : decode c_M_hasEnd 14 = .ok (.iload_n 1, 1) := by decide +kernel
theorem d_M_hasEnd_15 : decode c_M_hasEnd 15 = .ok (.iload_n 2, 1) := by decide +kernel
theorem d_M_hasEnd_16 : decode c_M_hasEnd 16 = .ok (.iastore, 1) := by decide +kernel
theorem d_M_hasEnd_17 : decode c_M_hasEnd 17 = .ok (.aload_n 0, 1) := by decide +kernel
theorem d_M_hasEnd_18 : decode c_M_hasEnd 18 = .ok (.getfield 29, 3) := by decide +kernel
theorem d_M_hasEnd_21 : decode c_M_hasEnd 21 = .ok (.iload_n 2, 1) := by decide +kernel
theorem d_M_hasEnd_22 : decode c_M_hasEnd 22 = .ok (.iaload, 1) := by decide +kernel
theorem d_M_hasEnd_23 : decode c_M_hasEnd 23 = .ok (.aload_n 0, 1) := by decide +kernel
theorem d_M_hasEnd_24 : decode c_M_hasEnd 24 = .ok (.getfield 32, 3) := by decide +kernel
theorem d_M_hasEnd_27 : decode c_M_hasEnd 27 = .ok (.aload_n 0, 1) := by decide +kernel
theorem d_M_hasEnd_28 : decode c_M_hasEnd 28 = .ok (.getfield 44, 3) := by decide +kernel
theorem d_M_hasEnd_31 : decode c_M_hasEnd 31 = .ok (.iload_n 1, 1) := by decide +kernel
theorem d_M_hasEnd_32 : decode c_M_hasEnd 32 = .ok (.iconst 1, 1) := by decide +kernel
theorem d_M_hasEnd_33 : decode c_M_hasEnd 33 = .ok (.isub, 1) := by decide +kernel
theorem d_M_hasEnd_34 : decode c_M_hasEnd 34 = .ok (.iaload, 1) := by decide +kernel
theorem d_M_hasEnd_35 : decode c_M_hasEnd 35 = .ok (.iaload, 1) := by decide +kernel
theorem d_M_hasEnd_36 : decode c_M_hasEnd 36 = .ok (.if_icmp .ne 16, 3) := by decide +kernel
theorem d_M_hasEnd_39 : decode c_M_hasEnd 39 = .ok (.aload_n 0, 1) := by decide +kernel
theorem d_M_hasEnd_40 : decode c_M_hasEnd 40 = .ok (.iconst 1, 1) := by decide +kernel
theorem d_M_hasEnd_41 : decode c_M_hasEnd 41 = .ok (.iload_n 1, 1) := by decide +kernel
theorem d_M_hasEnd_42 : decode c_M_hasEnd 42 = .ok (.iconst 1, 1) := by decide +kernel
theorem d_M_hasEnd_43 : decode c_M_hasEnd 43 = .ok (.iadd, 1) := by decide +kernel
theorem d_M_hasEnd_44 : decode c_M_hasEnd 44 = .ok (.invokevirtual 113, 3) := by decide +kernel
theorem d_M_hasEnd_47 : decode c_M_hasEnd 47 = .ok (.ifCond .eq 5, 3) := by decide +kernel
theorem d_M_hasEnd_50 : decode c_M_hasEnd 50 = .ok (.iconst 1, 1) := by decide +kernel
theorem d_M_hasEnd_51 : decode c_M_hasEnd 51 = .ok (.ireturn, 1) := by decide +kernel
theorem d_M_hasEnd_52 : decode c_M_hasEnd 52 = .ok (.iinc 2 1, 3) := by decide +kernel
theorem d_M_hasEnd_55 : decode c_M_hasEnd 55 = .ok (.goto (-53), 3) := by decide +kernel
theorem d_M_hasEnd_58 : decode c_M_hasEnd 58 = .ok (.iconst 0, 1) := by decide +kernel
theorem d_M_hasEnd_59 : decode c_M_hasEnd 59 = .ok (.ireturn, 1) := by decide +kernel
abbrev c_M_keep : ByteArray := prog_6_method_28_code
def y_M_keep : MethodName := ⟨"ReadGraphModel", "keep", "(I)Z"⟩
theorem d_M_keep_0 : decode c_M_keep 0 = .ok (.aload_n 0, 1) := by decide +kernel
theorem d_M_keep_1 : decode c_M_keep 1 = .ok (.iload_n 1, 1) := by decide +kernel
theorem d_M_keep_2 : decode c_M_keep 2 = .ok (.iconst 1, 1) := by decide +kernel
theorem d_M_keep_3 : decode c_M_keep 3 = .ok (.iadd, 1) := by decide +kernel
theorem d_M_keep_4 : decode c_M_keep 4 = .ok (.invokevirtual 116, 3) := by decide +kernel
theorem d_M_keep_7 : decode c_M_keep 7 = .ok (.ifCond .ne 13, 3) := by decide +kernel
theorem d_M_keep_10 : decode c_M_keep 10 = .ok (.aload_n 0, 1) := by decide +kernel
theorem d_M_keep_11 : decode c_M_keep 11 = .ok (.iload_n 1, 1) := by decide +kernel
theorem d_M_keep_12 : decode c_M_keep 12 = .ok (.iconst 1, 1) := by decide +kernel
theorem d_M_keep_13 : decode c_M_keep 13 = .ok (.iadd, 1) := by decide +kernel
theorem d_M_keep_14 : decode c_M_keep 14 = .ok (.invokevirtual 119, 3) := by decide +kernel
theorem d_M_keep_17 : decode c_M_keep 17 = .ok (.ifCond .eq 5, 3) := by decide +kernel
theorem d_M_keep_20 : decode c_M_keep 20 = .ok (.iconst 1, 1) := by decide +kernel
theorem d_M_keep_21 : decode c_M_keep 21 = .ok (.ireturn, 1) := by decide +kernel
theorem d_M_keep_22 : decode c_M_keep 22 = .ok (.aload_n 0, 1) := by decide +kernel
theorem d_M_keep_23 : decode c_M_keep 23 = .ok (.getfield 66, 3) := by decide +kernel
theorem d_M_keep_26 : decode c_M_keep 26 = .ok (.bipush 50, 2) := by decide +kernel
theorem d_M_keep_28 : decode c_M_keep 28 = .ok (.if_icmp .ne 5, 3) := by decide +kernel
theorem d_M_keep_31 : decode c_M_keep 31 = .ok (.iconst 0, 1) := by decide +kernel
theorem d_M_keep_32 : decode c_M_keep 32 = .ok (.ireturn, 1) := by decide +kernel
theorem d_M_keep_33 : decode c_M_keep 33 = .ok (.aload_n 0, 1) := by decide +kernel
theorem d_M_keep_34 : decode c_M_keep 34 = .ok (.getfield 50, 3) := by decide +kernel
theorem d_M_keep_37 : decode c_M_keep 37 = .ok (.aload_n 0, 1) := by decide +kernel
theorem d_M_keep_38 : decode c_M_keep 38 = .ok (.getfield 66, 3) := by decide +kernel
theorem d_M_keep_41 : decode c_M_keep 41 = .ok (.iload_n 1, 1) := by decide +kernel
theorem d_M_keep_42 : decode c_M_keep 42 = .ok (.iastore, 1) := by decide +kernel
theorem d_M_keep_43 : decode c_M_keep 43 = .ok (.iconst 0, 1) := by decide +kernel
theorem d_M_keep_44 : decode c_M_keep 44 = .ok (.istore_n 2, 1) := by decide +kernel
theorem d_M_keep_45 : decode c_M_keep 45 = .ok (.iload_n 2, 1) := by decide +kernel
theorem d_M_keep_46 : decode c_M_keep 46 = .ok (.iload_n 1, 1) := by decide +kernel
theorem d_M_keep_47 : decode c_M_keep 47 = .ok (.if_icmp .ge 31, 3) := by decide +kernel
theorem d_M_keep_50 : decode c_M_keep 50 = .ok (.aload_n 0, 1) := by decide +kernel
theorem d_M_keep_51 : decode c_M_keep 51 = .ok (.getfield 53, 3) := by decide +kernel
theorem d_M_keep_54 : decode c_M_keep 54 = .ok (.bipush 40, 2) := by decide +kernel
theorem d_M_keep_56 : decode c_M_keep 56 = .ok (.aload_n 0, 1) := by decide +kernel
theorem d_M_keep_57 : decode c_M_keep 57 = .ok (.getfield 66, 3) := by decide +kernel
theorem d_M_keep_60 : decode c_M_keep 60 = .ok (.imul, 1) := by decide +kernel
theorem d_M_keep_61 : decode c_M_keep 61 = .ok (.iload_n 2, 1) := by decide +kernel
theorem d_M_keep_62 : decode c_M_keep 62 = .ok (.iadd, 1) := by decide +kernel
theorem d_M_keep_63 : decode c_M_keep 63 = .ok (.aload_n 0, 1) := by decide +kernel
theorem d_M_keep_64 : decode c_M_keep 64 = .ok (.getfield 44, 3) := by decide +kernel
theorem d_M_keep_67 : decode c_M_keep 67 = .ok (.iload_n 2, 1) := by decide +kernel
theorem d_M_keep_68 : decode c_M_keep 68 = .ok (.iconst 1, 1) := by decide +kernel
theorem d_M_keep_69 : decode c_M_keep 69 = .ok (.iadd, 1) := by decide +kernel
theorem d_M_keep_70 : decode c_M_keep 70 = .ok (.iaload, 1) := by decide +kernel
theorem d_M_keep_71 : decode c_M_keep 71 = .ok (.iastore, 1) := by decide +kernel
theorem d_M_keep_72 : decode c_M_keep 72 = .ok (.iinc 2 1, 3) := by decide +kernel
theorem d_M_keep_75 : decode c_M_keep 75 = .ok (.goto (-30), 3) := by decide +kernel
theorem d_M_keep_78 : decode c_M_keep 78 = .ok (.aload_n 0, 1) := by decide +kernel
theorem d_M_keep_79 : decode c_M_keep 79 = .ok (.dup, 1) := by decide +kernel
theorem d_M_keep_80 : decode c_M_keep 80 = .ok (.getfield 66, 3) := by decide +kernel
theorem d_M_keep_83 : decode c_M_keep 83 = .ok (.iconst 1, 1) := by decide +kernel
theorem d_M_keep_84 : decode c_M_keep 84 = .ok (.iadd, 1) := by decide +kernel
theorem d_M_keep_85 : decode c_M_keep 85 = .ok (.putfield 66, 3) := by decide +kernel
theorem d_M_keep_88 : decode c_M_keep 88 = .ok (.iconst 1, 1) := by decide +kernel
theorem d_M_keep_89 : decode c_M_keep 89 = .ok (.ireturn, 1) := by decide +kernel
abbrev c_M_find : ByteArray := prog_6_method_29_code
def y_M_find : MethodName := ⟨"ReadGraphModel", "find", "()Z"⟩
theorem d_M_find_0 : decode c_M_find 0 = .ok (.iconst 1, 1) := by decide +kernel
theorem d_M_find_1 : decode c_M_find 1 = .ok (.istore_n 1, 1) := by decide +kernel
theorem d_M_find_2 : decode c_M_find 2 = .ok (.aload_n 0, 1) := by decide +kernel
theorem d_M_find_3 : decode c_M_find 3 = .ok (.getfield 47, 3) := by decide +kernel
theorem d_M_find_6 : decode c_M_find 6 = .ok (.iconst 1, 1) := by decide +kernel
theorem d_M_find_7 : decode c_M_find 7 = .ok (.iconst 0, 1) := by decide +kernel
theorem d_M_find_8 : decode c_M_find 8 = .ok (.iastore, 1) := by decide +kernel
theorem d_M_find_9 : decode c_M_find 9 = .ok (.iload_n 1, 1) := by decide +kernel
theorem d_M_find_10 : decode c_M_find 10 = .ok (.ifCond .le 117, 3) := by decide +kernel
theorem d_M_find_13 : decode c_M_find 13 = .ok (.aload_n 0, 1) := by decide +kernel
theorem d_M_find_14 : decode c_M_find 14 = .ok (.getfield 47, 3) := by decide +kernel
theorem d_M_find_17 : decode c_M_find 17 = .ok (.iload_n 1, 1) := by decide +kernel
theorem d_M_find_18 : decode c_M_find 18 = .ok (.iaload, 1) := by decide +kernel
theorem d_M_find_19 : decode c_M_find 19 = .ok (.istore_n 2, 1) := by decide +kernel
theorem d_M_find_20 : decode c_M_find 20 = .ok (.iload_n 2, 1) := by decide +kernel
theorem d_M_find_21 : decode c_M_find 21 = .ok (.aload_n 0, 1) := by decide +kernel
theorem d_M_find_22 : decode c_M_find 22 = .ok (.getfield 63, 3) := by decide +kernel
theorem d_M_find_25 : decode c_M_find 25 = .ok (.if_icmp .ne 9, 3) := by decide +kernel
theorem d_M_find_28 : decode c_M_find 28 = .ok (.iinc 1 (-1), 3) := by decide +kernel
theorem d_M_find_31 : decode c_M_find 31 = .ok (.goto (-22), 3) := by decide +kernel
theorem d_M_find_34 : decode c_M_find 34 = .ok (.aload_n 0, 1) := by decide +kernel
theorem d_M_find_35 : decode c_M_find 35 = .ok (.getfield 47, 3) := by decide +kernel
theorem d_M_find_38 : decode c_M_find 38 = .ok (.iload_n 1, 1) := by decide +kernel
theorem d_M_find_39 : decode c_M_find 39 = .ok (.iload_n 2, 1) := by decide +kernel
theorem d_M_find_40 : decode c_M_find 40 = .ok (.iconst 1, 1) := by decide +kernel
theorem d_M_find_41 : decode c_M_find 41 = .ok (.iadd, 1) := by decide +kernel
theorem d_M_find_42 : decode c_M_find 42 = .ok (.iastore, 1) := by decide +kernel
theorem d_M_find_43 : decode c_M_find 43 = .ok (.aload_n 0, 1) := by decide +kernel
theorem d_M_find_44 : decode c_M_find 44 = .ok (.getfield 44, 3) := by decide +kernel
theorem d_M_find_47 : decode c_M_find 47 = .ok (.iload_n 1, 1) := by decide +kernel
theorem d_M_find_48 : decode c_M_find 48 = .ok (.iload_n 2, 1) := by decide +kernel
theorem d_M_find_49 : decode c_M_find 49 = .ok (.iastore, 1) := by decide +kernel
theorem d_M_find_50 : decode c_M_find 50 = .ok (.iload_n 1, 1) := by decide +kernel
theorem d_M_find_51 : decode c_M_find 51 = .ok (.iconst 1, 1) := by decide +kernel
theorem d_M_find_52 : decode c_M_find 52 = .ok (.if_icmp .le 25, 3) := by decide +kernel
theorem d_M_find_55 : decode c_M_find 55 = .ok (.aload_n 0, 1) := by decide +kernel
theorem d_M_find_56 : decode c_M_find 56 = .ok (.getfield 29, 3) := by decide +kernel
theorem d_M_find_59 : decode c_M_find 59 = .ok (.iload_n 2, 1) := by decide +kernel
theorem d_M_find_60 : decode c_M_find 60 = .ok (.iaload, 1) := by decide +kernel
theorem d_M_find_61 : decode c_M_find 61 = .ok (.aload_n 0, 1) := by decide +kernel
theorem d_M_find_62 : decode c_M_find 62 = .ok (.getfield 32, 3) := by decide +kernel
theorem d_M_find_65 : decode c_M_find 65 = .ok (.aload_n 0, 1) := by decide +kernel
theorem d_M_find_66 : decode c_M_find 66 = .ok (.getfield 44, 3) := by decide +kernel
theorem d_M_find_69 : decode c_M_find 69 = .ok (.iload_n 1, 1) := by decide +kernel
theorem d_M_find_70 : decode c_M_find 70 = .ok (.iconst 1, 1) := by decide +kernel
theorem d_M_find_71 : decode c_M_find 71 = .ok (.isub, 1) := by decide +kernel
theorem d_M_find_72 : decode c_M_find 72 = .ok (.iaload, 1) := by decide +kernel
theorem d_M_find_73 : decode c_M_find 73 = .ok (.iaload, 1) := by decide +kernel
theorem d_M_find_74 : decode c_M_find 74 = .ok (.if_icmp .ne (-65), 3) := by decide +kernel
theorem d_M_find_77 : decode c_M_find 77 = .ok (.aload_n 0, 1) := by decide +kernel
theorem d_M_find_78 : decode c_M_find 78 = .ok (.iconst 1, 1) := by decide +kernel
theorem d_M_find_79 : decode c_M_find 79 = .ok (.iload_n 1, 1) := by decide +kernel
theorem d_M_find_80 : decode c_M_find 80 = .ok (.iconst 1, 1) := by decide +kernel
theorem d_M_find_81 : decode c_M_find 81 = .ok (.iadd, 1) := by decide +kernel
theorem d_M_find_82 : decode c_M_find 82 = .ok (.invokevirtual 113, 3) := by decide +kernel
theorem d_M_find_85 : decode c_M_find 85 = .ok (.ifCond .ne 6, 3) := by decide +kernel
theorem d_M_find_88 : decode c_M_find 88 = .ok (.goto (-79), 3) := by decide +kernel
theorem d_M_find_91 : decode c_M_find 91 = .ok (.iload_n 1, 1) := by decide +kernel
theorem d_M_find_92 : decode c_M_find 92 = .ok (.bipush 40, 2) := by decide +kernel
theorem d_M_find_94 : decode c_M_find 94 = .ok (.if_icmp .gt 11, 3) := by decide +kernel
theorem d_M_find_97 : decode c_M_find 97 = .ok (.aload_n 0, 1) := by decide +kernel
theorem d_M_find_98 : decode c_M_find 98 = .ok (.iload_n 1, 1) := by decide +kernel
theorem d_M_find_99 : decode c_M_find 99 = .ok (.invokevirtual 122, 3) := by decide +kernel
theorem d_M_find_102 : decode c_M_find 102 = .ok (.ifCond .ne 5, 3) := by decide +kernel
theorem d_M_find_105 : decode c_M_find 105 = .ok (.iconst 0, 1) := by decide +kernel
theorem d_M_find_106 : decode c_M_find 106 = .ok (.ireturn, 1) := by decide +kernel
theorem d_M_find_107 : decode c_M_find 107 = .ok (.aload_n 0, 1) := by decide +kernel
theorem d_M_find_108 : decode c_M_find 108 = .ok (.getfield 44, 3) := by decide +kernel
theorem d_M_find_111 : decode c_M_find 111 = .ok (.iload_n 1, 1) := by decide +kernel
theorem d_M_find_112 : decode c_M_find 112 = .ok (.iload_n 2, 1) := by decide +kernel
theorem d_M_find_113 : decode c_M_find 113 = .ok (.iastore, 1) := by decide +kernel
theorem d_M_find_114 : decode c_M_find 114 = .ok (.iinc 1 1, 3) := by decide +kernel
theorem d_M_find_117 : decode c_M_find 117 = .ok (.aload_n 0, 1) := by decide +kernel
theorem d_M_find_118 : decode c_M_find 118 = .ok (.getfield 47, 3) := by decide +kernel
theorem d_M_find_121 : decode c_M_find 121 = .ok (.iload_n 1, 1) := by decide +kernel
theorem d_M_find_122 : decode c_M_find 122 = .ok (.iconst 0, 1) := by decide +kernel
theorem d_M_find_123 : decode c_M_find 123 = .ok (.iastore, 1) := by decide +kernel
theorem d_M_find_124 : decode c_M_find 124 = .ok (.goto (-115), 3) := by decide +kernel
theorem d_M_find_127 : decode c_M_find 127 = .ok (.iconst 1, 1) := by decide +kernel
theorem d_M_find_128 : decode c_M_find 128 = .ok (.ireturn, 1) := by decide +kernel
abbrev c_M_walks : ByteArray := prog_6_method_30_code
def y_M_walks : MethodName := ⟨"ReadGraphModel", "walks", "()I"⟩
theorem d_M_walks_0 : decode c_M_walks 0 = .ok (.aload_n 0, 1) := by decide +kernel
theorem d_M_walks_1 : decode c_M_walks 1 = .ok (.iconst 0, 1) := by decide +kernel
theorem d_M_walks_2 : decode c_M_walks 2 = .ok (.putfield 66, 3) := by decide +kernel
theorem d_M_walks_5 : decode c_M_walks 5 = .ok (.aload_n 0, 1) := by decide +kernel
theorem d_M_walks_6 : decode c_M_walks 6 = .ok (.invokevirtual 125, 3) := by decide +kernel
theorem d_M_walks_9 : decode c_M_walks 9 = .ok (.iconst 2, 1) := by decide +kernel
theorem d_M_walks_10 : decode c_M_walks 10 = .ok (.if_icmp .ne 14, 3) := by decide +kernel
theorem d_M_walks_13 : decode c_M_walks 13 = .ok (.aload_n 0, 1) := by decide +kernel
theorem d_M_walks_14 : decode c_M_walks 14 = .ok (.invokevirtual 129, 3) := by decide +kernel
theorem d_M_walks_17 : decode c_M_walks 17 = .ok (.ifCond .eq 7, 3) := by decide +kernel
theorem d_M_walks_20 : decode c_M_walks 20 = .ok (.iconst 1, 1) := by decide +kernel
theorem d_M_walks_21 : decode c_M_walks 21 = .ok (.goto 4, 3) := by decide +kernel
theorem d_M_walks_24 : decode c_M_walks 24 = .ok (.iconst 0, 1) := by decide +kernel
theorem d_M_walks_25 : decode c_M_walks 25 = .ok (.istore_n 1, 1) := by decide +kernel
theorem d_M_walks_26 : decode c_M_walks 26 = .ok (.aload_n 0, 1) := by decide +kernel
theorem d_M_walks_27 : decode c_M_walks 27 = .ok (.iload_n 1, 1) := by decide +kernel
theorem d_M_walks_28 : decode c_M_walks 28 = .ok (.ifCond .eq 10, 3) := by decide +kernel
theorem d_M_walks_31 : decode c_M_walks 31 = .ok (.aload_n 0, 1) := by decide +kernel
theorem d_M_walks_32 : decode c_M_walks 32 = .ok (.getfield 66, 3) := by decide +kernel
theorem d_M_walks_35 : decode c_M_walks 35 = .ok (.goto 4, 3) := by decide +kernel
theorem d_M_walks_38 : decode c_M_walks 38 = .ok (.iconst 0, 1) := by decide +kernel
theorem d_M_walks_39 : decode c_M_walks 39 = .ok (.putfield 66, 3) := by decide +kernel
theorem d_M_walks_42 : decode c_M_walks 42 = .ok (.aload_n 0, 1) := by decide +kernel
theorem d_M_walks_43 : decode c_M_walks 43 = .ok (.iload_n 1, 1) := by decide +kernel
theorem d_M_walks_44 : decode c_M_walks 44 = .ok (.ifCond .ne 7, 3) := by decide +kernel
theorem d_M_walks_47 : decode c_M_walks 47 = .ok (.iconst 1, 1) := by decide +kernel
theorem d_M_walks_48 : decode c_M_walks 48 = .ok (.goto 4, 3) := by decide +kernel
theorem d_M_walks_51 : decode c_M_walks 51 = .ok (.iconst 0, 1) := by decide +kernel
theorem d_M_walks_52 : decode c_M_walks 52 = .ok (.iconst 0, 1) := by decide +kernel
theorem d_M_walks_53 : decode c_M_walks 53 = .ok (.invokevirtual 80, 3) := by decide +kernel
theorem d_M_walks_56 : decode c_M_walks 56 = .ok (.ifCond .eq 7, 3) := by decide +kernel
theorem d_M_walks_59 : decode c_M_walks 59 = .ok (.iconst 0, 1) := by decide +kernel
theorem d_M_walks_60 : decode c_M_walks 60 = .ok (.goto 7, 3) := by decide +kernel
theorem d_M_walks_63 : decode c_M_walks 63 = .ok (.aload_n 0, 1) := by decide +kernel
theorem d_M_walks_64 : decode c_M_walks 64 = .ok (.getfield 66, 3) := by decide +kernel
theorem d_M_walks_67 : decode c_M_walks 67 = .ok (.ireturn, 1) := by decide +kernel
abbrev c_M_walk : ByteArray := prog_6_method_31_code
def y_M_walk : MethodName := ⟨"ReadGraphModel", "walk", "(II)I"⟩
theorem d_M_walk_0 : decode c_M_walk 0 = .ok (.iload_n 1, 1) := by decide +kernel
theorem d_M_walk_1 : decode c_M_walk 1 = .ok (.aload_n 0, 1) := by decide +kernel
theorem d_M_walk_2 : decode c_M_walk 2 = .ok (.getfield 66, 3) := by decide +kernel
theorem d_M_walk_5 : decode c_M_walk 5 = .ok (.invokestatic 73, 3) := by decide +kernel
theorem d_M_walk_8 : decode c_M_walk 8 = .ok (.istore_n 3, 1) := by decide +kernel
theorem d_M_walk_9 : decode c_M_walk 9 = .ok (.aload_n 0, 1) := by decide +kernel
theorem d_M_walk_10 : decode c_M_walk 10 = .ok (.iload_n 3, 1) := by decide +kernel
theorem d_M_walk_11 : decode c_M_walk 11 = .ok (.iload_n 3, 1) := by decide +kernel
theorem d_M_walk_12 : decode c_M_walk 12 = .ok (.ifCond .ne 22, 3) := by decide +kernel
theorem d_M_walk_15 : decode c_M_walk 15 = .ok (.iload_n 2, 1) := by decide +kernel
theorem d_M_walk_16 : decode c_M_walk 16 = .ok (.iconst (-1), 1) := by decide +kernel
theorem d_M_walk_17 : decode c_M_walk 17 = .ok (.if_icmp .lt 13, 3) := by decide +kernel
theorem d_M_walk_20 : decode c_M_walk 20 = .ok (.iload_n 2, 1) := by decide +kernel
theorem d_M_walk_21 : decode c_M_walk 21 = .ok (.aload_n 0, 1) := by decide +kernel
theorem d_M_walk_22 : decode c_M_walk 22 = .ok (.getfield 50, 3) := by decide +kernel
theorem d_M_walk_25 : decode c_M_walk 25 = .ok (.iload_n 1, 1) := by decide +kernel
theorem d_M_walk_26 : decode c_M_walk 26 = .ok (.iaload, 1) := by decide +kernel
theorem d_M_walk_27 : decode c_M_walk 27 = .ok (.if_icmp .lt 7, 3) := by decide +kernel
theorem d_M_walk_30 : decode c_M_walk 30 = .ok (.iconst 1, 1) := by decide +kernel
theorem d_M_walk_31 : decode c_M_walk 31 = .ok (.goto 4, 3) := by decide +kernel
theorem d_M_walk_34 : decode c_M_walk 34 = .ok (.iconst 0, 1) := by decide +kernel
theorem d_M_walk_35 : decode c_M_walk 35 = .ok (.invokevirtual 80, 3) := by decide +kernel
theorem d_M_walk_38 : decode c_M_walk 38 = .ok (.ifCond .eq 5, 3) := by decide +kernel
theorem d_M_walk_41 : decode c_M_walk 41 = .ok (.iconst 0, 1) := by decide +kernel
theorem d_M_walk_42 : decode c_M_walk 42 = .ok (.ireturn, 1) := by decide +kernel
theorem d_M_walk_43 : decode c_M_walk 43 = .ok (.iload_n 2, 1) := by decide +kernel
theorem d_M_walk_44 : decode c_M_walk 44 = .ok (.ifCond .ge 12, 3) := by decide +kernel
theorem d_M_walk_47 : decode c_M_walk 47 = .ok (.aload_n 0, 1) := by decide +kernel
theorem d_M_walk_48 : decode c_M_walk 48 = .ok (.getfield 50, 3) := by decide +kernel
theorem d_M_walk_51 : decode c_M_walk 51 = .ok (.iload_n 1, 1) := by decide +kernel
theorem d_M_walk_52 : decode c_M_walk 52 = .ok (.iaload, 1) := by decide +kernel
theorem d_M_walk_53 : decode c_M_walk 53 = .ok (.goto 14, 3) := by decide +kernel
theorem d_M_walk_56 : decode c_M_walk 56 = .ok (.aload_n 0, 1) := by decide +kernel
theorem d_M_walk_57 : decode c_M_walk 57 = .ok (.getfield 53, 3) := by decide +kernel
theorem d_M_walk_60 : decode c_M_walk 60 = .ok (.bipush 40, 2) := by decide +kernel
theorem d_M_walk_62 : decode c_M_walk 62 = .ok (.iload_n 1, 1) := by decide +kernel
theorem d_M_walk_63 : decode c_M_walk 63 = .ok (.imul, 1) := by decide +kernel
theorem d_M_walk_64 : decode c_M_walk 64 = .ok (.iload_n 2, 1) := by decide +kernel
theorem d_M_walk_65 : decode c_M_walk 65 = .ok (.iadd, 1) := by decide +kernel
theorem d_M_walk_66 : decode c_M_walk 66 = .ok (.iaload, 1) := by decide +kernel
theorem d_M_walk_67 : decode c_M_walk 67 = .ok (.ireturn, 1) := by decide +kernel
abbrev c_M_spell : ByteArray := prog_6_method_32_code
def y_M_spell : MethodName := ⟨"ReadGraphModel", "spell", "(II)I"⟩
theorem d_M_spell_0 : decode c_M_spell 0 = .ok (.iconst 0, 1) := by decide +kernel
theorem d_M_spell_1 : decode c_M_spell 1 = .ok (.istore_n 3, 1) := by decide +kernel
theorem d_M_spell_2 : decode c_M_spell 2 = .ok (.aload_n 0, 1) := by decide +kernel
theorem d_M_spell_3 : decode c_M_spell 3 = .ok (.getfield 29, 3) := by decide +kernel
theorem d_M_spell_6 : decode c_M_spell 6 = .ok (.aload_n 0, 1) := by decide +kernel
theorem d_M_spell_7 : decode c_M_spell 7 = .ok (.getfield 53, 3) := by decide +kernel
theorem d_M_spell_10 : decode c_M_spell 10 = .ok (.bipush 40, 2) := by decide +kernel
theorem d_M_spell_12 : decode c_M_spell 12 = .ok (.iload_n 1, 1) := by decide +kernel
theorem d_M_spell_13 : decode c_M_spell 13 = .ok (.imul, 1) := by decide +kernel
theorem d_M_spell_14 : decode c_M_spell 14 = .ok (.iaload, 1) := by decide +kernel
theorem d_M_spell_15 : decode c_M_spell 15 = .ok (.iaload, 1) := by decide +kernel
theorem d_M_spell_16 : decode c_M_spell 16 = .ok (.istore 4, 2) := by decide +kernel
theorem d_M_spell_18 : decode c_M_spell 18 = .ok (.iconst 0, 1) := by decide +kernel
theorem d_M_spell_19 : decode c_M_spell 19 = .ok (.istore 5, 2) := by decide +kernel
theorem d_M_spell_21 : decode c_M_spell 21 = .ok (.iload 5, 2) := by decide +kernel
theorem d_M_spell_23 : decode c_M_spell 23 = .ok (.aload_n 0, 1) := by decide +kernel
theorem d_M_spell_24 : decode c_M_spell 24 = .ok (.getfield 7, 3) := by decide +kernel
theorem d_M_spell_27 : decode c_M_spell 27 = .ok (.iload 4, 2) := by decide +kernel
theorem d_M_spell_29 : decode c_M_spell 29 = .ok (.iaload, 1) := by decide +kernel
theorem d_M_spell_30 : decode c_M_spell 30 = .ok (.if_icmp .ge 31, 3) := by decide +kernel
theorem d_M_spell_33 : decode c_M_spell 33 = .ok (.iload_n 3, 1) := by decide +kernel
theorem d_M_spell_34 : decode c_M_spell 34 = .ok (.iload_n 2, 1) := by decide +kernel
theorem d_M_spell_35 : decode c_M_spell 35 = .ok (.if_icmp .ne 17, 3) := by decide +kernel
theorem d_M_spell_38 : decode c_M_spell 38 = .ok (.aload_n 0, 1) := by decide +kernel
theorem d_M_spell_39 : decode c_M_spell 39 = .ok (.getfield 13, 3) := by decide +kernel
theorem d_M_spell_42 : decode c_M_spell 42 = .ok (.bipush 12, 2) := by decide +kernel
theorem d_M_spell_44 : decode c_M_spell 44 = .ok (.iload 4, 2) := by decide +kernel
theorem d_M_spell_46 : decode c_M_spell 46 = .ok (.imul, 1) := by decide +kernel
theorem d_M_spell_47 : decode c_M_spell 47 = .ok (.iload 5, 2) := by decide +kernel
theorem d_M_spell_49 : decode c_M_spell 49 = .ok (.iadd, 1) := by decide +kernel
theorem d_M_spell_50 : decode c_M_spell 50 = .ok (.iaload, 1) := by decide +kernel
theorem d_M_spell_51 : decode c_M_spell 51 = .ok (.ireturn, 1) := by decide +kernel
theorem d_M_spell_52 : decode c_M_spell 52 = .ok (.iinc 3 1, 3) := by decide +kernel
theorem d_M_spell_55 : decode c_M_spell 55 = .ok (.iinc 5 1, 3) := by decide +kernel
theorem d_M_spell_58 : decode c_M_spell 58 = .ok (.goto (-37), 3) := by decide +kernel
theorem d_M_spell_61 : decode c_M_spell 61 = .ok (.iconst 0, 1) := by decide +kernel
theorem d_M_spell_62 : decode c_M_spell 62 = .ok (.istore 5, 2) := by decide +kernel
theorem d_M_spell_64 : decode c_M_spell 64 = .ok (.iload 5, 2) := by decide +kernel
theorem d_M_spell_66 : decode c_M_spell 66 = .ok (.aload_n 0, 1) := by decide +kernel
theorem d_M_spell_67 : decode c_M_spell 67 = .ok (.getfield 50, 3) := by decide +kernel
theorem d_M_spell_70 : decode c_M_spell 70 = .ok (.iload_n 1, 1) := by decide +kernel
theorem d_M_spell_71 : decode c_M_spell 71 = .ok (.iaload, 1) := by decide +kernel
theorem d_M_spell_72 : decode c_M_spell 72 = .ok (.if_icmp .ge 82, 3) := by decide +kernel
theorem d_M_spell_75 : decode c_M_spell 75 = .ok (.aload_n 0, 1) := by decide +kernel
theorem d_M_spell_76 : decode c_M_spell 76 = .ok (.getfield 53, 3) := by decide +kernel
theorem d_M_spell_79 : decode c_M_spell 79 = .ok (.bipush 40, 2) := by decide +kernel
theorem d_M_spell_81 : decode c_M_spell 81 = .ok (.iload_n 1, 1) := by decide +kernel
theorem d_M_spell_82 : decode c_M_spell 82 = .ok (.imul, 1) := by decide +kernel
theorem d_M_spell_83 : decode c_M_spell 83 = .ok (.iload 5, 2) := by decide +kernel
theorem d_M_spell_85 : decode c_M_spell 85 = .ok (.iadd, 1) := by decide +kernel
theorem d_M_spell_86 : decode c_M_spell 86 = .ok (.iaload, 1) := by decide +kernel
theorem d_M_spell_87 : decode c_M_spell 87 = .ok (.istore 6, 2) := by decide +kernel
theorem d_M_spell_89 : decode c_M_spell 89 = .ok (.aload_n 0, 1) := by decide +kernel
theorem d_M_spell_90 : decode c_M_spell 90 = .ok (.getfield 35, 3) := by decide +kernel
theorem d_M_spell_93 : decode c_M_spell 93 = .ok (.iload 6, 2) := by decide +kernel
theorem d_M_spell_95 : decode c_M_spell 95 = .ok (.iaload, 1) := by decide +kernel
theorem d_M_spell_96 : decode c_M_spell 96 = .ok (.istore 7, 2) := by decide +kernel
theorem d_M_spell_98 : decode c_M_spell 98 = .ok (.iload 7, 2) := by decide +kernel
theorem d_M_spell_100 : decode c_M_spell 100 = .ok (.aload_n 0, 1) := by decide +kernel
theorem d_M_spell_101 : decode c_M_spell 101 = .ok (.getfield 7, 3) := by decide +kernel
theorem d_M_spell_104 : decode c_M_spell 104 = .ok (.aload_n 0, 1) := by decide +kernel
theorem d_M_spell_105 : decode c_M_spell 105 = .ok (.getfield 32, 3) := by decide +kernel
theorem d_M_spell_108 : decode c_M_spell 108 = .ok (.iload 6, 2) := by decide +kernel
theorem d_M_spell_110 : decode c_M_spell 110 = .ok (.iaload, 1) := by decide +kernel
theorem d_M_spell_111 : decode c_M_spell 111 = .ok (.iaload, 1) := by decide +kernel
theorem d_M_spell_112 : decode c_M_spell 112 = .ok (.if_icmp .ge 36, 3) := by decide +kernel
theorem d_M_spell_115 : decode c_M_spell 115 = .ok (.iload_n 3, 1) := by decide +kernel
theorem d_M_spell_116 : decode c_M_spell 116 = .ok (.iload_n 2, 1) := by decide +kernel
theorem d_M_spell_117 : decode c_M_spell 117 = .ok (.if_icmp .ne 22, 3) := by decide +kernel
theorem d_M_spell_120 : decode c_M_spell 120 = .ok (.aload_n 0, 1) := by decide +kernel
theorem d_M_spell_121 : decode c_M_spell 121 = .ok (.getfield 13, 3) := by decide +kernel
theorem d_M_spell_124 : decode c_M_spell 124 = .ok (.bipush 12, 2) := by decide +kernel
theorem d_M_spell_126 : decode c_M_spell 126 = .ok (.aload_n 0, 1) := by decide +kernel
theorem d_M_spell_127 : decode c_M_spell 127 = .ok (.getfield 32, 3) := by decide +kernel
theorem d_M_spell_130 : decode c_M_spell 130 = .ok (.iload 6, 2) := by decide +kernel
theorem d_M_spell_132 : decode c_M_spell 132 = .ok (.iaload, 1) := by decide +kernel
theorem d_M_spell_133 : decode c_M_spell 133 = .ok (.imul, 1) := by decide +kernel
theorem d_M_spell_134 : decode c_M_spell 134 = .ok (.iload 7, 2) := by decide +kernel
theorem d_M_spell_136 : decode c_M_spell 136 = .ok (.iadd, 1) := by decide +kernel
theorem d_M_spell_137 : decode c_M_spell 137 = .ok (.iaload, 1) := by decide +kernel
theorem d_M_spell_138 : decode c_M_spell 138 = .ok (.ireturn, 1) := by decide +kernel
theorem d_M_spell_139 : decode c_M_spell 139 = .ok (.iinc 3 1, 3) := by decide +kernel
theorem d_M_spell_142 : decode c_M_spell 142 = .ok (.iinc 7 1, 3) := by decide +kernel
theorem d_M_spell_145 : decode c_M_spell 145 = .ok (.goto (-47), 3) := by decide +kernel
theorem d_M_spell_148 : decode c_M_spell 148 = .ok (.iinc 5 1, 3) := by decide +kernel
theorem d_M_spell_151 : decode c_M_spell 151 = .ok (.goto (-87), 3) := by decide +kernel
theorem d_M_spell_154 : decode c_M_spell 154 = .ok (.iconst (-1), 1) := by decide +kernel
theorem d_M_spell_155 : decode c_M_spell 155 = .ok (.iload_n 3, 1) := by decide +kernel
theorem d_M_spell_156 : decode c_M_spell 156 = .ok (.isub, 1) := by decide +kernel
theorem d_M_spell_157 : decode c_M_spell 157 = .ok (.ireturn, 1) := by decide +kernel
abbrev c_M_spelled : ByteArray := prog_6_method_33_code
def y_M_spelled : MethodName := ⟨"ReadGraphModel", "spelled", "(II)I"⟩
theorem d_M_spelled_0 : decode c_M_spelled 0 = .ok (.iload_n 1, 1) := by decide +kernel
theorem d_M_spelled_1 : decode c_M_spelled 1 = .ok (.aload_n 0, 1) := by decide +kernel
theorem d_M_spelled_2 : decode c_M_spelled 2 = .ok (.getfield 66, 3) := by decide +kernel
theorem d_M_spelled_5 : decode c_M_spelled 5 = .ok (.invokestatic 73, 3) := by decide +kernel
theorem d_M_spelled_8 : decode c_M_spelled 8 = .ok (.istore_n 3, 1) := by decide +kernel
theorem d_M_spelled_9 : decode c_M_spelled 9 = .ok (.iload_n 3, 1) := by decide +kernel
theorem d_M_spelled_10 : decode c_M_spelled 10 = .ok (.ifCond .eq 7, 3) := by decide +kernel
theorem d_M_spelled_13 : decode c_M_spelled 13 = .ok (.iconst 0, 1) := by decide +kernel
theorem d_M_spelled_14 : decode c_M_spelled 14 = .ok (.goto 9, 3) := by decide +kernel
theorem d_M_spelled_17 : decode c_M_spelled 17 = .ok (.aload_n 0, 1) := by decide +kernel
theorem d_M_spelled_18 : decode c_M_spelled 18 = .ok (.iload_n 1, 1) := by decide +kernel
theorem d_M_spelled_19 : decode c_M_spelled 19 = .ok (.iload_n 2, 1) := by decide +kernel
theorem d_M_spelled_20 : decode c_M_spelled 20 = .ok (.invokevirtual 133, 3) := by decide +kernel
theorem d_M_spelled_23 : decode c_M_spelled 23 = .ok (.istore 4, 2) := by decide +kernel
theorem d_M_spelled_25 : decode c_M_spelled 25 = .ok (.aload_n 0, 1) := by decide +kernel
theorem d_M_spelled_26 : decode c_M_spelled 26 = .ok (.iload_n 3, 1) := by decide +kernel
theorem d_M_spelled_27 : decode c_M_spelled 27 = .ok (.iload_n 2, 1) := by decide +kernel
theorem d_M_spelled_28 : decode c_M_spelled 28 = .ok (.iconst (-1), 1) := by decide +kernel
theorem d_M_spelled_29 : decode c_M_spelled 29 = .ok (.if_icmp .lt 12, 3) := by decide +kernel
theorem d_M_spelled_32 : decode c_M_spelled 32 = .ok (.iload_n 2, 1) := by decide +kernel
theorem d_M_spelled_33 : decode c_M_spelled 33 = .ok (.ifCond .lt 12, 3) := by decide +kernel
theorem d_M_spelled_36 : decode c_M_spelled 36 = .ok (.iload 4, 2) := by decide +kernel
theorem d_M_spelled_38 : decode c_M_spelled 38 = .ok (.ifCond .ge 7, 3) := by decide +kernel
theorem d_M_spelled_41 : decode c_M_spelled 41 = .ok (.iconst 1, 1) := by decide +kernel
theorem d_M_spelled_42 : decode c_M_spelled 42 = .ok (.goto 4, 3) := by decide +kernel
theorem d_M_spelled_45 : decode c_M_spelled 45 = .ok (.iconst 0, 1) := by decide +kernel
theorem d_M_spelled_46 : decode c_M_spelled 46 = .ok (.invokevirtual 80, 3) := by decide +kernel
theorem d_M_spelled_49 : decode c_M_spelled 49 = .ok (.ifCond .eq 5, 3) := by decide +kernel
theorem d_M_spelled_52 : decode c_M_spelled 52 = .ok (.iconst 0, 1) := by decide +kernel
theorem d_M_spelled_53 : decode c_M_spelled 53 = .ok (.ireturn, 1) := by decide +kernel
theorem d_M_spelled_54 : decode c_M_spelled 54 = .ok (.iload_n 2, 1) := by decide +kernel
theorem d_M_spelled_55 : decode c_M_spelled 55 = .ok (.ifCond .ge 10, 3) := by decide +kernel
theorem d_M_spelled_58 : decode c_M_spelled 58 = .ok (.iconst (-1), 1) := by decide +kernel
theorem d_M_spelled_59 : decode c_M_spelled 59 = .ok (.iload 4, 2) := by decide +kernel
theorem d_M_spelled_61 : decode c_M_spelled 61 = .ok (.isub, 1) := by decide +kernel
theorem d_M_spelled_62 : decode c_M_spelled 62 = .ok (.goto 5, 3) := by decide +kernel
theorem d_M_spelled_65 : decode c_M_spelled 65 = .ok (.iload 4, 2) := by decide +kernel
theorem d_M_spelled_67 : decode c_M_spelled 67 = .ok (.ireturn, 1) := by decide +kernel
end
section
/-! names and decode rows: the law (by program) -/
abbrev c_L_read : ByteArray := method_3_code
def y_L_read : MethodName := ⟨"ReadGraphLaw", "read", "(LReadGraph;II[J)I"⟩
theorem d_L_read_0 : decode c_L_read 0 = .ok (.aload_n 3, 1) := by decide +kernel
theorem d_L_read_1 : decode c_L_read 1 = .ok (.iconst 0, 1) := by decide +kernel
theorem d_L_read_2 : decode c_L_read 2 = .ok (.aload_n 0, 1) := by decide +kernel
theorem d_L_read_3 : decode c_L_read 3 = .ok (.iload_n 1, 1) := by decide +kernel
theorem d_L_read_4 : decode c_L_read 4 = .ok (.iload_n 2, 1) := by decide +kernel
theorem d_L_read_5 : decode c_L_read 5 = .ok (.invokevirtual 7, 3) := by decide +kernel
theorem d_L_read_8 : decode c_L_read 8 = .ok (.i2l, 1) := by decide +kernel
theorem d_L_read_9 : decode c_L_read 9 = .ok (.lastore, 1) := by decide +kernel
theorem d_L_read_10 : decode c_L_read 10 = .ok (.goto 11, 3) := by decide +kernel
theorem d_L_read_13 : decode c_L_read 13 = .ok (.astore 4, 2) := by decide +kernel
theorem d_L_read_15 : decode c_L_read 15 = .ok (.iconst 1, 1) := by decide +kernel
theorem d_L_read_16 : decode c_L_read 16 = .ok (.ireturn, 1) := by decide +kernel
theorem d_L_read_17 : decode c_L_read 17 = .ok (.astore 4, 2) := by decide +kernel
theorem d_L_read_19 : decode c_L_read 19 = .ok (.iconst 2, 1) := by decide +kernel
theorem d_L_read_20 : decode c_L_read 20 = .ok (.ireturn, 1) := by decide +kernel
theorem d_L_read_21 : decode c_L_read 21 = .ok (.iconst 0, 1) := by decide +kernel
theorem d_L_read_22 : decode c_L_read 22 = .ok (.ireturn, 1) := by decide +kernel
abbrev c_L_letter : ByteArray := method_4_code
def y_L_letter : MethodName := ⟨"ReadGraphLaw", "letter", "(LReadGraph;II[J)I"⟩
theorem d_L_letter_0 : decode c_L_letter 0 = .ok (.aload_n 3, 1) := by decide +kernel
theorem d_L_letter_1 : decode c_L_letter 1 = .ok (.iconst 0, 1) := by decide +kernel
theorem d_L_letter_2 : decode c_L_letter 2 = .ok (.aload_n 0, 1) := by decide +kernel
theorem d_L_letter_3 : decode c_L_letter 3 = .ok (.iload_n 1, 1) := by decide +kernel
theorem d_L_letter_4 : decode c_L_letter 4 = .ok (.iload_n 2, 1) := by decide +kernel
theorem d_L_letter_5 : decode c_L_letter 5 = .ok (.invokevirtual 17, 3) := by decide +kernel
theorem d_L_letter_8 : decode c_L_letter 8 = .ok (.i2l, 1) := by decide +kernel
theorem d_L_letter_9 : decode c_L_letter 9 = .ok (.lastore, 1) := by decide +kernel
theorem d_L_letter_10 : decode c_L_letter 10 = .ok (.goto 11, 3) := by decide +kernel
theorem d_L_letter_13 : decode c_L_letter 13 = .ok (.astore 4, 2) := by decide +kernel
theorem d_L_letter_15 : decode c_L_letter 15 = .ok (.iconst 1, 1) := by decide +kernel
theorem d_L_letter_16 : decode c_L_letter 16 = .ok (.ireturn, 1) := by decide +kernel
theorem d_L_letter_17 : decode c_L_letter 17 = .ok (.astore 4, 2) := by decide +kernel
theorem d_L_letter_19 : decode c_L_letter 19 = .ok (.iconst 2, 1) := by decide +kernel
theorem d_L_letter_20 : decode c_L_letter 20 = .ok (.ireturn, 1) := by decide +kernel
theorem d_L_letter_21 : decode c_L_letter 21 = .ok (.iconst 0, 1) := by decide +kernel
theorem d_L_letter_22 : decode c_L_letter 22 = .ok (.ireturn, 1) := by decide +kernel
abbrev c_L_contained : ByteArray := method_5_code
def y_L_contained : MethodName := ⟨"ReadGraphLaw", "contained", "(LReadGraph;I[J)I"⟩
theorem d_L_contained_0 : decode c_L_contained 0 = .ok (.aload_n 2, 1) := by decide +kernel
theorem d_L_contained_1 : decode c_L_contained 1 = .ok (.iconst 0, 1) := by decide +kernel
theorem d_L_contained_2 : decode c_L_contained 2 = .ok (.aload_n 0, 1) := by decide +kernel
theorem d_L_contained_3 : decode c_L_contained 3 = .ok (.iload_n 1, 1) := by decide +kernel
theorem d_L_contained_4 : decode c_L_contained 4 = .ok (.invokevirtual 22, 3) := by decide +kernel
theorem d_L_contained_7 : decode c_L_contained 7 = .ok (.ifCond .eq 7, 3) := by decide +kernel
theorem d_L_contained_10 : decode c_L_contained 10 = .ok (.lconst 1, 1) := by decide +kernel
theorem d_L_contained_11 : decode c_L_contained 11 = .ok (.goto 4, 3) := by decide +kernel
theorem d_L_contained_14 : decode c_L_contained 14 = .ok (.lconst 0, 1) := by decide +kernel
theorem d_L_contained_15 : decode c_L_contained 15 = .ok (.lastore, 1) := by decide +kernel
theorem d_L_contained_16 : decode c_L_contained 16 = .ok (.goto 6, 3) := by decide +kernel
theorem d_L_contained_19 : decode c_L_contained 19 = .ok (.astore_n 3, 1) := by decide +kernel
theorem d_L_contained_20 : decode c_L_contained 20 = .ok (.iconst 1, 1) := by decide +kernel
theorem d_L_contained_21 : decode c_L_contained 21 = .ok (.ireturn, 1) := by decide +kernel
theorem d_L_contained_22 : decode c_L_contained 22 = .ok (.iconst 0, 1) := by decide +kernel
theorem d_L_contained_23 : decode c_L_contained 23 = .ok (.ireturn, 1) := by decide +kernel
abbrev c_L_overlap : ByteArray := method_6_code
def y_L_overlap : MethodName := ⟨"ReadGraphLaw", "overlap", "(LReadGraph;III[J)I"⟩
theorem d_L_overlap_0 : decode c_L_overlap 0 = .ok (.aload 4, 2) := by decide +kernel
theorem d_L_overlap_2 : decode c_L_overlap 2 = .ok (.iconst 0, 1) := by decide +kernel
theorem d_L_overlap_3 : decode c_L_overlap 3 = .ok (.aload_n 0, 1) := by decide +kernel
theorem d_L_overlap_4 : decode c_L_overlap 4 = .ok (.iload_n 1, 1) := by decide +kernel
theorem d_L_overlap_5 : decode c_L_overlap 5 = .ok (.iload_n 2, 1) := by decide +kernel
theorem d_L_overlap_6 : decode c_L_overlap 6 = .ok (.iload_n 3, 1) := by decide +kernel
theorem d_L_overlap_7 : decode c_L_overlap 7 = .ok (.invokevirtual 26, 3) := by decide +kernel
theorem d_L_overlap_10 : decode c_L_overlap 10 = .ok (.i2l, 1) := by decide +kernel
theorem d_L_overlap_11 : decode c_L_overlap 11 = .ok (.lastore, 1) := by decide +kernel
theorem d_L_overlap_12 : decode c_L_overlap 12 = .ok (.goto 7, 3) := by decide +kernel
theorem d_L_overlap_15 : decode c_L_overlap 15 = .ok (.astore 5, 2) := by decide +kernel
theorem d_L_overlap_17 : decode c_L_overlap 17 = .ok (.iconst 1, 1) := by decide +kernel
theorem d_L_overlap_18 : decode c_L_overlap 18 = .ok (.ireturn, 1) := by decide +kernel
theorem d_L_overlap_19 : decode c_L_overlap 19 = .ok (.iconst 0, 1) := by decide +kernel
theorem d_L_overlap_20 : decode c_L_overlap 20 = .ok (.ireturn, 1) := by decide +kernel
abbrev c_L_build : ByteArray := method_7_code
def y_L_build : MethodName := ⟨"ReadGraphLaw", "build", "(LReadGraph;I[J)I"⟩
theorem d_L_build_0 : decode c_L_build 0 = .ok (.aload_n 2, 1) := by decide +kernel
theorem d_L_build_1 : decode c_L_build 1 = .ok (.iconst 0, 1) := by decide +kernel
theorem d_L_build_2 : decode c_L_build 2 = .ok (.aload_n 0, 1) := by decide +kernel
theorem d_L_build_3 : decode c_L_build 3 = .ok (.iload_n 1, 1) := by decide +kernel
theorem d_L_build_4 : decode c_L_build 4 = .ok (.invokevirtual 30, 3) := by decide +kernel
theorem d_L_build_7 : decode c_L_build 7 = .ok (.i2l, 1) := by decide +kernel
theorem d_L_build_8 : decode c_L_build 8 = .ok (.lastore, 1) := by decide +kernel
theorem d_L_build_9 : decode c_L_build 9 = .ok (.goto 6, 3) := by decide +kernel
theorem d_L_build_12 : decode c_L_build 12 = .ok (.astore_n 3, 1) := by decide +kernel
theorem d_L_build_13 : decode c_L_build 13 = .ok (.iconst 1, 1) := by decide +kernel
theorem d_L_build_14 : decode c_L_build 14 = .ok (.ireturn, 1) := by decide +kernel
theorem d_L_build_15 : decode c_L_build 15 = .ok (.iconst 0, 1) := by decide +kernel
theorem d_L_build_16 : decode c_L_build 16 = .ok (.ireturn, 1) := by decide +kernel
abbrev c_L_edge : ByteArray := method_8_code
def y_L_edge : MethodName := ⟨"ReadGraphLaw", "edge", "(LReadGraph;II[J)I"⟩
theorem d_L_edge_0 : decode c_L_edge 0 = .ok (.aload_n 3, 1) := by decide +kernel
theorem d_L_edge_1 : decode c_L_edge 1 = .ok (.iconst 0, 1) := by decide +kernel
theorem d_L_edge_2 : decode c_L_edge 2 = .ok (.aload_n 0, 1) := by decide +kernel
theorem d_L_edge_3 : decode c_L_edge 3 = .ok (.iload_n 1, 1) := by decide +kernel
theorem d_L_edge_4 : decode c_L_edge 4 = .ok (.iload_n 2, 1) := by decide +kernel
theorem d_L_edge_5 : decode c_L_edge 5 = .ok (.invokevirtual 34, 3) := by decide +kernel
theorem d_L_edge_8 : decode c_L_edge 8 = .ok (.i2l, 1) := by decide +kernel
theorem d_L_edge_9 : decode c_L_edge 9 = .ok (.lastore, 1) := by decide +kernel
theorem d_L_edge_10 : decode c_L_edge 10 = .ok (.goto 11, 3) := by decide +kernel
theorem d_L_edge_13 : decode c_L_edge 13 = .ok (.astore 4, 2) := by decide +kernel
theorem d_L_edge_15 : decode c_L_edge 15 = .ok (.iconst 1, 1) := by decide +kernel
theorem d_L_edge_16 : decode c_L_edge 16 = .ok (.ireturn, 1) := by decide +kernel
theorem d_L_edge_17 : decode c_L_edge 17 = .ok (.astore 4, 2) := by decide +kernel
theorem d_L_edge_19 : decode c_L_edge 19 = .ok (.iconst 2, 1) := by decide +kernel
theorem d_L_edge_20 : decode c_L_edge 20 = .ok (.ireturn, 1) := by decide +kernel
theorem d_L_edge_21 : decode c_L_edge 21 = .ok (.iconst 0, 1) := by decide +kernel
theorem d_L_edge_22 : decode c_L_edge 22 = .ok (.ireturn, 1) := by decide +kernel
abbrev c_L_way : ByteArray := method_9_code
def y_L_way : MethodName := ⟨"ReadGraphLaw", "way", "(LReadGraph;II[J)I"⟩
theorem d_L_way_0 : decode c_L_way 0 = .ok (.aload_n 3, 1) := by decide +kernel
theorem d_L_way_1 : decode c_L_way 1 = .ok (.iconst 0, 1) := by decide +kernel
theorem d_L_way_2 : decode c_L_way 2 = .ok (.aload_n 0, 1) := by decide +kernel
theorem d_L_way_3 : decode c_L_way 3 = .ok (.iload_n 1, 1) := by decide +kernel
theorem d_L_way_4 : decode c_L_way 4 = .ok (.iload_n 2, 1) := by decide +kernel
theorem d_L_way_5 : decode c_L_way 5 = .ok (.invokevirtual 39, 3) := by decide +kernel
theorem d_L_way_8 : decode c_L_way 8 = .ok (.ifCond .eq 7, 3) := by decide +kernel
theorem d_L_way_11 : decode c_L_way 11 = .ok (.lconst 1, 1) := by decide +kernel
theorem d_L_way_12 : decode c_L_way 12 = .ok (.goto 4, 3) := by decide +kernel
theorem d_L_way_15 : decode c_L_way 15 = .ok (.lconst 0, 1) := by decide +kernel
theorem d_L_way_16 : decode c_L_way 16 = .ok (.lastore, 1) := by decide +kernel
theorem d_L_way_17 : decode c_L_way 17 = .ok (.goto 7, 3) := by decide +kernel
theorem d_L_way_20 : decode c_L_way 20 = .ok (.astore 4, 2) := by decide +kernel
theorem d_L_way_22 : decode c_L_way 22 = .ok (.iconst 1, 1) := by decide +kernel
theorem d_L_way_23 : decode c_L_way 23 = .ok (.ireturn, 1) := by decide +kernel
theorem d_L_way_24 : decode c_L_way 24 = .ok (.iconst 0, 1) := by decide +kernel
theorem d_L_way_25 : decode c_L_way 25 = .ok (.ireturn, 1) := by decide +kernel
abbrev c_L_safe : ByteArray := method_10_code
def y_L_safe : MethodName := ⟨"ReadGraphLaw", "safe", "(LReadGraph;JI[J)I"⟩
theorem d_L_safe_0 : decode c_L_safe 0 = .ok (.aload 4, 2) := by decide +kernel
theorem d_L_safe_2 : decode c_L_safe 2 = .ok (.iconst 0, 1) := by decide +kernel
theorem d_L_safe_3 : decode c_L_safe 3 = .ok (.aload_n 0, 1) := by decide +kernel
theorem d_L_safe_4 : decode c_L_safe 4 = .ok (.lload_n 1, 1) := by decide +kernel
theorem d_L_safe_5 : decode c_L_safe 5 = .ok (.iload_n 3, 1) := by decide +kernel
theorem d_L_safe_6 : decode c_L_safe 6 = .ok (.invokevirtual 43, 3) := by decide +kernel
theorem d_L_safe_9 : decode c_L_safe 9 = .ok (.ifCond .eq 7, 3) := by decide +kernel
theorem d_L_safe_12 : decode c_L_safe 12 = .ok (.lconst 1, 1) := by decide +kernel
theorem d_L_safe_13 : decode c_L_safe 13 = .ok (.goto 4, 3) := by decide +kernel
theorem d_L_safe_16 : decode c_L_safe 16 = .ok (.lconst 0, 1) := by decide +kernel
theorem d_L_safe_17 : decode c_L_safe 17 = .ok (.lastore, 1) := by decide +kernel
theorem d_L_safe_18 : decode c_L_safe 18 = .ok (.goto 7, 3) := by decide +kernel
theorem d_L_safe_21 : decode c_L_safe 21 = .ok (.astore 5, 2) := by decide +kernel
theorem d_L_safe_23 : decode c_L_safe 23 = .ok (.iconst 1, 1) := by decide +kernel
theorem d_L_safe_24 : decode c_L_safe 24 = .ok (.ireturn, 1) := by decide +kernel
theorem d_L_safe_25 : decode c_L_safe 25 = .ok (.iconst 0, 1) := by decide +kernel
theorem d_L_safe_26 : decode c_L_safe 26 = .ok (.ireturn, 1) := by decide +kernel
abbrev c_L_walks : ByteArray := method_11_code
def y_L_walks : MethodName := ⟨"ReadGraphLaw", "walks", "(LReadGraph;[J)I"⟩
theorem d_L_walks_0 : decode c_L_walks 0 = .ok (.aload_n 1, 1) := by decide +kernel
theorem d_L_walks_1 : decode c_L_walks 1 = .ok (.iconst 0, 1) := by decide +kernel
theorem d_L_walks_2 : decode c_L_walks 2 = .ok (.aload_n 0, 1) := by decide +kernel
theorem d_L_walks_3 : decode c_L_walks 3 = .ok (.invokevirtual 47, 3) := by decide +kernel
theorem d_L_walks_6 : decode c_L_walks 6 = .ok (.i2l, 1) := by decide +kernel
theorem d_L_walks_7 : decode c_L_walks 7 = .ok (.lastore, 1) := by decide +kernel
theorem d_L_walks_8 : decode c_L_walks 8 = .ok (.goto 6, 3) := by decide +kernel
theorem d_L_walks_11 : decode c_L_walks 11 = .ok (.astore_n 2, 1) := by decide +kernel
theorem d_L_walks_12 : decode c_L_walks 12 = .ok (.iconst 1, 1) := by decide +kernel
theorem d_L_walks_13 : decode c_L_walks 13 = .ok (.ireturn, 1) := by decide +kernel
theorem d_L_walks_14 : decode c_L_walks 14 = .ok (.iconst 0, 1) := by decide +kernel
theorem d_L_walks_15 : decode c_L_walks 15 = .ok (.ireturn, 1) := by decide +kernel
abbrev c_L_walk : ByteArray := method_12_code
def y_L_walk : MethodName := ⟨"ReadGraphLaw", "walk", "(LReadGraph;II[J)I"⟩
theorem d_L_walk_0 : decode c_L_walk 0 = .ok (.aload_n 3, 1) := by decide +kernel
theorem d_L_walk_1 : decode c_L_walk 1 = .ok (.iconst 0, 1) := by decide +kernel
theorem d_L_walk_2 : decode c_L_walk 2 = .ok (.aload_n 0, 1) := by decide +kernel
theorem d_L_walk_3 : decode c_L_walk 3 = .ok (.iload_n 1, 1) := by decide +kernel
theorem d_L_walk_4 : decode c_L_walk 4 = .ok (.iload_n 2, 1) := by decide +kernel
theorem d_L_walk_5 : decode c_L_walk 5 = .ok (.invokevirtual 51, 3) := by decide +kernel
theorem d_L_walk_8 : decode c_L_walk 8 = .ok (.i2l, 1) := by decide +kernel
theorem d_L_walk_9 : decode c_L_walk 9 = .ok (.lastore, 1) := by decide +kernel
theorem d_L_walk_10 : decode c_L_walk 10 = .ok (.goto 11, 3) := by decide +kernel
theorem d_L_walk_13 : decode c_L_walk 13 = .ok (.astore 4, 2) := by decide +kernel
theorem d_L_walk_15 : decode c_L_walk 15 = .ok (.iconst 1, 1) := by decide +kernel
theorem d_L_walk_16 : decode c_L_walk 16 = .ok (.ireturn, 1) := by decide +kernel
theorem d_L_walk_17 : decode c_L_walk 17 = .ok (.astore 4, 2) := by decide +kernel
theorem d_L_walk_19 : decode c_L_walk 19 = .ok (.iconst 2, 1) := by decide +kernel
theorem d_L_walk_20 : decode c_L_walk 20 = .ok (.ireturn, 1) := by decide +kernel
theorem d_L_walk_21 : decode c_L_walk 21 = .ok (.iconst 0, 1) := by decide +kernel
theorem d_L_walk_22 : decode c_L_walk 22 = .ok (.ireturn, 1) := by decide +kernel
abbrev c_L_spelled : ByteArray := method_13_code
def y_L_spelled : MethodName := ⟨"ReadGraphLaw", "spelled", "(LReadGraph;II[J)I"⟩
theorem d_L_spelled_0 : decode c_L_spelled 0 = .ok (.aload_n 3, 1) := by decide +kernel
theorem d_L_spelled_1 : decode c_L_spelled 1 = .ok (.iconst 0, 1) := by decide +kernel
theorem d_L_spelled_2 : decode c_L_spelled 2 = .ok (.aload_n 0, 1) := by decide +kernel
theorem d_L_spelled_3 : decode c_L_spelled 3 = .ok (.iload_n 1, 1) := by decide +kernel
theorem d_L_spelled_4 : decode c_L_spelled 4 = .ok (.iload_n 2, 1) := by decide +kernel
theorem d_L_spelled_5 : decode c_L_spelled 5 = .ok (.invokevirtual 54, 3) := by decide +kernel
theorem d_L_spelled_8 : decode c_L_spelled 8 = .ok (.i2l, 1) := by decide +kernel
theorem d_L_spelled_9 : decode c_L_spelled 9 = .ok (.lastore, 1) := by decide +kernel
theorem d_L_spelled_10 : decode c_L_spelled 10 = .ok (.goto 11, 3) := by decide +kernel
theorem d_L_spelled_13 : decode c_L_spelled 13 = .ok (.astore 4, 2) := by decide +kernel
theorem d_L_spelled_15 : decode c_L_spelled 15 = .ok (.iconst 1, 1) := by decide +kernel
theorem d_L_spelled_16 : decode c_L_spelled 16 = .ok (.ireturn, 1) := by decide +kernel
theorem d_L_spelled_17 : decode c_L_spelled 17 = .ok (.astore 4, 2) := by decide +kernel
theorem d_L_spelled_19 : decode c_L_spelled 19 = .ok (.iconst 2, 1) := by decide +kernel
theorem d_L_spelled_20 : decode c_L_spelled 20 = .ok (.ireturn, 1) := by decide +kernel
theorem d_L_spelled_21 : decode c_L_spelled 21 = .ok (.iconst 0, 1) := by decide +kernel
theorem d_L_spelled_22 : decode c_L_spelled 22 = .ok (.ireturn, 1) := by decide +kernel
abbrev c_L_law : ByteArray := code
def y_L_law : MethodName := ⟨"ReadGraphLaw", "law", "([I)Z"⟩
theorem d_L_law_0 : decode c_L_law 0 = .ok (.new 8, 3) := by decide +kernel
theorem d_L_law_3 : decode c_L_law 3 = .ok (.dup, 1) := by decide +kernel
theorem d_L_law_4 : decode c_L_law 4 = .ok (.invokespecial 57, 3) := by decide +kernel
theorem d_L_law_7 : decode c_L_law 7 = .ok (.astore_n 1, 1) := by decide +kernel
theorem d_L_law_8 : decode c_L_law 8 = .ok (.new 58, 3) := by decide +kernel
theorem d_L_law_11 : decode c_L_law 11 = .ok (.dup, 1) := by decide +kernel
theorem d_L_law_12 : decode c_L_law 12 = .ok (.invokespecial 60, 3) := by decide +kernel
theorem d_L_law_15 : decode c_L_law 15 = .ok (.astore_n 2, 1) := by decide +kernel
theorem d_L_law_16 : decode c_L_law 16 = .ok (.iconst 1, 1) := by decide +kernel
theorem d_L_law_17 : decode c_L_law 17 = .ok (.newarray .long, 2) := by decide +kernel
theorem d_L_law_19 : decode c_L_law 19 = .ok (.astore_n 3, 1) := by decide +kernel
theorem d_L_law_20 : decode c_L_law 20 = .ok (.iconst 0, 1) := by decide +kernel
theorem d_L_law_21 : decode c_L_law 21 = .ok (.istore 4, 2) := by decide +kernel
theorem d_L_law_23 : decode c_L_law 23 = .ok (.iload 4, 2) := by decide +kernel
theorem d_L_law_25 : decode c_L_law 25 = .ok (.aload_n 0, 1) := by decide +kernel
theorem d_L_law_26 : decode c_L_law 26 = .ok (.arraylength, 1) := by decide +kernel
theorem d_L_law_27 : decode c_L_law 27 = .ok (.iconst 4, 1) := by decide +kernel
theorem d_L_law_28 : decode c_L_law 28 = .ok (.isub, 1) := by decide +kernel
theorem d_L_law_29 : decode c_L_law 29 = .ok (.if_icmp .gt 887, 3) := by decide +kernel
theorem d_L_law_32 : decode c_L_law 32 = .ok (.aload_n 0, 1) := by decide +kernel
theorem d_L_law_33 : decode c_L_law 33 = .ok (.iload 4, 2) := by decide +kernel
theorem d_L_law_35 : decode c_L_law 35 = .ok (.iaload, 1) := by decide +kernel
theorem d_L_law_36 : decode c_L_law 36 = .ok (.bipush 15, 2) := by decide +kernel
theorem d_L_law_38 : decode c_L_law 38 = .ok (.iand, 1) := by decide +kernel
theorem d_L_law_39 : decode c_L_law 39 = .ok (.tableswitch 871 0 13 #[69, 137, 148, 216, 279, 359, 415, 428, 496, 571, 584, 691, 735, 803], 69) := by decide +kernel
theorem d_L_law_108 : decode c_L_law 108 = .ok (.aload_n 1, 1) := by decide +kernel
theorem d_L_law_109 : decode c_L_law 109 = .ok (.aload_n 0, 1) := by decide +kernel
theorem d_L_law_110 : decode c_L_law 110 = .ok (.iload 4, 2) := by decide +kernel
theorem d_L_law_112 : decode c_L_law 112 = .ok (.iconst 1, 1) := by decide +kernel
theorem d_L_law_113 : decode c_L_law 113 = .ok (.iadd, 1) := by decide +kernel
theorem d_L_law_114 : decode c_L_law 114 = .ok (.iaload, 1) := by decide +kernel
theorem d_L_law_115 : decode c_L_law 115 = .ok (.aload_n 0, 1) := by decide +kernel
theorem d_L_law_116 : decode c_L_law 116 = .ok (.iload 4, 2) := by decide +kernel
theorem d_L_law_118 : decode c_L_law 118 = .ok (.iconst 2, 1) := by decide +kernel
theorem d_L_law_119 : decode c_L_law 119 = .ok (.iadd, 1) := by decide +kernel
theorem d_L_law_120 : decode c_L_law 120 = .ok (.iaload, 1) := by decide +kernel
theorem d_L_law_121 : decode c_L_law 121 = .ok (.aload_n 3, 1) := by decide +kernel
theorem d_L_law_122 : decode c_L_law 122 = .ok (.invokestatic 61, 3) := by decide +kernel
theorem d_L_law_125 : decode c_L_law 125 = .ok (.istore 5, 2) := by decide +kernel
theorem d_L_law_127 : decode c_L_law 127 = .ok (.aload_n 2, 1) := by decide +kernel
theorem d_L_law_128 : decode c_L_law 128 = .ok (.aload_n 0, 1) := by decide +kernel
theorem d_L_law_129 : decode c_L_law 129 = .ok (.iload 4, 2) := by decide +kernel
theorem d_L_law_131 : decode c_L_law 131 = .ok (.iconst 1, 1) := by decide +kernel
theorem d_L_law_132 : decode c_L_law 132 = .ok (.iadd, 1) := by decide +kernel
theorem d_L_law_133 : decode c_L_law 133 = .ok (.iaload, 1) := by decide +kernel
theorem d_L_law_134 : decode c_L_law 134 = .ok (.aload_n 0, 1) := by decide +kernel
theorem d_L_law_135 : decode c_L_law 135 = .ok (.iload 4, 2) := by decide +kernel
theorem d_L_law_137 : decode c_L_law 137 = .ok (.iconst 2, 1) := by decide +kernel
theorem d_L_law_138 : decode c_L_law 138 = .ok (.iadd, 1) := by decide +kernel
theorem d_L_law_139 : decode c_L_law 139 = .ok (.iaload, 1) := by decide +kernel
theorem d_L_law_140 : decode c_L_law 140 = .ok (.invokevirtual 66, 3) := by decide +kernel
theorem d_L_law_143 : decode c_L_law 143 = .ok (.istore 6, 2) := by decide +kernel
theorem d_L_law_145 : decode c_L_law 145 = .ok (.aload_n 2, 1) := by decide +kernel
theorem d_L_law_146 : decode c_L_law 146 = .ok (.invokevirtual 67, 3) := by decide +kernel
theorem d_L_law_149 : decode c_L_law 149 = .ok (.iload 5, 2) := by decide +kernel
theorem d_L_law_151 : decode c_L_law 151 = .ok (.if_icmp .eq 5, 3) := by decide +kernel
theorem d_L_law_154 : decode c_L_law 154 = .ok (.iconst 0, 1) := by decide +kernel
theorem d_L_law_155 : decode c_L_law 155 = .ok (.ireturn, 1) := by decide +kernel
theorem d_L_law_156 : decode c_L_law 156 = .ok (.iload 5, 2) := by decide +kernel
theorem d_L_law_158 : decode c_L_law 158 = .ok (.ifCond .ne 15, 3) := by decide +kernel
theorem d_L_law_161 : decode c_L_law 161 = .ok (.aload_n 3, 1) := by decide +kernel
theorem d_L_law_162 : decode c_L_law 162 = .ok (.iconst 0, 1) := by decide +kernel
theorem d_L_law_163 : decode c_L_law 163 = .ok (.laload, 1) := by decide +kernel
theorem d_L_law_164 : decode c_L_law 164 = .ok (.iload 6, 2) := by decide +kernel
theorem d_L_law_166 : decode c_L_law 166 = .ok (.i2l, 1) := by decide +kernel
theorem d_L_law_167 : decode c_L_law 167 = .ok (.lcmp, 1) := by decide +kernel
theorem d_L_law_168 : decode c_L_law 168 = .ok (.ifCond .eq 5, 3) := by decide +kernel
theorem d_L_law_171 : decode c_L_law 171 = .ok (.iconst 0, 1) := by decide +kernel
theorem d_L_law_172 : decode c_L_law 172 = .ok (.ireturn, 1) := by decide +kernel
theorem d_L_law_173 : decode c_L_law 173 = .ok (.goto 737, 3) := by decide +kernel
theorem d_L_law_176 : decode c_L_law 176 = .ok (.aload_n 1, 1) := by decide +kernel
theorem d_L_law_177 : decode c_L_law 177 = .ok (.invokevirtual 70, 3) := by decide +kernel
theorem d_L_law_180 : decode c_L_law 180 = .ok (.aload_n 2, 1) := by decide +kernel
theorem d_L_law_181 : decode c_L_law 181 = .ok (.invokevirtual 73, 3) := by decide +kernel
theorem d_L_law_184 : decode c_L_law 184 = .ok (.goto 726, 3) := by decide +kernel
theorem d_L_law_187 : decode c_L_law 187 = .ok (.aload_n 1, 1) := by decide +kernel
theorem d_L_law_188 : decode c_L_law 188 = .ok (.aload_n 0, 1) := by decide +kernel
theorem d_L_law_189 : decode c_L_law 189 = .ok (.iload 4, 2) := by decide +kernel
theorem d_L_law_191 : decode c_L_law 191 = .ok (.iconst 1, 1) := by decide +kernel
theorem d_L_law_192 : decode c_L_law 192 = .ok (.iadd, 1) := by decide +kernel
theorem d_L_law_193 : decode c_L_law 193 = .ok (.iaload, 1) := by decide +kernel
theorem d_L_law_194 : decode c_L_law 194 = .ok (.aload_n 0, 1) := by decide +kernel
theorem d_L_law_195 : decode c_L_law 195 = .ok (.iload 4, 2) := by decide +kernel
theorem d_L_law_197 : decode c_L_law 197 = .ok (.iconst 2, 1) := by decide +kernel
theorem d_L_law_198 : decode c_L_law 198 = .ok (.iadd, 1) := by decide +kernel
theorem d_L_law_199 : decode c_L_law 199 = .ok (.iaload, 1) := by decide +kernel
theorem d_L_law_200 : decode c_L_law 200 = .ok (.aload_n 3, 1) := by decide +kernel
theorem d_L_law_201 : decode c_L_law 201 = .ok (.invokestatic 74, 3) := by decide +kernel
theorem d_L_law_204 : decode c_L_law 204 = .ok (.istore 5, 2) := by decide +kernel
theorem d_L_law_206 : decode c_L_law 206 = .ok (.aload_n 2, 1) := by decide +kernel
theorem d_L_law_207 : decode c_L_law 207 = .ok (.aload_n 0, 1) := by decide +kernel
theorem d_L_law_208 : decode c_L_law 208 = .ok (.iload 4, 2) := by decide +kernel
theorem d_L_law_210 : decode c_L_law 210 = .ok (.iconst 1, 1) := by decide +kernel
theorem d_L_law_211 : decode c_L_law 211 = .ok (.iadd, 1) := by decide +kernel
theorem d_L_law_212 : decode c_L_law 212 = .ok (.iaload, 1) := by decide +kernel
theorem d_L_law_213 : decode c_L_law 213 = .ok (.aload_n 0, 1) := by decide +kernel
theorem d_L_law_214 : decode c_L_law 214 = .ok (.iload 4, 2) := by decide +kernel
theorem d_L_law_216 : decode c_L_law 216 = .ok (.iconst 2, 1) := by decide +kernel
theorem d_L_law_217 : decode c_L_law 217 = .ok (.iadd, 1) := by decide +kernel
theorem d_L_law_218 : decode c_L_law 218 = .ok (.iaload, 1) := by decide +kernel
theorem d_L_law_219 : decode c_L_law 219 = .ok (.invokevirtual 76, 3) := by decide +kernel
theorem d_L_law_222 : decode c_L_law 222 = .ok (.istore 6, 2) := by decide +kernel
theorem d_L_law_224 : decode c_L_law 224 = .ok (.aload_n 2, 1) := by decide +kernel
theorem d_L_law_225 : decode c_L_law 225 = .ok (.invokevirtual 67, 3) := by decide +kernel
theorem d_L_law_228 : decode c_L_law 228 = .ok (.iload 5, 2) := by decide +kernel
theorem d_L_law_230 : decode c_L_law 230 = .ok (.if_icmp .eq 5, 3) := by decide +kernel
theorem d_L_law_233 : decode c_L_law 233 = .ok (.iconst 0, 1) := by decide +kernel
theorem d_L_law_234 : decode c_L_law 234 = .ok (.ireturn, 1) := by decide +kernel
theorem d_L_law_235 : decode c_L_law 235 = .ok (.iload 5, 2) := by decide +kernel
theorem d_L_law_237 : decode c_L_law 237 = .ok (.ifCond .ne 15, 3) := by decide +kernel
theorem d_L_law_240 : decode c_L_law 240 = .ok (.aload_n 3, 1) := by decide +kernel
theorem d_L_law_241 : decode c_L_law 241 = .ok (.iconst 0, 1) := by decide +kernel
theorem d_L_law_242 : decode c_L_law 242 = .ok (.laload, 1) := by decide +kernel
theorem d_L_law_243 : decode c_L_law 243 = .ok (.iload 6, 2) := by decide +kernel
theorem d_L_law_245 : decode c_L_law 245 = .ok (.i2l, 1) := by decide +kernel
theorem d_L_law_246 : decode c_L_law 246 = .ok (.lcmp, 1) := by decide +kernel
theorem d_L_law_247 : decode c_L_law 247 = .ok (.ifCond .eq 5, 3) := by decide +kernel
theorem d_L_law_250 : decode c_L_law 250 = .ok (.iconst 0, 1) := by decide +kernel
theorem d_L_law_251 : decode c_L_law 251 = .ok (.ireturn, 1) := by decide +kernel
theorem d_L_law_252 : decode c_L_law 252 = .ok (.goto 658, 3) := by decide +kernel
theorem d_L_law_255 : decode c_L_law 255 = .ok (.aload_n 1, 1) := by decide +kernel
theorem d_L_law_256 : decode c_L_law 256 = .ok (.aload_n 0, 1) := by decide +kernel
theorem d_L_law_257 : decode c_L_law 257 = .ok (.iload 4, 2) := by decide +kernel
theorem d_L_law_259 : decode c_L_law 259 = .ok (.iconst 1, 1) := by decide +kernel
theorem d_L_law_260 : decode c_L_law 260 = .ok (.iadd, 1) := by decide +kernel
theorem d_L_law_261 : decode c_L_law 261 = .ok (.iaload, 1) := by decide +kernel
theorem d_L_law_262 : decode c_L_law 262 = .ok (.aload_n 3, 1) := by decide +kernel
theorem d_L_law_263 : decode c_L_law 263 = .ok (.invokestatic 77, 3) := by decide +kernel
theorem d_L_law_266 : decode c_L_law 266 = .ok (.istore 5, 2) := by decide +kernel
theorem d_L_law_268 : decode c_L_law 268 = .ok (.aload_n 2, 1) := by decide +kernel
theorem d_L_law_269 : decode c_L_law 269 = .ok (.aload_n 0, 1) := by decide +kernel
theorem d_L_law_270 : decode c_L_law 270 = .ok (.iload 4, 2) := by decide +kernel
theorem d_L_law_272 : decode c_L_law 272 = .ok (.iconst 1, 1) := by decide +kernel
theorem d_L_law_273 : decode c_L_law 273 = .ok (.iadd, 1) := by decide +kernel
theorem d_L_law_274 : decode c_L_law 274 = .ok (.iaload, 1) := by decide +kernel
theorem d_L_law_275 : decode c_L_law 275 = .ok (.invokevirtual 80, 3) := by decide +kernel
theorem d_L_law_278 : decode c_L_law 278 = .ok (.istore 6, 2) := by decide +kernel
theorem d_L_law_280 : decode c_L_law 280 = .ok (.aload_n 2, 1) := by decide +kernel
theorem d_L_law_281 : decode c_L_law 281 = .ok (.invokevirtual 67, 3) := by decide +kernel
theorem d_L_law_284 : decode c_L_law 284 = .ok (.iload 5, 2) := by decide +kernel
theorem d_L_law_286 : decode c_L_law 286 = .ok (.if_icmp .eq 5, 3) := by decide +kernel
theorem d_L_law_289 : decode c_L_law 289 = .ok (.iconst 0, 1) := by decide +kernel
theorem d_L_law_290 : decode c_L_law 290 = .ok (.ireturn, 1) := by decide +kernel
theorem d_L_law_291 : decode c_L_law 291 = .ok (.iload 5, 2) := by decide +kernel
theorem d_L_law_293 : decode c_L_law 293 = .ok (.ifCond .ne 22, 3) := by decide +kernel
theorem d_L_law_296 : decode c_L_law 296 = .ok (.aload_n 3, 1) := by decide +kernel
theorem d_L_law_297 : decode c_L_law 297 = .ok (.iconst 0, 1) := by decide +kernel
theorem d_L_law_298 : decode c_L_law 298 = .ok (.laload, 1) := by decide +kernel
theorem d_L_law_299 : decode c_L_law 299 = .ok (.iload 6, 2) := by decide +kernel
theorem d_L_law_301 : decode c_L_law 301 = .ok (.ifCond .eq 7, 3) := by decide +kernel
theorem d_L_law_304 : decode c_L_law 304 = .ok (.lconst 1, 1) := by decide +kernel
theorem d_L_law_305 : decode c_L_law 305 = .ok (.goto 4, 3) := by decide +kernel
theorem d_L_law_308 : decode c_L_law 308 = .ok (.lconst 0, 1) := by decide +kernel
theorem d_L_law_309 : decode c_L_law 309 = .ok (.lcmp, 1) := by decide +kernel
theorem d_L_law_310 : decode c_L_law 310 = .ok (.ifCond .eq 5, 3) := by decide +kernel
theorem d_L_law_313 : decode c_L_law 313 = .ok (.iconst 0, 1) := by decide +kernel
theorem d_L_law_314 : decode c_L_law 314 = .ok (.ireturn, 1) := by decide +kernel
theorem d_L_law_315 : decode c_L_law 315 = .ok (.goto 595, 3) := by decide +kernel
theorem d_L_law_318 : decode c_L_law 318 = .ok (.aload_n 1, 1) := by decide +kernel
theorem d_L_law_319 : decode c_L_law 319 = .ok (.aload_n 0, 1) := by decide +kernel
theorem d_L_law_320 : decode c_L_law 320 = .ok (.iload 4, 2) := by decide +kernel
theorem d_L_law_322 : decode c_L_law 322 = .ok (.iconst 1, 1) := by decide +kernel
theorem d_L_law_323 : decode c_L_law 323 = .ok (.iadd, 1) := by decide +kernel
theorem d_L_law_324 : decode c_L_law 324 = .ok (.iaload, 1) := by decide +kernel
theorem d_L_law_325 : decode c_L_law 325 = .ok (.aload_n 0, 1) := by decide +kernel
theorem d_L_law_326 : decode c_L_law 326 = .ok (.iload 4, 2) := by decide +kernel
theorem d_L_law_328 : decode c_L_law 328 = .ok (.iconst 2, 1) := by decide +kernel
theorem d_L_law_329 : decode c_L_law 329 = .ok (.iadd, 1) := by decide +kernel
theorem d_L_law_330 : decode c_L_law 330 = .ok (.iaload, 1) := by decide +kernel
theorem d_L_law_331 : decode c_L_law 331 = .ok (.aload_n 0, 1) := by decide +kernel
theorem d_L_law_332 : decode c_L_law 332 = .ok (.iload 4, 2) := by decide +kernel
theorem d_L_law_334 : decode c_L_law 334 = .ok (.iconst 3, 1) := by decide +kernel
theorem d_L_law_335 : decode c_L_law 335 = .ok (.iadd, 1) := by decide +kernel
theorem d_L_law_336 : decode c_L_law 336 = .ok (.iaload, 1) := by decide +kernel
theorem d_L_law_337 : decode c_L_law 337 = .ok (.aload_n 3, 1) := by decide +kernel
theorem d_L_law_338 : decode c_L_law 338 = .ok (.invokestatic 81, 3) := by decide +kernel
theorem d_L_law_341 : decode c_L_law 341 = .ok (.istore 5, 2) := by decide +kernel
theorem d_L_law_343 : decode c_L_law 343 = .ok (.aload_n 2, 1) := by decide +kernel
theorem d_L_law_344 : decode c_L_law 344 = .ok (.aload_n 0, 1) := by decide +kernel
theorem d_L_law_345 : decode c_L_law 345 = .ok (.iload 4, 2) := by decide +kernel
theorem d_L_law_347 : decode c_L_law 347 = .ok (.iconst 1, 1) := by decide +kernel
theorem d_L_law_348 : decode c_L_law 348 = .ok (.iadd, 1) := by decide +kernel
theorem d_L_law_349 : decode c_L_law 349 = .ok (.iaload, 1) := by decide +kernel
theorem d_L_law_350 : decode c_L_law 350 = .ok (.aload_n 0, 1) := by decide +kernel
theorem d_L_law_351 : decode c_L_law 351 = .ok (.iload 4, 2) := by decide +kernel
theorem d_L_law_353 : decode c_L_law 353 = .ok (.iconst 2, 1) := by decide +kernel
theorem d_L_law_354 : decode c_L_law 354 = .ok (.iadd, 1) := by decide +kernel
theorem d_L_law_355 : decode c_L_law 355 = .ok (.iaload, 1) := by decide +kernel
theorem d_L_law_356 : decode c_L_law 356 = .ok (.aload_n 0, 1) := by decide +kernel
theorem d_L_law_357 : decode c_L_law 357 = .ok (.iload 4, 2) := by decide +kernel
theorem d_L_law_359 : decode c_L_law 359 = .ok (.iconst 3, 1) := by decide +kernel
theorem d_L_law_360 : decode c_L_law 360 = .ok (.iadd, 1) := by decide +kernel
theorem d_L_law_361 : decode c_L_law 361 = .ok (.iaload, 1) := by decide +kernel
theorem d_L_law_362 : decode c_L_law 362 = .ok (.invokevirtual 84, 3) := by decide +kernel
theorem d_L_law_365 : decode c_L_law 365 = .ok (.istore 6, 2) := by decide +kernel
theorem d_L_law_367 : decode c_L_law 367 = .ok (.aload_n 2, 1) := by decide +kernel
theorem d_L_law_368 : decode c_L_law 368 = .ok (.invokevirtual 67, 3) := by decide +kernel
theorem d_L_law_371 : decode c_L_law 371 = .ok (.iload 5, 2) := by decide +kernel
theorem d_L_law_373 : decode c_L_law 373 = .ok (.if_icmp .eq 5, 3) := by decide +kernel
theorem d_L_law_376 : decode c_L_law 376 = .ok (.iconst 0, 1) := by decide +kernel
theorem d_L_law_377 : decode c_L_law 377 = .ok (.ireturn, 1) := by decide +kernel
theorem d_L_law_378 : decode c_L_law 378 = .ok (.iload 5, 2) := by decide +kernel
theorem d_L_law_380 : decode c_L_law 380 = .ok (.ifCond .ne 15, 3) := by decide +kernel
theorem d_L_law_383 : decode c_L_law 383 = .ok (.aload_n 3, 1) := by decide +kernel
theorem d_L_law_384 : decode c_L_law 384 = .ok (.iconst 0, 1) := by decide +kernel
theorem d_L_law_385 : decode c_L_law 385 = .ok (.laload, 1) := by decide +kernel
theorem d_L_law_386 : decode c_L_law 386 = .ok (.iload 6, 2) := by decide +kernel
theorem d_L_law_388 : decode c_L_law 388 = .ok (.i2l, 1) := by decide +kernel
theorem d_L_law_389 : decode c_L_law 389 = .ok (.lcmp, 1) := by decide +kernel
theorem d_L_law_390 : decode c_L_law 390 = .ok (.ifCond .eq 5, 3) := by decide +kernel
theorem d_L_law_393 : decode c_L_law 393 = .ok (.iconst 0, 1) := by decide +kernel
theorem d_L_law_394 : decode c_L_law 394 = .ok (.ireturn, 1) := by decide +kernel
theorem d_L_law_395 : decode c_L_law 395 = .ok (.goto 515, 3) := by decide +kernel
theorem d_L_law_398 : decode c_L_law 398 = .ok (.aload_n 1, 1) := by decide +kernel
theorem d_L_law_399 : decode c_L_law 399 = .ok (.aload_n 0, 1) := by decide +kernel
theorem d_L_law_400 : decode c_L_law 400 = .ok (.iload 4, 2) := by decide +kernel
theorem d_L_law_402 : decode c_L_law 402 = .ok (.iconst 1, 1) := by decide +kernel
theorem d_L_law_403 : decode c_L_law 403 = .ok (.iadd, 1) := by decide +kernel
theorem d_L_law_404 : decode c_L_law 404 = .ok (.iaload, 1) := by decide +kernel
theorem d_L_law_405 : decode c_L_law 405 = .ok (.aload_n 3, 1) := by decide +kernel
theorem d_L_law_406 : decode c_L_law 406 = .ok (.invokestatic 85, 3) := by decide +kernel
theorem d_L_law_409 : decode c_L_law 409 = .ok (.istore 5, 2) := by decide +kernel
theorem d_L_law_411 : decode c_L_law 411 = .ok (.aload_n 2, 1) := by decide +kernel
theorem d_L_law_412 : decode c_L_law 412 = .ok (.aload_n 0, 1) := by decide +kernel
theorem d_L_law_413 : decode c_L_law 413 = .ok (.iload 4, 2) := by decide +kernel
theorem d_L_law_415 : decode c_L_law 415 = .ok (.iconst 1, 1) := by decide +kernel
theorem d_L_law_416 : decode c_L_law 416 = .ok (.iadd, 1) := by decide +kernel
theorem d_L_law_417 : decode c_L_law 417 = .ok (.iaload, 1) := by decide +kernel
theorem d_L_law_418 : decode c_L_law 418 = .ok (.invokevirtual 87, 3) := by decide +kernel
theorem d_L_law_421 : decode c_L_law 421 = .ok (.istore 6, 2) := by decide +kernel
theorem d_L_law_423 : decode c_L_law 423 = .ok (.aload_n 2, 1) := by decide +kernel
theorem d_L_law_424 : decode c_L_law 424 = .ok (.invokevirtual 67, 3) := by decide +kernel
theorem d_L_law_427 : decode c_L_law 427 = .ok (.iload 5, 2) := by decide +kernel
theorem d_L_law_429 : decode c_L_law 429 = .ok (.if_icmp .eq 5, 3) := by decide +kernel
theorem d_L_law_432 : decode c_L_law 432 = .ok (.iconst 0, 1) := by decide +kernel
theorem d_L_law_433 : decode c_L_law 433 = .ok (.ireturn, 1) := by decide +kernel
theorem d_L_law_434 : decode c_L_law 434 = .ok (.iload 5, 2) := by decide +kernel
theorem d_L_law_436 : decode c_L_law 436 = .ok (.ifCond .ne 15, 3) := by decide +kernel
theorem d_L_law_439 : decode c_L_law 439 = .ok (.aload_n 3, 1) := by decide +kernel
theorem d_L_law_440 : decode c_L_law 440 = .ok (.iconst 0, 1) := by decide +kernel
theorem d_L_law_441 : decode c_L_law 441 = .ok (.laload, 1) := by decide +kernel
theorem d_L_law_442 : decode c_L_law 442 = .ok (.iload 6, 2) := by decide +kernel
theorem d_L_law_444 : decode c_L_law 444 = .ok (.i2l, 1) := by decide +kernel
theorem d_L_law_445 : decode c_L_law 445 = .ok (.lcmp, 1) := by decide +kernel
theorem d_L_law_446 : decode c_L_law 446 = .ok (.ifCond .eq 5, 3) := by decide +kernel
theorem d_L_law_449 : decode c_L_law 449 = .ok (.iconst 0, 1) := by decide +kernel
theorem d_L_law_450 : decode c_L_law 450 = .ok (.ireturn, 1) := by decide +kernel
theorem d_L_law_451 : decode c_L_law 451 = .ok (.goto 459, 3) := by decide +kernel
theorem d_L_law_454 : decode c_L_law 454 = .ok (.aload_n 1, 1) := by decide +kernel
theorem d_L_law_455 : decode c_L_law 455 = .ok (.invokevirtual 88, 3) := by decide +kernel
theorem d_L_law_458 : decode c_L_law 458 = .ok (.aload_n 2, 1) := by decide +kernel
theorem d_L_law_459 : decode c_L_law 459 = .ok (.invokevirtual 91, 3) := by decide +kernel
theorem d_L_law_462 : decode c_L_law 462 = .ok (.if_icmp .eq 448, 3) := by decide +kernel
theorem d_L_law_465 : decode c_L_law 465 = .ok (.iconst 0, 1) := by decide +kernel
theorem d_L_law_466 : decode c_L_law 466 = .ok (.ireturn, 1) := by decide +kernel
theorem d_L_law_467 : decode c_L_law 467 = .ok (.aload_n 1, 1) := by decide +kernel
theorem d_L_law_468 : decode c_L_law 468 = .ok (.aload_n 0, 1) := by decide +kernel
theorem d_L_law_469 : decode c_L_law 469 = .ok (.iload 4, 2) := by decide +kernel
theorem d_L_law_471 : decode c_L_law 471 = .ok (.iconst 1, 1) := by decide +kernel
theorem d_L_law_472 : decode c_L_law 472 = .ok (.iadd, 1) := by decide +kernel
theorem d_L_law_473 : decode c_L_law 473 = .ok (.iaload, 1) := by decide +kernel
theorem d_L_law_474 : decode c_L_law 474 = .ok (.aload_n 0, 1) := by decide +kernel
theorem d_L_law_475 : decode c_L_law 475 = .ok (.iload 4, 2) := by decide +kernel
theorem d_L_law_477 : decode c_L_law 477 = .ok (.iconst 2, 1) := by decide +kernel
theorem d_L_law_478 : decode c_L_law 478 = .ok (.iadd, 1) := by decide +kernel
theorem d_L_law_479 : decode c_L_law 479 = .ok (.iaload, 1) := by decide +kernel
theorem d_L_law_480 : decode c_L_law 480 = .ok (.aload_n 3, 1) := by decide +kernel
theorem d_L_law_481 : decode c_L_law 481 = .ok (.invokestatic 92, 3) := by decide +kernel
theorem d_L_law_484 : decode c_L_law 484 = .ok (.istore 5, 2) := by decide +kernel
theorem d_L_law_486 : decode c_L_law 486 = .ok (.aload_n 2, 1) := by decide +kernel
theorem d_L_law_487 : decode c_L_law 487 = .ok (.aload_n 0, 1) := by decide +kernel
theorem d_L_law_488 : decode c_L_law 488 = .ok (.iload 4, 2) := by decide +kernel
theorem d_L_law_490 : decode c_L_law 490 = .ok (.iconst 1, 1) := by decide +kernel
theorem d_L_law_491 : decode c_L_law 491 = .ok (.iadd, 1) := by decide +kernel
theorem d_L_law_492 : decode c_L_law 492 = .ok (.iaload, 1) := by decide +kernel
theorem d_L_law_493 : decode c_L_law 493 = .ok (.aload_n 0, 1) := by decide +kernel
theorem d_L_law_494 : decode c_L_law 494 = .ok (.iload 4, 2) := by decide +kernel
theorem d_L_law_496 : decode c_L_law 496 = .ok (.iconst 2, 1) := by decide +kernel
theorem d_L_law_497 : decode c_L_law 497 = .ok (.iadd, 1) := by decide +kernel
theorem d_L_law_498 : decode c_L_law 498 = .ok (.iaload, 1) := by decide +kernel
theorem d_L_law_499 : decode c_L_law 499 = .ok (.invokevirtual 94, 3) := by decide +kernel
theorem d_L_law_502 : decode c_L_law 502 = .ok (.istore 6, 2) := by decide +kernel
theorem d_L_law_504 : decode c_L_law 504 = .ok (.aload_n 2, 1) := by decide +kernel
theorem d_L_law_505 : decode c_L_law 505 = .ok (.invokevirtual 67, 3) := by decide +kernel
theorem d_L_law_508 : decode c_L_law 508 = .ok (.iload 5, 2) := by decide +kernel
theorem d_L_law_510 : decode c_L_law 510 = .ok (.if_icmp .eq 5, 3) := by decide +kernel
theorem d_L_law_513 : decode c_L_law 513 = .ok (.iconst 0, 1) := by decide +kernel
theorem d_L_law_514 : decode c_L_law 514 = .ok (.ireturn, 1) := by decide +kernel
theorem d_L_law_515 : decode c_L_law 515 = .ok (.iload 5, 2) := by decide +kernel
theorem d_L_law_517 : decode c_L_law 517 = .ok (.ifCond .ne 15, 3) := by decide +kernel
theorem d_L_law_520 : decode c_L_law 520 = .ok (.aload_n 3, 1) := by decide +kernel
theorem d_L_law_521 : decode c_L_law 521 = .ok (.iconst 0, 1) := by decide +kernel
theorem d_L_law_522 : decode c_L_law 522 = .ok (.laload, 1) := by decide +kernel
theorem d_L_law_523 : decode c_L_law 523 = .ok (.iload 6, 2) := by decide +kernel
theorem d_L_law_525 : decode c_L_law 525 = .ok (.i2l, 1) := by decide +kernel
theorem d_L_law_526 : decode c_L_law 526 = .ok (.lcmp, 1) := by decide +kernel
theorem d_L_law_527 : decode c_L_law 527 = .ok (.ifCond .eq 5, 3) := by decide +kernel
theorem d_L_law_530 : decode c_L_law 530 = .ok (.iconst 0, 1) := by decide +kernel
theorem d_L_law_531 : decode c_L_law 531 = .ok (.ireturn, 1) := by decide +kernel
theorem d_L_law_532 : decode c_L_law 532 = .ok (.goto 378, 3) := by decide +kernel
theorem d_L_law_535 : decode c_L_law 535 = .ok (.aload_n 1, 1) := by decide +kernel
theorem d_L_law_536 : decode c_L_law 536 = .ok (.aload_n 0, 1) := by decide +kernel
theorem d_L_law_537 : decode c_L_law 537 = .ok (.iload 4, 2) := by decide +kernel
theorem d_L_law_539 : decode c_L_law 539 = .ok (.iconst 1, 1) := by decide +kernel
theorem d_L_law_540 : decode c_L_law 540 = .ok (.iadd, 1) := by decide +kernel
theorem d_L_law_541 : decode c_L_law 541 = .ok (.iaload, 1) := by decide +kernel
theorem d_L_law_542 : decode c_L_law 542 = .ok (.aload_n 0, 1) := by decide +kernel
theorem d_L_law_543 : decode c_L_law 543 = .ok (.iload 4, 2) := by decide +kernel
theorem d_L_law_545 : decode c_L_law 545 = .ok (.iconst 2, 1) := by decide +kernel
theorem d_L_law_546 : decode c_L_law 546 = .ok (.iadd, 1) := by decide +kernel
theorem d_L_law_547 : decode c_L_law 547 = .ok (.iaload, 1) := by decide +kernel
theorem d_L_law_548 : decode c_L_law 548 = .ok (.aload_n 3, 1) := by decide +kernel
theorem d_L_law_549 : decode c_L_law 549 = .ok (.invokestatic 95, 3) := by decide +kernel
theorem d_L_law_552 : decode c_L_law 552 = .ok (.istore 5, 2) := by decide +kernel
theorem d_L_law_554 : decode c_L_law 554 = .ok (.aload_n 2, 1) := by decide +kernel
theorem d_L_law_555 : decode c_L_law 555 = .ok (.aload_n 0, 1) := by decide +kernel
theorem d_L_law_556 : decode c_L_law 556 = .ok (.iload 4, 2) := by decide +kernel
theorem d_L_law_558 : decode c_L_law 558 = .ok (.iconst 1, 1) := by decide +kernel
theorem d_L_law_559 : decode c_L_law 559 = .ok (.iadd, 1) := by decide +kernel
theorem d_L_law_560 : decode c_L_law 560 = .ok (.iaload, 1) := by decide +kernel
theorem d_L_law_561 : decode c_L_law 561 = .ok (.aload_n 0, 1) := by decide +kernel
theorem d_L_law_562 : decode c_L_law 562 = .ok (.iload 4, 2) := by decide +kernel
theorem d_L_law_564 : decode c_L_law 564 = .ok (.iconst 2, 1) := by decide +kernel
theorem d_L_law_565 : decode c_L_law 565 = .ok (.iadd, 1) := by decide +kernel
theorem d_L_law_566 : decode c_L_law 566 = .ok (.iaload, 1) := by decide +kernel
theorem d_L_law_567 : decode c_L_law 567 = .ok (.invokevirtual 97, 3) := by decide +kernel
theorem d_L_law_570 : decode c_L_law 570 = .ok (.istore 6, 2) := by decide +kernel
theorem d_L_law_572 : decode c_L_law 572 = .ok (.aload_n 2, 1) := by decide +kernel
theorem d_L_law_573 : decode c_L_law 573 = .ok (.invokevirtual 67, 3) := by decide +kernel
theorem d_L_law_576 : decode c_L_law 576 = .ok (.iload 5, 2) := by decide +kernel
theorem d_L_law_578 : decode c_L_law 578 = .ok (.if_icmp .eq 5, 3) := by decide +kernel
theorem d_L_law_581 : decode c_L_law 581 = .ok (.iconst 0, 1) := by decide +kernel
theorem d_L_law_582 : decode c_L_law 582 = .ok (.ireturn, 1) := by decide +kernel
theorem d_L_law_583 : decode c_L_law 583 = .ok (.iload 5, 2) := by decide +kernel
theorem d_L_law_585 : decode c_L_law 585 = .ok (.ifCond .ne 22, 3) := by decide +kernel
theorem d_L_law_588 : decode c_L_law 588 = .ok (.aload_n 3, 1) := by decide +kernel
theorem d_L_law_589 : decode c_L_law 589 = .ok (.iconst 0, 1) := by decide +kernel
theorem d_L_law_590 : decode c_L_law 590 = .ok (.laload, 1) := by decide +kernel
theorem d_L_law_591 : decode c_L_law 591 = .ok (.iload 6, 2) := by decide +kernel
theorem d_L_law_593 : decode c_L_law 593 = .ok (.ifCond .eq 7, 3) := by decide +kernel
theorem d_L_law_596 : decode c_L_law 596 = .ok (.lconst 1, 1) := by decide +kernel
theorem d_L_law_597 : decode c_L_law 597 = .ok (.goto 4, 3) := by decide +kernel
theorem d_L_law_600 : decode c_L_law 600 = .ok (.lconst 0, 1) := by decide +kernel
theorem d_L_law_601 : decode c_L_law 601 = .ok (.lcmp, 1) := by decide +kernel
theorem d_L_law_602 : decode c_L_law 602 = .ok (.ifCond .eq 5, 3) := by decide +kernel
theorem d_L_law_605 : decode c_L_law 605 = .ok (.iconst 0, 1) := by decide +kernel
theorem d_L_law_606 : decode c_L_law 606 = .ok (.ireturn, 1) := by decide +kernel
theorem d_L_law_607 : decode c_L_law 607 = .ok (.goto 303, 3) := by decide +kernel
theorem d_L_law_610 : decode c_L_law 610 = .ok (.aload_n 1, 1) := by decide +kernel
theorem d_L_law_611 : decode c_L_law 611 = .ok (.invokevirtual 98, 3) := by decide +kernel
theorem d_L_law_614 : decode c_L_law 614 = .ok (.aload_n 2, 1) := by decide +kernel
theorem d_L_law_615 : decode c_L_law 615 = .ok (.invokevirtual 101, 3) := by decide +kernel
theorem d_L_law_618 : decode c_L_law 618 = .ok (.if_icmp .eq 292, 3) := by decide +kernel
theorem d_L_law_621 : decode c_L_law 621 = .ok (.iconst 0, 1) := by decide +kernel
theorem d_L_law_622 : decode c_L_law 622 = .ok (.ireturn, 1) := by decide +kernel
theorem d_L_law_623 : decode c_L_law 623 = .ok (.aload_n 1, 1) := by decide +kernel
theorem d_L_law_624 : decode c_L_law 624 = .ok (.aload_n 0, 1) := by decide +kernel
theorem d_L_law_625 : decode c_L_law 625 = .ok (.iload 4, 2) := by decide +kernel
theorem d_L_law_627 : decode c_L_law 627 = .ok (.iconst 1, 1) := by decide +kernel
theorem d_L_law_628 : decode c_L_law 628 = .ok (.iadd, 1) := by decide +kernel
theorem d_L_law_629 : decode c_L_law 629 = .ok (.iaload, 1) := by decide +kernel
theorem d_L_law_630 : decode c_L_law 630 = .ok (.i2l, 1) := by decide +kernel
theorem d_L_law_631 : decode c_L_law 631 = .ok (.bipush 32, 2) := by decide +kernel
theorem d_L_law_633 : decode c_L_law 633 = .ok (.lshl, 1) := by decide +kernel
theorem d_L_law_634 : decode c_L_law 634 = .ok (.aload_n 0, 1) := by decide +kernel
theorem d_L_law_635 : decode c_L_law 635 = .ok (.iload 4, 2) := by decide +kernel
theorem d_L_law_637 : decode c_L_law 637 = .ok (.iconst 2, 1) := by decide +kernel
theorem d_L_law_638 : decode c_L_law 638 = .ok (.iadd, 1) := by decide +kernel
theorem d_L_law_639 : decode c_L_law 639 = .ok (.iaload, 1) := by decide +kernel
theorem d_L_law_640 : decode c_L_law 640 = .ok (.i2l, 1) := by decide +kernel
theorem d_L_law_641 : decode c_L_law 641 = .ok (.ldc2_w 102, 3) := by decide +kernel
theorem d_L_law_644 : decode c_L_law 644 = .ok (.land, 1) := by decide +kernel
theorem d_L_law_645 : decode c_L_law 645 = .ok (.lor, 1) := by decide +kernel
theorem d_L_law_646 : decode c_L_law 646 = .ok (.aload_n 0, 1) := by decide +kernel
theorem d_L_law_647 : decode c_L_law 647 = .ok (.iload 4, 2) := by decide +kernel
theorem d_L_law_649 : decode c_L_law 649 = .ok (.iconst 3, 1) := by decide +kernel
theorem d_L_law_650 : decode c_L_law 650 = .ok (.iadd, 1) := by decide +kernel
theorem d_L_law_651 : decode c_L_law 651 = .ok (.iaload, 1) := by decide +kernel
theorem d_L_law_652 : decode c_L_law 652 = .ok (.aload_n 3, 1) := by decide +kernel
theorem d_L_law_653 : decode c_L_law 653 = .ok (.invokestatic 104, 3) := by decide +kernel
theorem d_L_law_656 : decode c_L_law 656 = .ok (.istore 5, 2) := by decide +kernel
theorem d_L_law_658 : decode c_L_law 658 = .ok (.aload_n 2, 1) := by decide +kernel
theorem d_L_law_659 : decode c_L_law 659 = .ok (.aload_n 0, 1) := by decide +kernel
theorem d_L_law_660 : decode c_L_law 660 = .ok (.iload 4, 2) := by decide +kernel
theorem d_L_law_662 : decode c_L_law 662 = .ok (.iconst 1, 1) := by decide +kernel
theorem d_L_law_663 : decode c_L_law 663 = .ok (.iadd, 1) := by decide +kernel
theorem d_L_law_664 : decode c_L_law 664 = .ok (.iaload, 1) := by decide +kernel
theorem d_L_law_665 : decode c_L_law 665 = .ok (.i2l, 1) := by decide +kernel
theorem d_L_law_666 : decode c_L_law 666 = .ok (.bipush 32, 2) := by decide +kernel
theorem d_L_law_668 : decode c_L_law 668 = .ok (.lshl, 1) := by decide +kernel
theorem d_L_law_669 : decode c_L_law 669 = .ok (.aload_n 0, 1) := by decide +kernel
theorem d_L_law_670 : decode c_L_law 670 = .ok (.iload 4, 2) := by decide +kernel
theorem d_L_law_672 : decode c_L_law 672 = .ok (.iconst 2, 1) := by decide +kernel
theorem d_L_law_673 : decode c_L_law 673 = .ok (.iadd, 1) := by decide +kernel
theorem d_L_law_674 : decode c_L_law 674 = .ok (.iaload, 1) := by decide +kernel
theorem d_L_law_675 : decode c_L_law 675 = .ok (.i2l, 1) := by decide +kernel
theorem d_L_law_676 : decode c_L_law 676 = .ok (.ldc2_w 102, 3) := by decide +kernel
theorem d_L_law_679 : decode c_L_law 679 = .ok (.land, 1) := by decide +kernel
theorem d_L_law_680 : decode c_L_law 680 = .ok (.lor, 1) := by decide +kernel
theorem d_L_law_681 : decode c_L_law 681 = .ok (.aload_n 0, 1) := by decide +kernel
theorem d_L_law_682 : decode c_L_law 682 = .ok (.iload 4, 2) := by decide +kernel
theorem d_L_law_684 : decode c_L_law 684 = .ok (.iconst 3, 1) := by decide +kernel
theorem d_L_law_685 : decode c_L_law 685 = .ok (.iadd, 1) := by decide +kernel
theorem d_L_law_686 : decode c_L_law 686 = .ok (.iaload, 1) := by decide +kernel
theorem d_L_law_687 : decode c_L_law 687 = .ok (.invokevirtual 107, 3) := by decide +kernel
theorem d_L_law_690 : decode c_L_law 690 = .ok (.istore 6, 2) := by decide +kernel
theorem d_L_law_692 : decode c_L_law 692 = .ok (.aload_n 2, 1) := by decide +kernel
theorem d_L_law_693 : decode c_L_law 693 = .ok (.invokevirtual 67, 3) := by decide +kernel
theorem d_L_law_696 : decode c_L_law 696 = .ok (.iload 5, 2) := by decide +kernel
theorem d_L_law_698 : decode c_L_law 698 = .ok (.if_icmp .eq 5, 3) := by decide +kernel
theorem d_L_law_701 : decode c_L_law 701 = .ok (.iconst 0, 1) := by decide +kernel
theorem d_L_law_702 : decode c_L_law 702 = .ok (.ireturn, 1) := by decide +kernel
theorem d_L_law_703 : decode c_L_law 703 = .ok (.iload 5, 2) := by decide +kernel
theorem d_L_law_705 : decode c_L_law 705 = .ok (.ifCond .ne 22, 3) := by decide +kernel
theorem d_L_law_708 : decode c_L_law 708 = .ok (.aload_n 3, 1) := by decide +kernel
theorem d_L_law_709 : decode c_L_law 709 = .ok (.iconst 0, 1) := by decide +kernel
theorem d_L_law_710 : decode c_L_law 710 = .ok (.laload, 1) := by decide +kernel
theorem d_L_law_711 : decode c_L_law 711 = .ok (.iload 6, 2) := by decide +kernel
theorem d_L_law_713 : decode c_L_law 713 = .ok (.ifCond .eq 7, 3) := by decide +kernel
theorem d_L_law_716 : decode c_L_law 716 = .ok (.lconst 1, 1) := by decide +kernel
theorem d_L_law_717 : decode c_L_law 717 = .ok (.goto 4, 3) := by decide +kernel
theorem d_L_law_720 : decode c_L_law 720 = .ok (.lconst 0, 1) := by decide +kernel
theorem d_L_law_721 : decode c_L_law 721 = .ok (.lcmp, 1) := by decide +kernel
theorem d_L_law_722 : decode c_L_law 722 = .ok (.ifCond .eq 5, 3) := by decide +kernel
theorem d_L_law_725 : decode c_L_law 725 = .ok (.iconst 0, 1) := by decide +kernel
theorem d_L_law_726 : decode c_L_law 726 = .ok (.ireturn, 1) := by decide +kernel
theorem d_L_law_727 : decode c_L_law 727 = .ok (.goto 183, 3) := by decide +kernel
theorem d_L_law_730 : decode c_L_law 730 = .ok (.aload_n 1, 1) := by decide +kernel
theorem d_L_law_731 : decode c_L_law 731 = .ok (.aload_n 3, 1) := by decide +kernel
theorem d_L_law_732 : decode c_L_law 732 = .ok (.invokestatic 108, 3) := by decide +kernel
theorem d_L_law_735 : decode c_L_law 735 = .ok (.istore 5, 2) := by decide +kernel
theorem d_L_law_737 : decode c_L_law 737 = .ok (.aload_n 2, 1) := by decide +kernel
theorem d_L_law_738 : decode c_L_law 738 = .ok (.invokevirtual 111, 3) := by decide +kernel
theorem d_L_law_741 : decode c_L_law 741 = .ok (.istore 6, 2) := by decide +kernel
theorem d_L_law_743 : decode c_L_law 743 = .ok (.aload_n 2, 1) := by decide +kernel
theorem d_L_law_744 : decode c_L_law 744 = .ok (.invokevirtual 67, 3) := by decide +kernel
theorem d_L_law_747 : decode c_L_law 747 = .ok (.iload 5, 2) := by decide +kernel
theorem d_L_law_749 : decode c_L_law 749 = .ok (.if_icmp .eq 5, 3) := by decide +kernel
theorem d_L_law_752 : decode c_L_law 752 = .ok (.iconst 0, 1) := by decide +kernel
theorem d_L_law_753 : decode c_L_law 753 = .ok (.ireturn, 1) := by decide +kernel
theorem d_L_law_754 : decode c_L_law 754 = .ok (.iload 5, 2) := by decide +kernel
theorem d_L_law_756 : decode c_L_law 756 = .ok (.ifCond .ne 15, 3) := by decide +kernel
theorem d_L_law_759 : decode c_L_law 759 = .ok (.aload_n 3, 1) := by decide +kernel
theorem d_L_law_760 : decode c_L_law 760 = .ok (.iconst 0, 1) := by decide +kernel
theorem d_L_law_761 : decode c_L_law 761 = .ok (.laload, 1) := by decide +kernel
theorem d_L_law_762 : decode c_L_law 762 = .ok (.iload 6, 2) := by decide +kernel
theorem d_L_law_764 : decode c_L_law 764 = .ok (.i2l, 1) := by decide +kernel
theorem d_L_law_765 : decode c_L_law 765 = .ok (.lcmp, 1) := by decide +kernel
theorem d_L_law_766 : decode c_L_law 766 = .ok (.ifCond .eq 5, 3) := by decide +kernel
theorem d_L_law_769 : decode c_L_law 769 = .ok (.iconst 0, 1) := by decide +kernel
theorem d_L_law_770 : decode c_L_law 770 = .ok (.ireturn, 1) := by decide +kernel
theorem d_L_law_771 : decode c_L_law 771 = .ok (.goto 139, 3) := by decide +kernel
theorem d_L_law_774 : decode c_L_law 774 = .ok (.aload_n 1, 1) := by decide +kernel
theorem d_L_law_775 : decode c_L_law 775 = .ok (.aload_n 0, 1) := by decide +kernel
theorem d_L_law_776 : decode c_L_law 776 = .ok (.iload 4, 2) := by decide +kernel
theorem d_L_law_778 : decode c_L_law 778 = .ok (.iconst 1, 1) := by decide +kernel
theorem d_L_law_779 : decode c_L_law 779 = .ok (.iadd, 1) := by decide +kernel
theorem d_L_law_780 : decode c_L_law 780 = .ok (.iaload, 1) := by decide +kernel
theorem d_L_law_781 : decode c_L_law 781 = .ok (.aload_n 0, 1) := by decide +kernel
theorem d_L_law_782 : decode c_L_law 782 = .ok (.iload 4, 2) := by decide +kernel
theorem d_L_law_784 : decode c_L_law 784 = .ok (.iconst 2, 1) := by decide +kernel
theorem d_L_law_785 : decode c_L_law 785 = .ok (.iadd, 1) := by decide +kernel
theorem d_L_law_786 : decode c_L_law 786 = .ok (.iaload, 1) := by decide +kernel
theorem d_L_law_787 : decode c_L_law 787 = .ok (.aload_n 3, 1) := by decide +kernel
theorem d_L_law_788 : decode c_L_law 788 = .ok (.invokestatic 112, 3) := by decide +kernel
theorem d_L_law_791 : decode c_L_law 791 = .ok (.istore 5, 2) := by decide +kernel
theorem d_L_law_793 : decode c_L_law 793 = .ok (.aload_n 2, 1) := by decide +kernel
theorem d_L_law_794 : decode c_L_law 794 = .ok (.aload_n 0, 1) := by decide +kernel
theorem d_L_law_795 : decode c_L_law 795 = .ok (.iload 4, 2) := by decide +kernel
theorem d_L_law_797 : decode c_L_law 797 = .ok (.iconst 1, 1) := by decide +kernel
theorem d_L_law_798 : decode c_L_law 798 = .ok (.iadd, 1) := by decide +kernel
theorem d_L_law_799 : decode c_L_law 799 = .ok (.iaload, 1) := by decide +kernel
theorem d_L_law_800 : decode c_L_law 800 = .ok (.aload_n 0, 1) := by decide +kernel
theorem d_L_law_801 : decode c_L_law 801 = .ok (.iload 4, 2) := by decide +kernel
theorem d_L_law_803 : decode c_L_law 803 = .ok (.iconst 2, 1) := by decide +kernel
theorem d_L_law_804 : decode c_L_law 804 = .ok (.iadd, 1) := by decide +kernel
theorem d_L_law_805 : decode c_L_law 805 = .ok (.iaload, 1) := by decide +kernel
theorem d_L_law_806 : decode c_L_law 806 = .ok (.invokevirtual 114, 3) := by decide +kernel
theorem d_L_law_809 : decode c_L_law 809 = .ok (.istore 6, 2) := by decide +kernel
theorem d_L_law_811 : decode c_L_law 811 = .ok (.aload_n 2, 1) := by decide +kernel
theorem d_L_law_812 : decode c_L_law 812 = .ok (.invokevirtual 67, 3) := by decide +kernel
theorem d_L_law_815 : decode c_L_law 815 = .ok (.iload 5, 2) := by decide +kernel
theorem d_L_law_817 : decode c_L_law 817 = .ok (.if_icmp .eq 5, 3) := by decide +kernel
theorem d_L_law_820 : decode c_L_law 820 = .ok (.iconst 0, 1) := by decide +kernel
theorem d_L_law_821 : decode c_L_law 821 = .ok (.ireturn, 1) := by decide +kernel
theorem d_L_law_822 : decode c_L_law 822 = .ok (.iload 5, 2) := by decide +kernel
theorem d_L_law_824 : decode c_L_law 824 = .ok (.ifCond .ne 15, 3) := by decide +kernel
theorem d_L_law_827 : decode c_L_law 827 = .ok (.aload_n 3, 1) := by decide +kernel
theorem d_L_law_828 : decode c_L_law 828 = .ok (.iconst 0, 1) := by decide +kernel
theorem d_L_law_829 : decode c_L_law 829 = .ok (.laload, 1) := by decide +kernel
theorem d_L_law_830 : decode c_L_law 830 = .ok (.iload 6, 2) := by decide +kernel
theorem d_L_law_832 : decode c_L_law 832 = .ok (.i2l, 1) := by decide +kernel
theorem d_L_law_833 : decode c_L_law 833 = .ok (.lcmp, 1) := by decide +kernel
theorem d_L_law_834 : decode c_L_law 834 = .ok (.ifCond .eq 5, 3) := by decide +kernel
theorem d_L_law_837 : decode c_L_law 837 = .ok (.iconst 0, 1) := by decide +kernel
theorem d_L_law_838 : decode c_L_law 838 = .ok (.ireturn, 1) := by decide +kernel
theorem d_L_law_839 : decode c_L_law 839 = .ok (.goto 71, 3) := by decide +kernel
theorem d_L_law_842 : decode c_L_law 842 = .ok (.aload_n 1, 1) := by decide +kernel
theorem d_L_law_843 : decode c_L_law 843 = .ok (.aload_n 0, 1) := by decide +kernel
theorem d_L_law_844 : decode c_L_law 844 = .ok (.iload 4, 2) := by decide +kernel
theorem d_L_law_846 : decode c_L_law 846 = .ok (.iconst 1, 1) := by decide +kernel
theorem d_L_law_847 : decode c_L_law 847 = .ok (.iadd, 1) := by decide +kernel
theorem d_L_law_848 : decode c_L_law 848 = .ok (.iaload, 1) := by decide +kernel
theorem d_L_law_849 : decode c_L_law 849 = .ok (.aload_n 0, 1) := by decide +kernel
theorem d_L_law_850 : decode c_L_law 850 = .ok (.iload 4, 2) := by decide +kernel
theorem d_L_law_852 : decode c_L_law 852 = .ok (.iconst 2, 1) := by decide +kernel
theorem d_L_law_853 : decode c_L_law 853 = .ok (.iadd, 1) := by decide +kernel
theorem d_L_law_854 : decode c_L_law 854 = .ok (.iaload, 1) := by decide +kernel
theorem d_L_law_855 : decode c_L_law 855 = .ok (.aload_n 3, 1) := by decide +kernel
theorem d_L_law_856 : decode c_L_law 856 = .ok (.invokestatic 115, 3) := by decide +kernel
theorem d_L_law_859 : decode c_L_law 859 = .ok (.istore 5, 2) := by decide +kernel
theorem d_L_law_861 : decode c_L_law 861 = .ok (.aload_n 2, 1) := by decide +kernel
theorem d_L_law_862 : decode c_L_law 862 = .ok (.aload_n 0, 1) := by decide +kernel
theorem d_L_law_863 : decode c_L_law 863 = .ok (.iload 4, 2) := by decide +kernel
theorem d_L_law_865 : decode c_L_law 865 = .ok (.iconst 1, 1) := by decide +kernel
theorem d_L_law_866 : decode c_L_law 866 = .ok (.iadd, 1) := by decide +kernel
theorem d_L_law_867 : decode c_L_law 867 = .ok (.iaload, 1) := by decide +kernel
theorem d_L_law_868 : decode c_L_law 868 = .ok (.aload_n 0, 1) := by decide +kernel
theorem d_L_law_869 : decode c_L_law 869 = .ok (.iload 4, 2) := by decide +kernel
theorem d_L_law_871 : decode c_L_law 871 = .ok (.iconst 2, 1) := by decide +kernel
theorem d_L_law_872 : decode c_L_law 872 = .ok (.iadd, 1) := by decide +kernel
theorem d_L_law_873 : decode c_L_law 873 = .ok (.iaload, 1) := by decide +kernel
theorem d_L_law_874 : decode c_L_law 874 = .ok (.invokevirtual 117, 3) := by decide +kernel
theorem d_L_law_877 : decode c_L_law 877 = .ok (.istore 6, 2) := by decide +kernel
theorem d_L_law_879 : decode c_L_law 879 = .ok (.aload_n 2, 1) := by decide +kernel
theorem d_L_law_880 : decode c_L_law 880 = .ok (.invokevirtual 67, 3) := by decide +kernel
theorem d_L_law_883 : decode c_L_law 883 = .ok (.iload 5, 2) := by decide +kernel
theorem d_L_law_885 : decode c_L_law 885 = .ok (.if_icmp .eq 5, 3) := by decide +kernel
theorem d_L_law_888 : decode c_L_law 888 = .ok (.iconst 0, 1) := by decide +kernel
theorem d_L_law_889 : decode c_L_law 889 = .ok (.ireturn, 1) := by decide +kernel
theorem d_L_law_890 : decode c_L_law 890 = .ok (.iload 5, 2) := by decide +kernel
theorem d_L_law_892 : decode c_L_law 892 = .ok (.ifCond .ne 15, 3) := by decide +kernel
theorem d_L_law_895 : decode c_L_law 895 = .ok (.aload_n 3, 1) := by decide +kernel
theorem d_L_law_896 : decode c_L_law 896 = .ok (.iconst 0, 1) := by decide +kernel
theorem d_L_law_897 : decode c_L_law 897 = .ok (.laload, 1) := by decide +kernel
theorem d_L_law_898 : decode c_L_law 898 = .ok (.iload 6, 2) := by decide +kernel
theorem d_L_law_900 : decode c_L_law 900 = .ok (.i2l, 1) := by decide +kernel
theorem d_L_law_901 : decode c_L_law 901 = .ok (.lcmp, 1) := by decide +kernel
theorem d_L_law_902 : decode c_L_law 902 = .ok (.ifCond .eq 5, 3) := by decide +kernel
theorem d_L_law_905 : decode c_L_law 905 = .ok (.iconst 0, 1) := by decide +kernel
theorem d_L_law_906 : decode c_L_law 906 = .ok (.ireturn, 1) := by decide +kernel
theorem d_L_law_907 : decode c_L_law 907 = .ok (.goto 3, 3) := by decide +kernel
theorem d_L_law_910 : decode c_L_law 910 = .ok (.iinc 4 4, 3) := by decide +kernel
theorem d_L_law_913 : decode c_L_law 913 = .ok (.goto (-890), 3) := by decide +kernel
theorem d_L_law_916 : decode c_L_law 916 = .ok (.iconst 1, 1) := by decide +kernel
theorem d_L_law_917 : decode c_L_law 917 = .ok (.ireturn, 1) := by decide +kernel
end
section
/-! classes, cells of the world, words (by program) -/
def Rn_G : String := "ReadGraph"
def Tn_G : u_T := fun k => match k with
  | 0 => ("ReadGraph", "reads", "LReadGraph$Reads;", true)
  | 1 => ("ReadGraph", "edges", "LReadGraph$Edges;", true)
  | _ => ("ReadGraph", "greatest", "LReadGraph$Walks;", true)
def ty_G : Nat → FieldType := fun k => match k with
  | 0 => .object "ReadGraph$Reads"
  | 1 => .object "ReadGraph$Edges"
  | _ => .object "ReadGraph$Walks"
theorem nm_G : ∀ a, a < 3 → ∀ b, b < 3 → a ≠ b → (Tn_G a).2.1 ≠ (Tn_G b).2.1 := by decide +kernel
theorem ty_G_ok : ∀ k, k < 3 → parseFieldDescriptor (Tn_G k).2.2.1 = some (ty_G k) := by decide +kernel
def Rn_R : String := "ReadGraph$Reads"
def Tn_R : u_T := fun k => match k with
  | 0 => ("ReadGraph$Reads", "packed", "[I", true)
  | 1 => ("ReadGraph$Reads", "lengths", "[I", true)
  | _ => ("ReadGraph$Reads", "count", "I", false)
def ty_R : Nat → FieldType := fun k => match k with
  | 0 => .array .int
  | 1 => .array .int
  | _ => .int
theorem nm_R : ∀ a, a < 3 → ∀ b, b < 3 → a ≠ b → (Tn_R a).2.1 ≠ (Tn_R b).2.1 := by decide +kernel
theorem ty_R_ok : ∀ k, k < 3 → parseFieldDescriptor (Tn_R k).2.2.1 = some (ty_R k) := by decide +kernel
def Rn_E : String := "ReadGraph$Edges"
def Tn_E : u_T := fun k => match k with
  | 0 => ("ReadGraph$Edges", "hangs", "[I", true)
  | 1 => ("ReadGraph$Edges", "from", "[I", true)
  | 2 => ("ReadGraph$Edges", "to", "[I", true)
  | 3 => ("ReadGraph$Edges", "hang", "[I", true)
  | 4 => ("ReadGraph$Edges", "firstOut", "[I", true)
  | 5 => ("ReadGraph$Edges", "after", "[I", true)
  | 6 => ("ReadGraph$Edges", "before", "[I", true)
  | 7 => ("ReadGraph$Edges", "reached", "[I", true)
  | 8 => ("ReadGraph$Edges", "nodes", "I", false)
  | 9 => ("ReadGraph$Edges", "laid", "I", false)
  | _ => ("ReadGraph$Edges", "count", "I", false)
def ty_E : Nat → FieldType := fun k => match k with
  | 0 => .array .int
  | 1 => .array .int
  | 2 => .array .int
  | 3 => .array .int
  | 4 => .array .int
  | 5 => .array .int
  | 6 => .array .int
  | 7 => .array .int
  | 8 => .int
  | 9 => .int
  | _ => .int
theorem nm_E : ∀ a, a < 11 → ∀ b, b < 11 → a ≠ b → (Tn_E a).2.1 ≠ (Tn_E b).2.1 := by decide +kernel
theorem ty_E_ok : ∀ k, k < 11 → parseFieldDescriptor (Tn_E k).2.2.1 = some (ty_E k) := by decide +kernel
def Rn_W : String := "ReadGraph$Walks"
def Tn_W : u_T := fun k => match k with
  | 0 => ("ReadGraph$Walks", "edges", "LReadGraph$Edges;", true)
  | 1 => ("ReadGraph$Walks", "rows", "[I", true)
  | 2 => ("ReadGraph$Walks", "lengths", "[I", true)
  | 3 => ("ReadGraph$Walks", "count", "I", false)
  | 4 => ("ReadGraph$Walks", "trail", "[I", true)
  | 5 => ("ReadGraph$Walks", "next", "[I", true)
  | _ => ("ReadGraph$Walks", "length", "I", false)
def ty_W : Nat → FieldType := fun k => match k with
  | 0 => .object "ReadGraph$Edges"
  | 1 => .array .int
  | 2 => .array .int
  | 3 => .int
  | 4 => .array .int
  | 5 => .array .int
  | _ => .int
theorem nm_W : ∀ a, a < 7 → ∀ b, b < 7 → a ≠ b → (Tn_W a).2.1 ≠ (Tn_W b).2.1 := by decide +kernel
theorem ty_W_ok : ∀ k, k < 7 → parseFieldDescriptor (Tn_W k).2.2.1 = some (ty_W k) := by decide +kernel
def Rn_M : String := "ReadGraphModel"
def Tn_M : u_T := fun k => match k with
  | 0 => ("ReadGraphModel", "thrown", "I", false)
  | 1 => ("ReadGraphModel", "reads", "I", false)
  | 2 => ("ReadGraphModel", "size", "[I", true)
  | 3 => ("ReadGraphModel", "letters", "[I", true)
  | 4 => ("ReadGraphModel", "contained", "[Z", true)
  | 5 => ("ReadGraphModel", "every", "I", false)
  | 6 => ("ReadGraphModel", "everyFrom", "[I", true)
  | 7 => ("ReadGraphModel", "everyTo", "[I", true)
  | 8 => ("ReadGraphModel", "everyOverlap", "[I", true)
  | 9 => ("ReadGraphModel", "edges", "I", false)
  | 10 => ("ReadGraphModel", "from", "[I", true)
  | 11 => ("ReadGraphModel", "to", "[I", true)
  | 12 => ("ReadGraphModel", "overlap", "[I", true)
  | 13 => ("ReadGraphModel", "reached", "[Z", true)
  | 14 => ("ReadGraphModel", "known", "[I", true)
  | 15 => ("ReadGraphModel", "path", "[I", true)
  | 16 => ("ReadGraphModel", "tried", "[I", true)
  | 17 => ("ReadGraphModel", "walks", "I", false)
  | 18 => ("ReadGraphModel", "walkSize", "[I", true)
  | _ => ("ReadGraphModel", "walkEdges", "[I", true)
def ty_M : Nat → FieldType := fun k => match k with
  | 0 => .int
  | 1 => .int
  | 2 => .array .int
  | 3 => .array .int
  | 4 => .array .boolean
  | 5 => .int
  | 6 => .array .int
  | 7 => .array .int
  | 8 => .array .int
  | 9 => .int
  | 10 => .array .int
  | 11 => .array .int
  | 12 => .array .int
  | 13 => .array .boolean
  | 14 => .array .int
  | 15 => .array .int
  | 16 => .array .int
  | 17 => .int
  | 18 => .array .int
  | _ => .array .int
theorem nm_M : ∀ a, a < 20 → ∀ b, b < 20 → a ≠ b → (Tn_M a).2.1 ≠ (Tn_M b).2.1 := by decide +kernel
theorem ty_M_ok : ∀ k, k < 20 → parseFieldDescriptor (Tn_M k).2.2.1 = some (ty_M k) := by decide +kernel
abbrev rg_cl : List vw_C := [(Rn_G, Tn_G, 3), (Rn_R, Tn_R, 3), (Rn_E, Tn_E, 11), (Rn_W, Tn_W, 7), (Rn_M, Tn_M, 20)]
abbrev rg_K : Type := (Nat × Nat) ⊕ (Nat × List (Option Nat))
/-- the cells: 0 ReadGraph, 1 Reads, 4 Edges, 13 Walks, 18 the reference, 34 the law's out; the others their arrays -/
def rg_lay : List rg_K := [.inr (0, [some 1, some 4, some 13]), .inr (1, [some 2, some 3, none]), .inl (0, 9), .inl (0, 9), .inr (2, [some 5, some 6, some 7, some 8, some 9, some 10, some 11, some 12, none, none, none]), .inl (0, 81), .inl (0, 72), .inl (0, 72), .inl (0, 72), .inl (0, 10), .inl (0, 9), .inl (0, 9), .inl (0, 9), .inr (3, [some 4, some 14, some 15, none, some 16, some 17, none]), .inl (0, 2000), .inl (0, 50), .inl (0, 40), .inl (0, 40), .inr (4, [none, none, some 19, some 20, some 21, none, some 22, some 23, some 24, none, some 25, some 26, some 27, some 28, some 29, some 30, some 31, none, some 32, some 33]), .inl (0, 9), .inl (0, 108), .inl (1, 9), .inl (0, 81), .inl (0, 81), .inl (0, 81), .inl (0, 81), .inl (0, 81), .inl (0, 81), .inl (1, 81), .inl (0, 6561), .inl (0, 44), .inl (0, 44), .inl (0, 50), .inl (0, 2000), .inl (2, 1)]
def rg_isN : Cond → Bool
  | .fieldLinkNest .. => true
  | .methodLinkNest .. => true
  | _ => false
/-- the tables' words that a callee may ask of its caller's; those of nest mates -/
def rg_TS : List Cond := lw_tbl.filter goodWord
def rg_NW : List Cond := tables_1.filter rg_isN
theorem rg_TS_ok : ∀ w ∈ rg_TS, goodWord w = true := fun w h => (List.mem_filter.mp h).2
theorem rg_NW_ok : ∀ w ∈ rg_NW, rg_isN w = true := fun w h => (List.mem_filter.mp h).2
theorem rg_in {w : Cond} (g : goodWord w = true) (h : w ∈ tables_1) : w ∈ rg_TS := List.mem_filter.mpr ⟨List.mem_append_right _ h, g⟩
theorem rg_inS {w : Cond} (g : goodWord w = true) (h : w ∈ k2_sels lw_privs) : w ∈ rg_TS := List.mem_filter.mpr ⟨List.mem_append_left _ h, g⟩
theorem rg_inN {w : Cond} (g : rg_isN w = true) (h : w ∈ tables_1) : w ∈ rg_NW := List.mem_filter.mpr ⟨h, g⟩
theorem us_G : ∀ w ∈ u_ws Rn_G Tn_G 3, w ∈ rg_TS := by
  intro w hw
  obtain ⟨k, hk, rfl⟩ := List.mem_map.mp hw
  have hk := List.mem_range.mp hk
  have h : ∀ k, k < 3 → goodWord (u_lay Rn_G Tn_G k) = true ∧ u_lay Rn_G Tn_G k ∈ tables_1 := by decide +kernel
  exact rg_in (h k hk).1 (h k hk).2
theorem us_R : ∀ w ∈ u_ws Rn_R Tn_R 3, w ∈ rg_TS := by
  intro w hw
  obtain ⟨k, hk, rfl⟩ := List.mem_map.mp hw
  have hk := List.mem_range.mp hk
  have h : ∀ k, k < 3 → goodWord (u_lay Rn_R Tn_R k) = true ∧ u_lay Rn_R Tn_R k ∈ tables_1 := by decide +kernel
  exact rg_in (h k hk).1 (h k hk).2
theorem us_E : ∀ w ∈ u_ws Rn_E Tn_E 11, w ∈ rg_TS := by
  intro w hw
  obtain ⟨k, hk, rfl⟩ := List.mem_map.mp hw
  have hk := List.mem_range.mp hk
  have h : ∀ k, k < 11 → goodWord (u_lay Rn_E Tn_E k) = true ∧ u_lay Rn_E Tn_E k ∈ tables_1 := by decide +kernel
  exact rg_in (h k hk).1 (h k hk).2
theorem us_W : ∀ w ∈ u_ws Rn_W Tn_W 7, w ∈ rg_TS := by
  intro w hw
  obtain ⟨k, hk, rfl⟩ := List.mem_map.mp hw
  have hk := List.mem_range.mp hk
  have h : ∀ k, k < 7 → goodWord (u_lay Rn_W Tn_W k) = true ∧ u_lay Rn_W Tn_W k ∈ tables_1 := by decide +kernel
  exact rg_in (h k hk).1 (h k hk).2
theorem us_M : ∀ w ∈ u_ws Rn_M Tn_M 20, w ∈ rg_TS := by
  intro w hw
  obtain ⟨k, hk, rfl⟩ := List.mem_map.mp hw
  have hk := List.mem_range.mp hk
  have h : ∀ k, k < 20 → goodWord (u_lay Rn_M Tn_M k) = true ∧ u_lay Rn_M Tn_M k ∈ tables_1 := by decide +kernel
  exact rg_in (h k hk).1 (h k hk).2
theorem rg_cls_ok : ∀ (ci : Nat) (C : String) (T : u_T) (N : Nat), rg_cl[ci]? = some (C, T, N) → (∀ w ∈ u_ws C T N, w ∈ rg_TS) ∧ ∃ ty0 : Nat → FieldType, (∀ k, k < N → parseFieldDescriptor (T k).2.2.1 = some (ty0 k)) ∧ ∀ a, a < N → ∀ b, b < N → a ≠ b → (T a).2.1 ≠ (T b).2.1
  | 0, _, _, _, h => by cases h; exact ⟨us_G, ty_G, ty_G_ok, nm_G⟩
  | 1, _, _, _, h => by cases h; exact ⟨us_R, ty_R, ty_R_ok, nm_R⟩
  | 2, _, _, _, h => by cases h; exact ⟨us_E, ty_E, ty_E_ok, nm_E⟩
  | 3, _, _, _, h => by cases h; exact ⟨us_W, ty_W, ty_W_ok, nm_W⟩
  | 4, _, _, _, h => by cases h; exact ⟨us_M, ty_M, ty_M_ok, nm_M⟩
  | _ + 5, _, _, _, h => by cases h
theorem rg_int_chk : (rg_lay.all fun q => match q with
    | .inl _ => true
    | .inr (ci, fs) => match rg_cl[ci]? with
      | none => true
      | some (_, T, _) => (List.range fs.length).all fun j => match fs[j]? with
        | some none => (T j).2.2.2 == false && (T j).2.2.1 == "I"
        | _ => true) = true := by decide +kernel
theorem rg_int_ok (o ci : Nat) (fs : List (Option Nat)) (j : Nat) (C : String) (T : u_T) (N : Nat) (h1 : rg_lay[o]? = some (.inr (ci, fs))) (h2 : fs[j]? = some none) (h3 : rg_cl[ci]? = some (C, T, N)) : (T j).2.2.2 = false ∧ (T j).2.2.1 = "I" := by
  have h := List.all_eq_true.mp rg_int_chk _ (List.mem_of_getElem? h1)
  simp only [h3] at h
  have hj : j < fs.length := (List.getElem?_eq_some_iff.mp h2).1
  have h := List.all_eq_true.mp h j (List.mem_range.mpr hj)
  simp only [h2, Bool.and_eq_true, beq_iff_eq] at h
  exact h
end
section
/-! values of a walk: .ref k is cell k of the world, .retAddr a a plain address, .null an unknown local; a result .float k: exception k was thrown -/
def rg_v (ad : Nat → Nat) : Value → Value
  | .int x => .int x
  | .long x => .long x
  | .float x => .float x
  | .double x => .double x
  | .null => .null
  | .ref k => .ref (ad k)
  | .retAddr a => .ref a
theorem rg_v_cat (ad : Nat → Nat) (v : Value) : (rg_v ad v).category = v.category := by cases v <;> rfl
/-- ints and longs of the cells, by cell and place -/
abbrev rg_W : Type := (Nat → Nat → Int32) × (Nat → Nat → Int64)
def rg_up (w : rg_W) (k j : Nat) (x : Int32) : rg_W := (fun a => if a = k then upd (w.1 a) j x else w.1 a, w.2)
def rg_upL (w : rg_W) (k j : Nat) (x : Int64) : rg_W := (w.1, fun a => if a = k then vp_updL (w.2 a) j x else w.2 a)
theorem rg_up_s (w : rg_W) (k j : Nat) (x : Int32) : (rg_up w k j x).1 k = upd (w.1 k) j x := if_pos rfl
theorem rg_up_n {w : rg_W} {k j a : Nat} {x : Int32} (h : a ≠ k) : (rg_up w k j x).1 a = w.1 a := if_neg h
theorem rg_up_2 (w : rg_W) (k j : Nat) (x : Int32) : (rg_up w k j x).2 = w.2 := rfl
theorem rg_upL_s (w : rg_W) (k j : Nat) (x : Int64) : (rg_upL w k j x).2 k = vp_updL (w.2 k) j x := if_pos rfl
theorem rg_upL_n {w : rg_W} {k j a : Nat} {x : Int64} (h : a ≠ k) : (rg_upL w k j x).2 a = w.2 a := if_neg h
theorem rg_upL_1 (w : rg_W) (k j : Nat) (x : Int64) : (rg_upL w k j x).1 = w.1 := rfl
def rg_lk {α : Type} : List (Nat × α) → Nat → Option α
  | [], _ => none
  | (i, a) :: r, j => if i = j then some a else rg_lk r j
theorem rg_lk_mem {α : Type} {l : List (Nat × α)} {j : Nat} {a : α} (h : rg_lk l j = some a) : (j, a) ∈ l := by
  induction l with
  | nil => cases h
  | cons q r ih =>
    obtain ⟨i, x⟩ := q
    simp only [rg_lk] at h
    split at h
    · rename_i e
      cases h
      subst e
      exact List.mem_cons_self
    · exact List.mem_cons_of_mem _ (ih h)
abbrev rg_Go : Type := Nat → List Value → List Value → rg_W → Nat → Prop
abbrev rg_Rt : Type := Option Value → rg_W → Nat → Prop
/-- a method's contract: what must hold before it so that each end of it is in K -/
abbrev rg_T : Type := List Value → rg_W → (Option Value → rg_W → Prop) → Prop

def rg_i1 (st : List Value) (f : Int32 → List Value → Prop) : Prop := match st with
  | .int x :: r => f x r
  | _ => False
theorem rg_i1_inv {st : List Value} {f : Int32 → List Value → Prop} (h : rg_i1 st f) : ∃ (x : Int32) (r : List Value), st = .int x :: r ∧ f x r := by
  unfold rg_i1 at h
  split at h
  · exact ⟨_, _, rfl, h⟩
  · exact h.elim
def rg_i2 (st : List Value) (f : Int32 → Int32 → List Value → Prop) : Prop := match st with
  | .int y :: .int x :: r => f x y r
  | _ => False
theorem rg_i2_inv {st : List Value} {f : Int32 → Int32 → List Value → Prop} (h : rg_i2 st f) : ∃ (x : Int32) (y : Int32) (r : List Value), st = .int y :: .int x :: r ∧ f x y r := by
  unfold rg_i2 at h
  split at h
  · exact ⟨_, _, _, rfl, h⟩
  · exact h.elim
def rg_l1 (st : List Value) (f : Int64 → List Value → Prop) : Prop := match st with
  | .long x :: r => f x r
  | _ => False
theorem rg_l1_inv {st : List Value} {f : Int64 → List Value → Prop} (h : rg_l1 st f) : ∃ (x : Int64) (r : List Value), st = .long x :: r ∧ f x r := by
  unfold rg_l1 at h
  split at h
  · exact ⟨_, _, rfl, h⟩
  · exact h.elim
def rg_l2 (st : List Value) (f : Int64 → Int64 → List Value → Prop) : Prop := match st with
  | .long y :: .long x :: r => f x y r
  | _ => False
theorem rg_l2_inv {st : List Value} {f : Int64 → Int64 → List Value → Prop} (h : rg_l2 st f) : ∃ (x : Int64) (y : Int64) (r : List Value), st = .long y :: .long x :: r ∧ f x y r := by
  unfold rg_l2 at h
  split at h
  · exact ⟨_, _, _, rfl, h⟩
  · exact h.elim
def rg_il (st : List Value) (f : Int64 → Int32 → List Value → Prop) : Prop := match st with
  | .int y :: .long x :: r => f x y r
  | _ => False
theorem rg_il_inv {st : List Value} {f : Int64 → Int32 → List Value → Prop} (h : rg_il st f) : ∃ (x : Int64) (y : Int32) (r : List Value), st = .int y :: .long x :: r ∧ f x y r := by
  unfold rg_il at h
  split at h
  · exact ⟨_, _, _, rfl, h⟩
  · exact h.elim
def rg_r1 (st : List Value) (f : Nat → List Value → Prop) : Prop := match st with
  | .ref k :: r => f k r
  | _ => False
theorem rg_r1_inv {st : List Value} {f : Nat → List Value → Prop} (h : rg_r1 st f) : ∃ (k : Nat) (r : List Value), st = .ref k :: r ∧ f k r := by
  unfold rg_r1 at h
  split at h
  · exact ⟨_, _, rfl, h⟩
  · exact h.elim
def rg_ri (st : List Value) (f : Nat → Int32 → List Value → Prop) : Prop := match st with
  | .int i :: .ref k :: r => f k i r
  | _ => False
theorem rg_ri_inv {st : List Value} {f : Nat → Int32 → List Value → Prop} (h : rg_ri st f) : ∃ (k : Nat) (i : Int32) (r : List Value), st = .int i :: .ref k :: r ∧ f k i r := by
  unfold rg_ri at h
  split at h
  · exact ⟨_, _, _, rfl, h⟩
  · exact h.elim
def rg_rii (st : List Value) (f : Nat → Int32 → Int32 → List Value → Prop) : Prop := match st with
  | .int x :: .int i :: .ref k :: r => f k i x r
  | _ => False
theorem rg_rii_inv {st : List Value} {f : Nat → Int32 → Int32 → List Value → Prop} (h : rg_rii st f) : ∃ (k : Nat) (i : Int32) (x : Int32) (r : List Value), st = .int x :: .int i :: .ref k :: r ∧ f k i x r := by
  unfold rg_rii at h
  split at h
  · exact ⟨_, _, _, _, rfl, h⟩
  · exact h.elim
def rg_ril (st : List Value) (f : Nat → Int32 → Int64 → List Value → Prop) : Prop := match st with
  | .long x :: .int i :: .ref k :: r => f k i x r
  | _ => False
theorem rg_ril_inv {st : List Value} {f : Nat → Int32 → Int64 → List Value → Prop} (h : rg_ril st f) : ∃ (k : Nat) (i : Int32) (x : Int64) (r : List Value), st = .long x :: .int i :: .ref k :: r ∧ f k i x r := by
  unfold rg_ril at h
  split at h
  · exact ⟨_, _, _, _, rfl, h⟩
  · exact h.elim
def rg_ir (st : List Value) (f : Nat → Int32 → List Value → Prop) : Prop := match st with
  | .int x :: .ref k :: r => f k x r
  | _ => False
theorem rg_ir_inv {st : List Value} {f : Nat → Int32 → List Value → Prop} (h : rg_ir st f) : ∃ (k : Nat) (x : Int32) (r : List Value), st = .int x :: .ref k :: r ∧ f k x r := by
  unfold rg_ir at h
  split at h
  · exact ⟨_, _, _, rfl, h⟩
  · exact h.elim
def rg_a1 (st : List Value) (f : Value → List Value → Prop) : Prop := match st with
  | v :: r => f v r
  | _ => False
theorem rg_a1_inv {st : List Value} {f : Value → List Value → Prop} (h : rg_a1 st f) : ∃ (v : Value) (r : List Value), st = v :: r ∧ f v r := by
  unfold rg_a1 at h
  split at h
  · exact ⟨_, _, rfl, h⟩
  · exact h.elim
def rg_a2 (st : List Value) (f : Value → Value → List Value → Prop) : Prop := match st with
  | v :: u :: r => f u v r
  | _ => False
theorem rg_a2_inv {st : List Value} {f : Value → Value → List Value → Prop} (h : rg_a2 st f) : ∃ (u : Value) (v : Value) (r : List Value), st = v :: u :: r ∧ f u v r := by
  unfold rg_a2 at h
  split at h
  · exact ⟨_, _, _, rfl, h⟩
  · exact h.elim
def rg_ty : Value → Nat
  | .int _ => 0
  | .long _ => 1
  | .ref _ => 2
  | .retAddr _ => 2
  | _ => 3
def rg_ld : List Value → Nat → Nat → (Value → Prop) → Prop
  | [], _, _, _ => False
  | v :: _, 0, t, f => rg_ty v = t ∧ f v
  | _ :: L, k + 1, t, f => rg_ld L k t f
theorem rg_ld_inv {L : List Value} {k t : Nat} {f : Value → Prop} (h : rg_ld L k t f) : ∃ v, L[k]? = some v ∧ rg_ty v = t ∧ f v := by
  induction L generalizing k with
  | nil => exact h.elim
  | cons a L ih =>
    cases k with
    | zero => exact ⟨a, rfl, h.1, h.2⟩
    | succ k =>
      obtain ⟨v, h1, h2⟩ := ih (k := k) h
      exact ⟨v, by simpa using h1, h2⟩
def rg_clr (v : Value) : Value := if v.category = 2 then .null else v
def rg_st : List Value → Nat → Value → (List Value → Prop) → Prop
  | [], _, _, _ => False
  | _ :: L, 0, v, f => f (v :: L)
  | a :: L, k + 1, v, f => rg_st L k v (fun L' => f ((if k = 0 then rg_clr a else a) :: L'))
theorem rg_st_inv {L : List Value} {k : Nat} {v : Value} {f : List Value → Prop} (h : rg_st L k v f) :
    ∃ L', f L' ∧ k < L.length ∧ L'.length = L.length ∧ ∀ (j : Nat) (u : Value), L'[j]? = some u → u ≠ .null → (j = k ∧ u = v) ∨ (j ≠ k ∧ L[j]? = some u ∧ (j + 1 = k → u.category ≠ 2)) := by
  induction L generalizing k f with
  | nil => exact h.elim
  | cons a L ih =>
    cases k with
    | zero =>
      refine ⟨v :: L, h, by simp, by simp, fun j u hj hu => ?_⟩
      cases j with
      | zero =>
        left
        simp at hj
        exact ⟨rfl, hj.symm⟩
      | succ j =>
        right
        refine ⟨by omega, by simpa using hj, fun q => by omega⟩
    | succ k =>
      obtain ⟨L', h1, h2, h4, h3⟩ := ih (k := k) h
      refine ⟨_, h1, by simp; omega, by simp [h4], fun j u hj hu => ?_⟩
      cases j with
      | zero =>
        right
        simp only [List.getElem?_cons_zero, Option.some.injEq] at hj
        by_cases hk : k = 0
        · rw [if_pos hk] at hj
          unfold rg_clr at hj
          by_cases hc : a.category = 2
          · rw [if_pos hc] at hj
            exact absurd hj.symm hu
          · rw [if_neg hc] at hj
            subst hj
            exact ⟨by omega, rfl, fun _ => hc⟩
        · rw [if_neg hk] at hj
          subst hj
          exact ⟨by omega, rfl, fun q => absurd q (by omega)⟩
      | succ j =>
        simp only [List.getElem?_cons_succ] at hj
        rcases h3 j u hj hu with ⟨q1, q2⟩ | ⟨q1, q2, q3⟩
        · exact Or.inl ⟨by omega, q2⟩
        · exact Or.inr ⟨by omega, by simpa using q2, fun q => q3 (by omega)⟩
def rg_pop : Nat → List Value → List Value → (List Value → List Value → Prop) → Prop
  | 0, as, st, f => f as st
  | _ + 1, _, [], _ => False
  | n + 1, as, v :: st, f => rg_pop n (v :: as) st f
theorem rg_pop_inv {n : Nat} {as st : List Value} {f : List Value → List Value → Prop} (h : rg_pop n as st f) : ∃ bs st', bs.length = n ∧ st = bs.reverse ++ st' ∧ f (bs ++ as) st' := by
  induction n generalizing as st with
  | zero => exact ⟨[], st, rfl, rfl, h⟩
  | succ n ih =>
    cases st with
    | nil => exact h.elim
    | cons v st =>
      obtain ⟨bs, st', h1, h2, h3⟩ := ih (as := v :: as) (st := st) h
      refine ⟨bs ++ [v], st', by simp [h1], by simp [h2], by simpa using h3⟩
def rg_wd : List Value → Nat
  | [] => 0
  | v :: st => v.category + rg_wd st
theorem rg_wd_eq (ad : Nat → Nat) (st : List Value) : ((st.map (rg_v ad)).map fun v => v.category).sum = rg_wd st := by
  induction st with
  | nil => rfl
  | cons v st ih =>
    simp only [List.map_cons, List.sum_cons, rg_wd, rg_v_cat]
    rw [ih]
def rg_psh (r : Option Value) (st : List Value) : List Value := match r with
  | some v => v :: st
  | none => st
def rg_cz (c : ClassFile.Cond) (x : Int32) : Prop := match c with
  | .eq => x = 0
  | .ne => ¬ x = 0
  | .lt => x < 0
  | .ge => 0 ≤ x
  | .gt => 0 < x
  | .le => x ≤ 0
def rg_cc (c : ClassFile.Cond) (x y : Int32) : Prop := match c with
  | .eq => x = y
  | .ne => ¬ x = y
  | .lt => x < y
  | .ge => y ≤ x
  | .gt => y < x
  | .le => x ≤ y
/-- a class's tables: fields (pool index: class, place), calls (pool index: values taken, steps of room, contract), ints, longs, exceptions (pool index of the class at 'new': its number), handlers (exception: pc), most steps of room -/
abbrev rg_P : Type := List (Nat × Nat × Nat) × List (Nat × Nat × Nat × rg_T) × List (Nat × Int32) × List (Nat × Int64) × List (Nat × Nat) × List (Nat × Nat) × Nat
/-- behind a call -/
def rg_nx (hd : List (Nat × Nat)) (pc : Nat) (L st : List Value) (b : Nat) (go : rg_Go) (r : Option Value) (w : rg_W) : Prop := match r with
  | some (.float k) => match rg_lk hd k.toNat with
    | some h => ∀ a : Nat, go h L [.retAddr a] w b
    | none => False
  | r => go (pc + 3) L (rg_psh r st) w b
def rg_inv (P : rg_P) (o : Option (Nat × Nat × rg_T)) (pc : Nat) (L st : List Value) (w : rg_W) (b : Nat) (go : rg_Go) : Prop := match o with
  | none => False
  | some (n, d, T) => (d = 0 ∨ b + d ≤ P.2.2.2.2.2.2) ∧ rg_pop n [] st (fun as st' => rg_wd st' ≤ 8 ∧ T as w (rg_nx P.2.2.2.2.2.1 pc L st' (b + d) go))

/-- what cell o's field k is, o being of class ci -/
def rg_gf (o ci k : Nat) (w : rg_W) : Option Value := match rg_lay[o]? with
  | some (.inr (c, fs)) => if c = ci then (match fs[k]? with
    | some none => some (.int (w.1 o k))
    | some (some q) => some (.ref q)
    | none => none) else none
  | _ => none
def rg_pf (o ci k : Nat) : Bool := match rg_lay[o]? with
  | some (.inr (c, fs)) => c == ci && fs[k]? == some none
  | _ => false
def rg_ar (o : Nat) : Option (Nat × Nat) := match rg_lay[o]? with
  | some (.inl q) => some q
  | _ => none
abbrev rg_X : Type := Option (Nat × (Nat → Int32))
/-- the script is cell 99 -/
def rg_ial (X : rg_X) (a : Option (Nat × Nat)) (k : Nat) (i : Int32) (w : rg_W) (f : Int32 → Prop) : Prop := match a with
  | some (0, n) => vp_in i n ∧ f (w.1 k i.toNatClampNeg)
  | some (_ + 1, _) => False
  | none => match X with
    | some (n, xs) => k = 99 ∧ vp_in i n ∧ f (xs i.toNatClampNeg)
    | none => False
def rg_zal (a : Option (Nat × Nat)) (k : Nat) (i : Int32) (w : rg_W) (f : Int32 → Prop) : Prop := match a with
  | some (1, n) => vp_in i n ∧ f (w.1 k i.toNatClampNeg)
  | _ => False
def rg_lal (a : Option (Nat × Nat)) (k : Nat) (i : Int32) (w : rg_W) (f : Int64 → Prop) : Prop := match a with
  | some (2, n) => vp_in i n ∧ f (w.2 k i.toNatClampNeg)
  | _ => False
def rg_ias (a : Option (Nat × Nat)) (k : Nat) (i x : Int32) (w : rg_W) (f : rg_W → Prop) : Prop := match a with
  | some (0, n) => vp_in i n ∧ f (rg_up w k i.toNatClampNeg x)
  | _ => False
def rg_zas (a : Option (Nat × Nat)) (k : Nat) (i x : Int32) (w : rg_W) (f : rg_W → Prop) : Prop := match a with
  | some (1, n) => vp_in i n ∧ f (rg_up w k i.toNatClampNeg (vp_nar .boolean x))
  | _ => False
def rg_las (a : Option (Nat × Nat)) (k : Nat) (i : Int32) (x : Int64) (w : rg_W) (f : rg_W → Prop) : Prop := match a with
  | some (2, n) => vp_in i n ∧ f (rg_upL w k i.toNatClampNeg x)
  | _ => False
def rg_some {α : Type} (o : Option α) (f : α → Prop) : Prop := match o with
  | some a => f a
  | none => False
theorem rg_some_inv {α : Type} {o : Option α} {f : α → Prop} (h : rg_some o f) : ∃ a, o = some a ∧ f a := by
  cases o with
  | none => exact h.elim
  | some a => exact ⟨a, rfl, h⟩
def rg_tg (pc : Nat) (off : Int) : Nat := ((pc : Int) + off).toNat

def rg_sem (P : rg_P) (X : rg_X) (i : Instr) (pc : Nat) (L st : List Value) (w : rg_W) (b : Nat) (go : rg_Go) (rt : rg_Rt) : Prop := match i with
  | .iconst n => go (pc + 1) L (.int (Int32.ofInt n) :: st) w b
  | .bipush n => go (pc + 2) L (.int (Int8.ofInt n).toInt32 :: st) w b
  | .sipush n => go (pc + 3) L (.int (Int16.ofInt n).toInt32 :: st) w b
  | .lconst n => go (pc + 1) L (.long (Int64.ofNat n.val) :: st) w b
  | .ldc k => rg_some (rg_lk P.2.2.1 k) (fun v => go (pc + 2) L (.int v :: st) w b)
  | .ldc_w k => rg_some (rg_lk P.2.2.1 k) (fun v => go (pc + 3) L (.int v :: st) w b)
  | .ldc2_w k => rg_some (rg_lk P.2.2.2.1 k) (fun v => go (pc + 3) L (.long v :: st) w b)
  | .iload_n k => rg_ld L k.val 0 (fun v => go (pc + 1) L (v :: st) w b)
  | .iload k => rg_ld L k 0 (fun v => go (pc + 2) L (v :: st) w b)
  | .lload_n k => rg_ld L k.val 1 (fun v => go (pc + 1) L (v :: st) w b)
  | .lload k => rg_ld L k 1 (fun v => go (pc + 2) L (v :: st) w b)
  | .aload_n k => rg_ld L k.val 2 (fun v => go (pc + 1) L (v :: st) w b)
  | .aload k => rg_ld L k 2 (fun v => go (pc + 2) L (v :: st) w b)
  | .istore_n k => rg_i1 st (fun x r => rg_st L k.val (.int x) (fun L' => go (pc + 1) L' r w b))
  | .istore k => rg_i1 st (fun x r => rg_st L k (.int x) (fun L' => go (pc + 2) L' r w b))
  | .astore_n k => rg_a1 st (fun v r => rg_ty v = 2 ∧ rg_st L k.val v (fun L' => go (pc + 1) L' r w b))
  | .astore k => rg_a1 st (fun v r => rg_ty v = 2 ∧ rg_st L k v (fun L' => go (pc + 2) L' r w b))
  | .iinc k n => rg_ld L k 0 (fun v => rg_i1 [v] (fun x _ => rg_st L k (.int (x + Int32.ofInt n)) (fun L' => go (pc + 3) L' st w b)))
  | .iadd => rg_i2 st (fun x y r => go (pc + 1) L (.int (x + y) :: r) w b)
  | .isub => rg_i2 st (fun x y r => go (pc + 1) L (.int (x - y) :: r) w b)
  | .imul => rg_i2 st (fun x y r => go (pc + 1) L (.int (x * y) :: r) w b)
  | .iand => rg_i2 st (fun x y r => go (pc + 1) L (.int (x &&& y) :: r) w b)
  | .ior => rg_i2 st (fun x y r => go (pc + 1) L (.int (x ||| y) :: r) w b)
  | .ixor => rg_i2 st (fun x y r => go (pc + 1) L (.int (x ^^^ y) :: r) w b)
  | .ishl => rg_i2 st (fun x y r => go (pc + 1) L (.int (x <<< (y &&& 31)) :: r) w b)
  | .ishr => rg_i2 st (fun x y r => go (pc + 1) L (.int (x >>> (y &&& 31)) :: r) w b)
  | .iushr => rg_i2 st (fun x y r => go (pc + 1) L (.int (x.toUInt32 >>> (y.toUInt32 &&& Int32.toUInt32 31)).toInt32 :: r) w b)
  | .ladd => rg_l2 st (fun x y r => go (pc + 1) L (.long (x + y) :: r) w b)
  | .land => rg_l2 st (fun x y r => go (pc + 1) L (.long (x &&& y) :: r) w b)
  | .lor => rg_l2 st (fun x y r => go (pc + 1) L (.long (x ||| y) :: r) w b)
  | .lushr => rg_il st (fun x y r => go (pc + 1) L (.long (x.toUInt64 >>> (y.toInt64.toUInt64 &&& Int64.toUInt64 63)).toInt64 :: r) w b)
  | .lshr => rg_il st (fun x y r => go (pc + 1) L (.long (x >>> (y.toInt64 &&& 63)) :: r) w b)
  | .lshl => rg_il st (fun x y r => go (pc + 1) L (.long (x <<< (y.toInt64 &&& 63)) :: r) w b)
  | .lcmp => rg_l2 st (fun x y r => go (pc + 1) L (.int (lg_cmp x y) :: r) w b)
  | .i2l => rg_i1 st (fun x r => go (pc + 1) L (.long x.toInt64 :: r) w b)
  | .l2i => rg_l1 st (fun x r => go (pc + 1) L (.int x.toInt32 :: r) w b)
  | .dup => rg_a1 st (fun v r => v.category = 1 ∧ go (pc + 1) L (v :: v :: r) w b)
  | .pop => rg_a1 st (fun v r => v.category = 1 ∧ go (pc + 1) L r w b)
  | .dup_x1 => rg_a2 st (fun u v r => (v.category = 1 ∧ u.category = 1) ∧ go (pc + 1) L (v :: u :: v :: r) w b)
  | .dup2 => rg_a2 st (fun u v r => (v.category = 1 ∧ u.category = 1) ∧ go (pc + 1) L (v :: u :: v :: u :: r) w b)
  | .ifCond c off => rg_i1 st (fun x r => 0 ≤ (pc : Int) + off ∧ (rg_cz c x → go (rg_tg pc off) L r w b) ∧ (¬ rg_cz c x → go (pc + 3) L r w b))
  | .if_icmp c off => rg_i2 st (fun x y r => 0 ≤ (pc : Int) + off ∧ (rg_cc c x y → go (rg_tg pc off) L r w b) ∧ (¬ rg_cc c x y → go (pc + 3) L r w b))
  | .goto off => 0 ≤ (pc : Int) + off ∧ go (rg_tg pc off) L st w b
  | .tableswitch d lo hi offs => rg_i1 st (fun x r => ((x.toInt < lo ∨ hi < x.toInt) → 0 ≤ (pc : Int) + d ∧ go (rg_tg pc d) L r w b) ∧ (¬ x.toInt < lo → ¬ hi < x.toInt → rg_some (offs[(x.toInt - lo).toNat]?) (fun o => 0 ≤ (pc : Int) + o ∧ go (rg_tg pc o) L r w b)))
  | .getfield k => rg_r1 st (fun o r => rg_some (rg_lk P.1 k) (fun q => rg_some (rg_gf o q.1 q.2 w) (fun v => go (pc + 3) L (v :: r) w b)))
  | .putfield k => rg_ir st (fun o x r => rg_some (rg_lk P.1 k) (fun q => rg_pf o q.1 q.2 = true ∧ go (pc + 3) L r (rg_up w o q.2 x) b))
  | .iaload => rg_ri st (fun k i r => rg_ial X (rg_ar k) k i w (fun x => go (pc + 1) L (.int x :: r) w b))
  | .baload => rg_ri st (fun k i r => rg_zal (rg_ar k) k i w (fun x => go (pc + 1) L (.int x :: r) w b))
  | .laload => rg_ri st (fun k i r => rg_lal (rg_ar k) k i w (fun x => go (pc + 1) L (.long x :: r) w b))
  | .iastore => rg_rii st (fun k i x r => rg_ias (rg_ar k) k i x w (fun w' => go (pc + 1) L r w' b))
  | .bastore => rg_rii st (fun k i x r => rg_zas (rg_ar k) k i x w (fun w' => go (pc + 1) L r w' b))
  | .lastore => rg_ril st (fun k i x r => rg_las (rg_ar k) k i x w (fun w' => go (pc + 1) L r w' b))
  | .arraylength => rg_r1 st (fun k r => k = 99 ∧ rg_some X (fun q => go (pc + 1) L (.int (Int32.ofNat q.1) :: r) w b))
  | .invokestatic k => rg_inv P (rg_lk P.2.1 (2 * k)) pc L st w b go
  | .invokevirtual k => rg_inv P (rg_lk P.2.1 (2 * k + 1)) pc L st w b go
  | .new k => rg_some (rg_lk P.2.2.2.2.1 k) (fun x => rt (some (.float (UInt32.ofNat x))) w b)
  | .ireturn => rg_i1 st (fun x r => r = [] ∧ rt (some (.int x)) w b)
  | .return_ => st = [] ∧ rt none w b
  | _ => False
def rg_len (i : Instr) : Nat := match i with
  | .iconst _ => 1
  | .bipush _ => 2
  | .sipush _ => 3
  | .lconst _ => 1
  | .ldc _ => 2
  | .ldc_w _ => 3
  | .ldc2_w _ => 3
  | .iload_n _ => 1
  | .iload _ => 2
  | .lload_n _ => 1
  | .lload _ => 2
  | .aload_n _ => 1
  | .aload _ => 2
  | .istore_n _ => 1
  | .istore _ => 2
  | .astore_n _ => 1
  | .astore _ => 2
  | .iinc _ _ => 3
  | .iadd  => 1
  | .isub  => 1
  | .imul  => 1
  | .iand  => 1
  | .ior  => 1
  | .ixor  => 1
  | .ishl  => 1
  | .ishr  => 1
  | .iushr  => 1
  | .ladd  => 1
  | .land  => 1
  | .lor  => 1
  | .lushr  => 1
  | .lshr  => 1
  | .lshl  => 1
  | .lcmp  => 1
  | .i2l  => 1
  | .l2i  => 1
  | .dup  => 1
  | .pop  => 1
  | .dup_x1  => 1
  | .dup2  => 1
  | .ifCond _ _ => 3
  | .if_icmp _ _ => 3
  | .goto _ => 3
  | .tableswitch _ _ _ _ => 0
  | .getfield _ => 3
  | .putfield _ => 3
  | .iaload  => 1
  | .baload  => 1
  | .laload  => 1
  | .iastore  => 1
  | .bastore  => 1
  | .lastore  => 1
  | .arraylength  => 1
  | .invokestatic _ => 3
  | .invokevirtual _ => 3
  | .new _ => 3
  | .ireturn  => 1
  | .return_  => 1
  | _ => 0
def rg_one (P : rg_P) (X : rg_X) (cc : ByteArray) (go : rg_Go) (rt : rg_Rt) (pc : Nat) (L st : List Value) (w : rg_W) (b : Nat) : Prop := match decode cc pc with
  | .ok (i, len) => (rg_len i = 0 ∨ rg_len i = len) ∧ rg_sem P X i pc L st w b go rt
  | .error _ => False
/-- a walk of at most n instructions that stops where 'cut' says (not at its first one, where f is true) -/
def rg_run (P : rg_P) (X : rg_X) (cc : ByteArray) (cut : Nat → Bool) (Z : rg_Go) (rt : rg_Rt) : Bool → Nat → rg_Go
  | _, 0 => Z
  | f, n + 1 => fun pc L st w b => if (!f && cut pc) = true then Z pc L st w b else rg_one P X cc (rg_run P X cc cut Z rt false n) rt pc L st w b
section
variable {P : rg_P} {X : rg_X} {cc : ByteArray} {cut : Nat → Bool} {Z : rg_Go} {rt : rg_Rt}
theorem rg_run_s {f : Bool} {n pc : Nat} {L st : List Value} {w : rg_W} {b : Nat} {i : Instr} {len : Nat} (h : decode cc pc = .ok (i, len)) (hl : rg_len i = 0 ∨ rg_len i = len) (hc : (!f && cut pc) = false) :
    rg_run P X cc cut Z rt f (n + 1) pc L st w b = rg_sem P X i pc L st w b (rg_run P X cc cut Z rt false n) rt := by
  show (if (!f && cut pc) = true then Z pc L st w b else rg_one P X cc (rg_run P X cc cut Z rt false n) rt pc L st w b) = _
  rw [hc, if_neg (by decide)]
  unfold rg_one
  rw [h]
  exact propext ⟨fun q => q.2, fun q => ⟨hl, q⟩⟩
theorem rg_e_cut (pc : Nat) (hc : cut pc = true) (n : Nat) (L st : List Value) (w : rg_W) (b : Nat) : rg_run P X cc cut Z rt false n pc L st w b = Z pc L st w b := by
  cases n with
  | zero => rfl
  | succ n =>
    show (if (!false && cut pc) = true then Z pc L st w b else _) = _
    rw [hc]
    rfl
theorem rg_tg_eq {pc q : Nat} {off : Int} (h : (pc : Int) + off = (q : Int)) : rg_tg pc off = q ∧ 0 ≤ (pc : Int) + off := by
  unfold rg_tg
  omega

theorem rg_e_iconst {f : Bool} {pc : Nat} {k : Int} (h : decode cc pc = .ok (.iconst k, 1)) (hc : (!f && cut pc) = false) (q : Nat) (hq : pc + 1 = q) (v : Int32) (hv : Int32.ofInt k = v) (n : Nat) (L st : List Value) (w : rg_W) (b : Nat) : rg_run P X cc cut Z rt f (n + 1) pc L st w b = (rg_run P X cc cut Z rt false n q L (.int v :: st) w b) := by
  subst hq
  rw [rg_run_s h (by first | exact Or.inr rfl | exact Or.inl rfl) hc]
  rw [← hv]
  rfl
theorem rg_e_bipush {f : Bool} {pc : Nat} {k : Int} (h : decode cc pc = .ok (.bipush k, 2)) (hc : (!f && cut pc) = false) (q : Nat) (hq : pc + 2 = q) (v : Int32) (hv : (Int8.ofInt k).toInt32 = v) (n : Nat) (L st : List Value) (w : rg_W) (b : Nat) : rg_run P X cc cut Z rt f (n + 1) pc L st w b = (rg_run P X cc cut Z rt false n q L (.int v :: st) w b) := by
  subst hq
  rw [rg_run_s h (by first | exact Or.inr rfl | exact Or.inl rfl) hc]
  rw [← hv]
  rfl
theorem rg_e_sipush {f : Bool} {pc : Nat} {k : Int} (h : decode cc pc = .ok (.sipush k, 3)) (hc : (!f && cut pc) = false) (q : Nat) (hq : pc + 3 = q) (v : Int32) (hv : (Int16.ofInt k).toInt32 = v) (n : Nat) (L st : List Value) (w : rg_W) (b : Nat) : rg_run P X cc cut Z rt f (n + 1) pc L st w b = (rg_run P X cc cut Z rt false n q L (.int v :: st) w b) := by
  subst hq
  rw [rg_run_s h (by first | exact Or.inr rfl | exact Or.inl rfl) hc]
  rw [← hv]
  rfl
theorem rg_e_lconst {f : Bool} {pc : Nat} {k : Fin 2} (h : decode cc pc = .ok (.lconst k, 1)) (hc : (!f && cut pc) = false) (q : Nat) (hq : pc + 1 = q) (v : Int64) (hv : Int64.ofNat k.val = v) (n : Nat) (L st : List Value) (w : rg_W) (b : Nat) : rg_run P X cc cut Z rt f (n + 1) pc L st w b = (rg_run P X cc cut Z rt false n q L (.long v :: st) w b) := by
  subst hq
  rw [rg_run_s h (by first | exact Or.inr rfl | exact Or.inl rfl) hc]
  rw [← hv]
  rfl
theorem rg_e_ldc {f : Bool} {pc : Nat} {k : Nat} (h : decode cc pc = .ok (.ldc k, 2)) (hc : (!f && cut pc) = false) (q : Nat) (hq : pc + 2 = q) (v : Int32) (hv : rg_lk P.2.2.1 k = some v) (n : Nat) (L st : List Value) (w : rg_W) (b : Nat) : rg_run P X cc cut Z rt f (n + 1) pc L st w b = (rg_run P X cc cut Z rt false n q L (.int v :: st) w b) := by
  subst hq
  rw [rg_run_s h (by first | exact Or.inr rfl | exact Or.inl rfl) hc]
  show rg_some (rg_lk P.2.2.1 k) _ = _
  rw [hv]
  rfl
theorem rg_e_ldcw {f : Bool} {pc : Nat} {k : Nat} (h : decode cc pc = .ok (.ldc_w k, 3)) (hc : (!f && cut pc) = false) (q : Nat) (hq : pc + 3 = q) (v : Int32) (hv : rg_lk P.2.2.1 k = some v) (n : Nat) (L st : List Value) (w : rg_W) (b : Nat) : rg_run P X cc cut Z rt f (n + 1) pc L st w b = (rg_run P X cc cut Z rt false n q L (.int v :: st) w b) := by
  subst hq
  rw [rg_run_s h (by first | exact Or.inr rfl | exact Or.inl rfl) hc]
  show rg_some (rg_lk P.2.2.1 k) _ = _
  rw [hv]
  rfl
theorem rg_e_ldc2 {f : Bool} {pc : Nat} {k : Nat} (h : decode cc pc = .ok (.ldc2_w k, 3)) (hc : (!f && cut pc) = false) (q : Nat) (hq : pc + 3 = q) (v : Int64) (hv : rg_lk P.2.2.2.1 k = some v) (n : Nat) (L st : List Value) (w : rg_W) (b : Nat) : rg_run P X cc cut Z rt f (n + 1) pc L st w b = (rg_run P X cc cut Z rt false n q L (.long v :: st) w b) := by
  subst hq
  rw [rg_run_s h (by first | exact Or.inr rfl | exact Or.inl rfl) hc]
  show rg_some (rg_lk P.2.2.2.1 k) _ = _
  rw [hv]
  rfl
theorem rg_e_iload_0 {f : Bool} {pc : Nat} (h : decode cc pc = .ok (.iload_n 0, 1)) (hc : (!f && cut pc) = false) (q : Nat) (hq : pc + 1 = q) (n : Nat) (x : Int32) (L st : List Value) (w : rg_W) (b : Nat) : rg_run P X cc cut Z rt f (n + 1) pc (.int x :: L) st w b = (rg_run P X cc cut Z rt false n q (.int x :: L) (.int x :: st) w b) := by
  subst hq
  rw [rg_run_s h (by first | exact Or.inr rfl | exact Or.inl rfl) hc]
  exact propext ⟨fun z => z.2, fun z => ⟨rfl, z⟩⟩
theorem rg_e_lload_0 {f : Bool} {pc : Nat} (h : decode cc pc = .ok (.lload_n 0, 1)) (hc : (!f && cut pc) = false) (q : Nat) (hq : pc + 1 = q) (n : Nat) (x : Int64) (L st : List Value) (w : rg_W) (b : Nat) : rg_run P X cc cut Z rt f (n + 1) pc (.long x :: L) st w b = (rg_run P X cc cut Z rt false n q (.long x :: L) (.long x :: st) w b) := by
  subst hq
  rw [rg_run_s h (by first | exact Or.inr rfl | exact Or.inl rfl) hc]
  exact propext ⟨fun z => z.2, fun z => ⟨rfl, z⟩⟩
theorem rg_e_aload_0 {f : Bool} {pc : Nat} (h : decode cc pc = .ok (.aload_n 0, 1)) (hc : (!f && cut pc) = false) (q : Nat) (hq : pc + 1 = q) (n : Nat) (x : Nat) (L st : List Value) (w : rg_W) (b : Nat) : rg_run P X cc cut Z rt f (n + 1) pc (.ref x :: L) st w b = (rg_run P X cc cut Z rt false n q (.ref x :: L) (.ref x :: st) w b) := by
  subst hq
  rw [rg_run_s h (by first | exact Or.inr rfl | exact Or.inl rfl) hc]
  exact propext ⟨fun z => z.2, fun z => ⟨rfl, z⟩⟩
theorem rg_e_istore_0 {f : Bool} {pc : Nat} (h : decode cc pc = .ok (.istore_n 0, 1)) (hc : (!f && cut pc) = false) (q : Nat) (hq : pc + 1 = q) (n : Nat) (a0 : Value) (x : Int32) (L r : List Value) (w : rg_W) (b : Nat) : rg_run P X cc cut Z rt f (n + 1) pc (a0 :: L) (.int x :: r) w b = (rg_run P X cc cut Z rt false n q (.int x :: L) r w b) := by
  subst hq
  rw [rg_run_s h (by first | exact Or.inr rfl | exact Or.inl rfl) hc]
  rfl
theorem rg_e_astore_0 {f : Bool} {pc : Nat} (h : decode cc pc = .ok (.astore_n 0, 1)) (hc : (!f && cut pc) = false) (q : Nat) (hq : pc + 1 = q) (n : Nat) (a0 : Value) (x : Nat) (L r : List Value) (w : rg_W) (b : Nat) : rg_run P X cc cut Z rt f (n + 1) pc (a0 :: L) (.ref x :: r) w b = (rg_run P X cc cut Z rt false n q (.ref x :: L) r w b) := by
  subst hq
  rw [rg_run_s h (by first | exact Or.inr rfl | exact Or.inl rfl) hc]
  exact propext ⟨fun z => z.2, fun z => ⟨rfl, z⟩⟩
theorem rg_e_xstore_0 {f : Bool} {pc : Nat} (h : decode cc pc = .ok (.astore_n 0, 1)) (hc : (!f && cut pc) = false) (q : Nat) (hq : pc + 1 = q) (n : Nat) (a0 : Value) (x : Nat) (L r : List Value) (w : rg_W) (b : Nat) : rg_run P X cc cut Z rt f (n + 1) pc (a0 :: L) (.retAddr x :: r) w b = (rg_run P X cc cut Z rt false n q (.retAddr x :: L) r w b) := by
  subst hq
  rw [rg_run_s h (by first | exact Or.inr rfl | exact Or.inl rfl) hc]
  exact propext ⟨fun z => z.2, fun z => ⟨rfl, z⟩⟩
theorem rg_e_iinc_0 {f : Bool} {pc : Nat} {m : Int} (h : decode cc pc = .ok (.iinc 0 m, 3)) (hc : (!f && cut pc) = false) (q : Nat) (hq : pc + 3 = q) (v : Int32) (hv : Int32.ofInt m = v) (n : Nat) (x : Int32) (L st : List Value) (w : rg_W) (b : Nat) : rg_run P X cc cut Z rt f (n + 1) pc (.int x :: L) st w b = (rg_run P X cc cut Z rt false n q (.int (x + v) :: L) st w b) := by
  subst hq
  rw [rg_run_s h (by first | exact Or.inr rfl | exact Or.inl rfl) hc]
  rw [← hv]
  exact propext ⟨fun z => z.2, fun z => ⟨rfl, z⟩⟩
theorem rg_e_iload_1 {f : Bool} {pc : Nat} (h : decode cc pc = .ok (.iload_n 1, 1)) (hc : (!f && cut pc) = false) (q : Nat) (hq : pc + 1 = q) (n : Nat) (a0 : Value) (x : Int32) (L st : List Value) (w : rg_W) (b : Nat) : rg_run P X cc cut Z rt f (n + 1) pc (a0 :: .int x :: L) st w b = (rg_run P X cc cut Z rt false n q (a0 :: .int x :: L) (.int x :: st) w b) := by
  subst hq
  rw [rg_run_s h (by first | exact Or.inr rfl | exact Or.inl rfl) hc]
  exact propext ⟨fun z => z.2, fun z => ⟨rfl, z⟩⟩
theorem rg_e_lload_1 {f : Bool} {pc : Nat} (h : decode cc pc = .ok (.lload_n 1, 1)) (hc : (!f && cut pc) = false) (q : Nat) (hq : pc + 1 = q) (n : Nat) (a0 : Value) (x : Int64) (L st : List Value) (w : rg_W) (b : Nat) : rg_run P X cc cut Z rt f (n + 1) pc (a0 :: .long x :: L) st w b = (rg_run P X cc cut Z rt false n q (a0 :: .long x :: L) (.long x :: st) w b) := by
  subst hq
  rw [rg_run_s h (by first | exact Or.inr rfl | exact Or.inl rfl) hc]
  exact propext ⟨fun z => z.2, fun z => ⟨rfl, z⟩⟩
theorem rg_e_aload_1 {f : Bool} {pc : Nat} (h : decode cc pc = .ok (.aload_n 1, 1)) (hc : (!f && cut pc) = false) (q : Nat) (hq : pc + 1 = q) (n : Nat) (a0 : Value) (x : Nat) (L st : List Value) (w : rg_W) (b : Nat) : rg_run P X cc cut Z rt f (n + 1) pc (a0 :: .ref x :: L) st w b = (rg_run P X cc cut Z rt false n q (a0 :: .ref x :: L) (.ref x :: st) w b) := by
  subst hq
  rw [rg_run_s h (by first | exact Or.inr rfl | exact Or.inl rfl) hc]
  exact propext ⟨fun z => z.2, fun z => ⟨rfl, z⟩⟩
theorem rg_e_istore_1 {f : Bool} {pc : Nat} (h : decode cc pc = .ok (.istore_n 1, 1)) (hc : (!f && cut pc) = false) (q : Nat) (hq : pc + 1 = q) (n : Nat) (a0 : Value) (a1 : Value) (x : Int32) (L r : List Value) (w : rg_W) (b : Nat) : rg_run P X cc cut Z rt f (n + 1) pc (a0 :: a1 :: L) (.int x :: r) w b = (rg_run P X cc cut Z rt false n q (rg_clr a0 :: .int x :: L) r w b) := by
  subst hq
  rw [rg_run_s h (by first | exact Or.inr rfl | exact Or.inl rfl) hc]
  rfl
theorem rg_e_astore_1 {f : Bool} {pc : Nat} (h : decode cc pc = .ok (.astore_n 1, 1)) (hc : (!f && cut pc) = false) (q : Nat) (hq : pc + 1 = q) (n : Nat) (a0 : Value) (a1 : Value) (x : Nat) (L r : List Value) (w : rg_W) (b : Nat) : rg_run P X cc cut Z rt f (n + 1) pc (a0 :: a1 :: L) (.ref x :: r) w b = (rg_run P X cc cut Z rt false n q (rg_clr a0 :: .ref x :: L) r w b) := by
  subst hq
  rw [rg_run_s h (by first | exact Or.inr rfl | exact Or.inl rfl) hc]
  exact propext ⟨fun z => z.2, fun z => ⟨rfl, z⟩⟩
theorem rg_e_xstore_1 {f : Bool} {pc : Nat} (h : decode cc pc = .ok (.astore_n 1, 1)) (hc : (!f && cut pc) = false) (q : Nat) (hq : pc + 1 = q) (n : Nat) (a0 : Value) (a1 : Value) (x : Nat) (L r : List Value) (w : rg_W) (b : Nat) : rg_run P X cc cut Z rt f (n + 1) pc (a0 :: a1 :: L) (.retAddr x :: r) w b = (rg_run P X cc cut Z rt false n q (rg_clr a0 :: .retAddr x :: L) r w b) := by
  subst hq
  rw [rg_run_s h (by first | exact Or.inr rfl | exact Or.inl rfl) hc]
  exact propext ⟨fun z => z.2, fun z => ⟨rfl, z⟩⟩
theorem rg_e_iinc_1 {f : Bool} {pc : Nat} {m : Int} (h : decode cc pc = .ok (.iinc 1 m, 3)) (hc : (!f && cut pc) = false) (q : Nat) (hq : pc + 3 = q) (v : Int32) (hv : Int32.ofInt m = v) (n : Nat) (a0 : Value) (x : Int32) (L st : List Value) (w : rg_W) (b : Nat) : rg_run P X cc cut Z rt f (n + 1) pc (a0 :: .int x :: L) st w b = (rg_run P X cc cut Z rt false n q (rg_clr a0 :: .int (x + v) :: L) st w b) := by
  subst hq
  rw [rg_run_s h (by first | exact Or.inr rfl | exact Or.inl rfl) hc]
  rw [← hv]
  exact propext ⟨fun z => z.2, fun z => ⟨rfl, z⟩⟩
theorem rg_e_iload_2 {f : Bool} {pc : Nat} (h : decode cc pc = .ok (.iload_n 2, 1)) (hc : (!f && cut pc) = false) (q : Nat) (hq : pc + 1 = q) (n : Nat) (a0 : Value) (a1 : Value) (x : Int32) (L st : List Value) (w : rg_W) (b : Nat) : rg_run P X cc cut Z rt f (n + 1) pc (a0 :: a1 :: .int x :: L) st w b = (rg_run P X cc cut Z rt false n q (a0 :: a1 :: .int x :: L) (.int x :: st) w b) := by
  subst hq
  rw [rg_run_s h (by first | exact Or.inr rfl | exact Or.inl rfl) hc]
  exact propext ⟨fun z => z.2, fun z => ⟨rfl, z⟩⟩
theorem rg_e_lload_2 {f : Bool} {pc : Nat} (h : decode cc pc = .ok (.lload_n 2, 1)) (hc : (!f && cut pc) = false) (q : Nat) (hq : pc + 1 = q) (n : Nat) (a0 : Value) (a1 : Value) (x : Int64) (L st : List Value) (w : rg_W) (b : Nat) : rg_run P X cc cut Z rt f (n + 1) pc (a0 :: a1 :: .long x :: L) st w b = (rg_run P X cc cut Z rt false n q (a0 :: a1 :: .long x :: L) (.long x :: st) w b) := by
  subst hq
  rw [rg_run_s h (by first | exact Or.inr rfl | exact Or.inl rfl) hc]
  exact propext ⟨fun z => z.2, fun z => ⟨rfl, z⟩⟩
theorem rg_e_aload_2 {f : Bool} {pc : Nat} (h : decode cc pc = .ok (.aload_n 2, 1)) (hc : (!f && cut pc) = false) (q : Nat) (hq : pc + 1 = q) (n : Nat) (a0 : Value) (a1 : Value) (x : Nat) (L st : List Value) (w : rg_W) (b : Nat) : rg_run P X cc cut Z rt f (n + 1) pc (a0 :: a1 :: .ref x :: L) st w b = (rg_run P X cc cut Z rt false n q (a0 :: a1 :: .ref x :: L) (.ref x :: st) w b) := by
  subst hq
  rw [rg_run_s h (by first | exact Or.inr rfl | exact Or.inl rfl) hc]
  exact propext ⟨fun z => z.2, fun z => ⟨rfl, z⟩⟩
theorem rg_e_istore_2 {f : Bool} {pc : Nat} (h : decode cc pc = .ok (.istore_n 2, 1)) (hc : (!f && cut pc) = false) (q : Nat) (hq : pc + 1 = q) (n : Nat) (a0 : Value) (a1 : Value) (a2 : Value) (x : Int32) (L r : List Value) (w : rg_W) (b : Nat) : rg_run P X cc cut Z rt f (n + 1) pc (a0 :: a1 :: a2 :: L) (.int x :: r) w b = (rg_run P X cc cut Z rt false n q (a0 :: rg_clr a1 :: .int x :: L) r w b) := by
  subst hq
  rw [rg_run_s h (by first | exact Or.inr rfl | exact Or.inl rfl) hc]
  rfl
theorem rg_e_astore_2 {f : Bool} {pc : Nat} (h : decode cc pc = .ok (.astore_n 2, 1)) (hc : (!f && cut pc) = false) (q : Nat) (hq : pc + 1 = q) (n : Nat) (a0 : Value) (a1 : Value) (a2 : Value) (x : Nat) (L r : List Value) (w : rg_W) (b : Nat) : rg_run P X cc cut Z rt f (n + 1) pc (a0 :: a1 :: a2 :: L) (.ref x :: r) w b = (rg_run P X cc cut Z rt false n q (a0 :: rg_clr a1 :: .ref x :: L) r w b) := by
  subst hq
  rw [rg_run_s h (by first | exact Or.inr rfl | exact Or.inl rfl) hc]
  exact propext ⟨fun z => z.2, fun z => ⟨rfl, z⟩⟩
theorem rg_e_xstore_2 {f : Bool} {pc : Nat} (h : decode cc pc = .ok (.astore_n 2, 1)) (hc : (!f && cut pc) = false) (q : Nat) (hq : pc + 1 = q) (n : Nat) (a0 : Value) (a1 : Value) (a2 : Value) (x : Nat) (L r : List Value) (w : rg_W) (b : Nat) : rg_run P X cc cut Z rt f (n + 1) pc (a0 :: a1 :: a2 :: L) (.retAddr x :: r) w b = (rg_run P X cc cut Z rt false n q (a0 :: rg_clr a1 :: .retAddr x :: L) r w b) := by
  subst hq
  rw [rg_run_s h (by first | exact Or.inr rfl | exact Or.inl rfl) hc]
  exact propext ⟨fun z => z.2, fun z => ⟨rfl, z⟩⟩
theorem rg_e_iinc_2 {f : Bool} {pc : Nat} {m : Int} (h : decode cc pc = .ok (.iinc 2 m, 3)) (hc : (!f && cut pc) = false) (q : Nat) (hq : pc + 3 = q) (v : Int32) (hv : Int32.ofInt m = v) (n : Nat) (a0 : Value) (a1 : Value) (x : Int32) (L st : List Value) (w : rg_W) (b : Nat) : rg_run P X cc cut Z rt f (n + 1) pc (a0 :: a1 :: .int x :: L) st w b = (rg_run P X cc cut Z rt false n q (a0 :: rg_clr a1 :: .int (x + v) :: L) st w b) := by
  subst hq
  rw [rg_run_s h (by first | exact Or.inr rfl | exact Or.inl rfl) hc]
  rw [← hv]
  exact propext ⟨fun z => z.2, fun z => ⟨rfl, z⟩⟩
theorem rg_e_iload_3 {f : Bool} {pc : Nat} (h : decode cc pc = .ok (.iload_n 3, 1)) (hc : (!f && cut pc) = false) (q : Nat) (hq : pc + 1 = q) (n : Nat) (a0 : Value) (a1 : Value) (a2 : Value) (x : Int32) (L st : List Value) (w : rg_W) (b : Nat) : rg_run P X cc cut Z rt f (n + 1) pc (a0 :: a1 :: a2 :: .int x :: L) st w b = (rg_run P X cc cut Z rt false n q (a0 :: a1 :: a2 :: .int x :: L) (.int x :: st) w b) := by
  subst hq
  rw [rg_run_s h (by first | exact Or.inr rfl | exact Or.inl rfl) hc]
  exact propext ⟨fun z => z.2, fun z => ⟨rfl, z⟩⟩
theorem rg_e_lload_3 {f : Bool} {pc : Nat} (h : decode cc pc = .ok (.lload_n 3, 1)) (hc : (!f && cut pc) = false) (q : Nat) (hq : pc + 1 = q) (n : Nat) (a0 : Value) (a1 : Value) (a2 : Value) (x : Int64) (L st : List Value) (w : rg_W) (b : Nat) : rg_run P X cc cut Z rt f (n + 1) pc (a0 :: a1 :: a2 :: .long x :: L) st w b = (rg_run P X cc cut Z rt false n q (a0 :: a1 :: a2 :: .long x :: L) (.long x :: st) w b) := by
  subst hq
  rw [rg_run_s h (by first | exact Or.inr rfl | exact Or.inl rfl) hc]
  exact propext ⟨fun z => z.2, fun z => ⟨rfl, z⟩⟩
theorem rg_e_aload_3 {f : Bool} {pc : Nat} (h : decode cc pc = .ok (.aload_n 3, 1)) (hc : (!f && cut pc) = false) (q : Nat) (hq : pc + 1 = q) (n : Nat) (a0 : Value) (a1 : Value) (a2 : Value) (x : Nat) (L st : List Value) (w : rg_W) (b : Nat) : rg_run P X cc cut Z rt f (n + 1) pc (a0 :: a1 :: a2 :: .ref x :: L) st w b = (rg_run P X cc cut Z rt false n q (a0 :: a1 :: a2 :: .ref x :: L) (.ref x :: st) w b) := by
  subst hq
  rw [rg_run_s h (by first | exact Or.inr rfl | exact Or.inl rfl) hc]
  exact propext ⟨fun z => z.2, fun z => ⟨rfl, z⟩⟩
theorem rg_e_istore_3 {f : Bool} {pc : Nat} (h : decode cc pc = .ok (.istore_n 3, 1)) (hc : (!f && cut pc) = false) (q : Nat) (hq : pc + 1 = q) (n : Nat) (a0 : Value) (a1 : Value) (a2 : Value) (a3 : Value) (x : Int32) (L r : List Value) (w : rg_W) (b : Nat) : rg_run P X cc cut Z rt f (n + 1) pc (a0 :: a1 :: a2 :: a3 :: L) (.int x :: r) w b = (rg_run P X cc cut Z rt false n q (a0 :: a1 :: rg_clr a2 :: .int x :: L) r w b) := by
  subst hq
  rw [rg_run_s h (by first | exact Or.inr rfl | exact Or.inl rfl) hc]
  rfl
theorem rg_e_astore_3 {f : Bool} {pc : Nat} (h : decode cc pc = .ok (.astore_n 3, 1)) (hc : (!f && cut pc) = false) (q : Nat) (hq : pc + 1 = q) (n : Nat) (a0 : Value) (a1 : Value) (a2 : Value) (a3 : Value) (x : Nat) (L r : List Value) (w : rg_W) (b : Nat) : rg_run P X cc cut Z rt f (n + 1) pc (a0 :: a1 :: a2 :: a3 :: L) (.ref x :: r) w b = (rg_run P X cc cut Z rt false n q (a0 :: a1 :: rg_clr a2 :: .ref x :: L) r w b) := by
  subst hq
  rw [rg_run_s h (by first | exact Or.inr rfl | exact Or.inl rfl) hc]
  exact propext ⟨fun z => z.2, fun z => ⟨rfl, z⟩⟩
theorem rg_e_xstore_3 {f : Bool} {pc : Nat} (h : decode cc pc = .ok (.astore_n 3, 1)) (hc : (!f && cut pc) = false) (q : Nat) (hq : pc + 1 = q) (n : Nat) (a0 : Value) (a1 : Value) (a2 : Value) (a3 : Value) (x : Nat) (L r : List Value) (w : rg_W) (b : Nat) : rg_run P X cc cut Z rt f (n + 1) pc (a0 :: a1 :: a2 :: a3 :: L) (.retAddr x :: r) w b = (rg_run P X cc cut Z rt false n q (a0 :: a1 :: rg_clr a2 :: .retAddr x :: L) r w b) := by
  subst hq
  rw [rg_run_s h (by first | exact Or.inr rfl | exact Or.inl rfl) hc]
  exact propext ⟨fun z => z.2, fun z => ⟨rfl, z⟩⟩
theorem rg_e_iinc_3 {f : Bool} {pc : Nat} {m : Int} (h : decode cc pc = .ok (.iinc 3 m, 3)) (hc : (!f && cut pc) = false) (q : Nat) (hq : pc + 3 = q) (v : Int32) (hv : Int32.ofInt m = v) (n : Nat) (a0 : Value) (a1 : Value) (a2 : Value) (x : Int32) (L st : List Value) (w : rg_W) (b : Nat) : rg_run P X cc cut Z rt f (n + 1) pc (a0 :: a1 :: a2 :: .int x :: L) st w b = (rg_run P X cc cut Z rt false n q (a0 :: a1 :: rg_clr a2 :: .int (x + v) :: L) st w b) := by
  subst hq
  rw [rg_run_s h (by first | exact Or.inr rfl | exact Or.inl rfl) hc]
  rw [← hv]
  exact propext ⟨fun z => z.2, fun z => ⟨rfl, z⟩⟩
theorem rg_e_iload_4 {f : Bool} {pc : Nat} (h : decode cc pc = .ok (.iload 4, 2)) (hc : (!f && cut pc) = false) (q : Nat) (hq : pc + 2 = q) (n : Nat) (a0 : Value) (a1 : Value) (a2 : Value) (a3 : Value) (x : Int32) (L st : List Value) (w : rg_W) (b : Nat) : rg_run P X cc cut Z rt f (n + 1) pc (a0 :: a1 :: a2 :: a3 :: .int x :: L) st w b = (rg_run P X cc cut Z rt false n q (a0 :: a1 :: a2 :: a3 :: .int x :: L) (.int x :: st) w b) := by
  subst hq
  rw [rg_run_s h (by first | exact Or.inr rfl | exact Or.inl rfl) hc]
  exact propext ⟨fun z => z.2, fun z => ⟨rfl, z⟩⟩
theorem rg_e_aload_4 {f : Bool} {pc : Nat} (h : decode cc pc = .ok (.aload 4, 2)) (hc : (!f && cut pc) = false) (q : Nat) (hq : pc + 2 = q) (n : Nat) (a0 : Value) (a1 : Value) (a2 : Value) (a3 : Value) (x : Nat) (L st : List Value) (w : rg_W) (b : Nat) : rg_run P X cc cut Z rt f (n + 1) pc (a0 :: a1 :: a2 :: a3 :: .ref x :: L) st w b = (rg_run P X cc cut Z rt false n q (a0 :: a1 :: a2 :: a3 :: .ref x :: L) (.ref x :: st) w b) := by
  subst hq
  rw [rg_run_s h (by first | exact Or.inr rfl | exact Or.inl rfl) hc]
  exact propext ⟨fun z => z.2, fun z => ⟨rfl, z⟩⟩
theorem rg_e_istore_4 {f : Bool} {pc : Nat} (h : decode cc pc = .ok (.istore 4, 2)) (hc : (!f && cut pc) = false) (q : Nat) (hq : pc + 2 = q) (n : Nat) (a0 : Value) (a1 : Value) (a2 : Value) (a3 : Value) (a4 : Value) (x : Int32) (L r : List Value) (w : rg_W) (b : Nat) : rg_run P X cc cut Z rt f (n + 1) pc (a0 :: a1 :: a2 :: a3 :: a4 :: L) (.int x :: r) w b = (rg_run P X cc cut Z rt false n q (a0 :: a1 :: a2 :: rg_clr a3 :: .int x :: L) r w b) := by
  subst hq
  rw [rg_run_s h (by first | exact Or.inr rfl | exact Or.inl rfl) hc]
  rfl
theorem rg_e_astore_4 {f : Bool} {pc : Nat} (h : decode cc pc = .ok (.astore 4, 2)) (hc : (!f && cut pc) = false) (q : Nat) (hq : pc + 2 = q) (n : Nat) (a0 : Value) (a1 : Value) (a2 : Value) (a3 : Value) (a4 : Value) (x : Nat) (L r : List Value) (w : rg_W) (b : Nat) : rg_run P X cc cut Z rt f (n + 1) pc (a0 :: a1 :: a2 :: a3 :: a4 :: L) (.ref x :: r) w b = (rg_run P X cc cut Z rt false n q (a0 :: a1 :: a2 :: rg_clr a3 :: .ref x :: L) r w b) := by
  subst hq
  rw [rg_run_s h (by first | exact Or.inr rfl | exact Or.inl rfl) hc]
  exact propext ⟨fun z => z.2, fun z => ⟨rfl, z⟩⟩
theorem rg_e_xstore_4 {f : Bool} {pc : Nat} (h : decode cc pc = .ok (.astore 4, 2)) (hc : (!f && cut pc) = false) (q : Nat) (hq : pc + 2 = q) (n : Nat) (a0 : Value) (a1 : Value) (a2 : Value) (a3 : Value) (a4 : Value) (x : Nat) (L r : List Value) (w : rg_W) (b : Nat) : rg_run P X cc cut Z rt f (n + 1) pc (a0 :: a1 :: a2 :: a3 :: a4 :: L) (.retAddr x :: r) w b = (rg_run P X cc cut Z rt false n q (a0 :: a1 :: a2 :: rg_clr a3 :: .retAddr x :: L) r w b) := by
  subst hq
  rw [rg_run_s h (by first | exact Or.inr rfl | exact Or.inl rfl) hc]
  exact propext ⟨fun z => z.2, fun z => ⟨rfl, z⟩⟩
theorem rg_e_iinc_4 {f : Bool} {pc : Nat} {m : Int} (h : decode cc pc = .ok (.iinc 4 m, 3)) (hc : (!f && cut pc) = false) (q : Nat) (hq : pc + 3 = q) (v : Int32) (hv : Int32.ofInt m = v) (n : Nat) (a0 : Value) (a1 : Value) (a2 : Value) (a3 : Value) (x : Int32) (L st : List Value) (w : rg_W) (b : Nat) : rg_run P X cc cut Z rt f (n + 1) pc (a0 :: a1 :: a2 :: a3 :: .int x :: L) st w b = (rg_run P X cc cut Z rt false n q (a0 :: a1 :: a2 :: rg_clr a3 :: .int (x + v) :: L) st w b) := by
  subst hq
  rw [rg_run_s h (by first | exact Or.inr rfl | exact Or.inl rfl) hc]
  rw [← hv]
  exact propext ⟨fun z => z.2, fun z => ⟨rfl, z⟩⟩
theorem rg_e_iload_5 {f : Bool} {pc : Nat} (h : decode cc pc = .ok (.iload 5, 2)) (hc : (!f && cut pc) = false) (q : Nat) (hq : pc + 2 = q) (n : Nat) (a0 : Value) (a1 : Value) (a2 : Value) (a3 : Value) (a4 : Value) (x : Int32) (L st : List Value) (w : rg_W) (b : Nat) : rg_run P X cc cut Z rt f (n + 1) pc (a0 :: a1 :: a2 :: a3 :: a4 :: .int x :: L) st w b = (rg_run P X cc cut Z rt false n q (a0 :: a1 :: a2 :: a3 :: a4 :: .int x :: L) (.int x :: st) w b) := by
  subst hq
  rw [rg_run_s h (by first | exact Or.inr rfl | exact Or.inl rfl) hc]
  exact propext ⟨fun z => z.2, fun z => ⟨rfl, z⟩⟩
theorem rg_e_aload_5 {f : Bool} {pc : Nat} (h : decode cc pc = .ok (.aload 5, 2)) (hc : (!f && cut pc) = false) (q : Nat) (hq : pc + 2 = q) (n : Nat) (a0 : Value) (a1 : Value) (a2 : Value) (a3 : Value) (a4 : Value) (x : Nat) (L st : List Value) (w : rg_W) (b : Nat) : rg_run P X cc cut Z rt f (n + 1) pc (a0 :: a1 :: a2 :: a3 :: a4 :: .ref x :: L) st w b = (rg_run P X cc cut Z rt false n q (a0 :: a1 :: a2 :: a3 :: a4 :: .ref x :: L) (.ref x :: st) w b) := by
  subst hq
  rw [rg_run_s h (by first | exact Or.inr rfl | exact Or.inl rfl) hc]
  exact propext ⟨fun z => z.2, fun z => ⟨rfl, z⟩⟩
theorem rg_e_istore_5 {f : Bool} {pc : Nat} (h : decode cc pc = .ok (.istore 5, 2)) (hc : (!f && cut pc) = false) (q : Nat) (hq : pc + 2 = q) (n : Nat) (a0 : Value) (a1 : Value) (a2 : Value) (a3 : Value) (a4 : Value) (a5 : Value) (x : Int32) (L r : List Value) (w : rg_W) (b : Nat) : rg_run P X cc cut Z rt f (n + 1) pc (a0 :: a1 :: a2 :: a3 :: a4 :: a5 :: L) (.int x :: r) w b = (rg_run P X cc cut Z rt false n q (a0 :: a1 :: a2 :: a3 :: rg_clr a4 :: .int x :: L) r w b) := by
  subst hq
  rw [rg_run_s h (by first | exact Or.inr rfl | exact Or.inl rfl) hc]
  rfl
theorem rg_e_astore_5 {f : Bool} {pc : Nat} (h : decode cc pc = .ok (.astore 5, 2)) (hc : (!f && cut pc) = false) (q : Nat) (hq : pc + 2 = q) (n : Nat) (a0 : Value) (a1 : Value) (a2 : Value) (a3 : Value) (a4 : Value) (a5 : Value) (x : Nat) (L r : List Value) (w : rg_W) (b : Nat) : rg_run P X cc cut Z rt f (n + 1) pc (a0 :: a1 :: a2 :: a3 :: a4 :: a5 :: L) (.ref x :: r) w b = (rg_run P X cc cut Z rt false n q (a0 :: a1 :: a2 :: a3 :: rg_clr a4 :: .ref x :: L) r w b) := by
  subst hq
  rw [rg_run_s h (by first | exact Or.inr rfl | exact Or.inl rfl) hc]
  exact propext ⟨fun z => z.2, fun z => ⟨rfl, z⟩⟩
theorem rg_e_xstore_5 {f : Bool} {pc : Nat} (h : decode cc pc = .ok (.astore 5, 2)) (hc : (!f && cut pc) = false) (q : Nat) (hq : pc + 2 = q) (n : Nat) (a0 : Value) (a1 : Value) (a2 : Value) (a3 : Value) (a4 : Value) (a5 : Value) (x : Nat) (L r : List Value) (w : rg_W) (b : Nat) : rg_run P X cc cut Z rt f (n + 1) pc (a0 :: a1 :: a2 :: a3 :: a4 :: a5 :: L) (.retAddr x :: r) w b = (rg_run P X cc cut Z rt false n q (a0 :: a1 :: a2 :: a3 :: rg_clr a4 :: .retAddr x :: L) r w b) := by
  subst hq
  rw [rg_run_s h (by first | exact Or.inr rfl | exact Or.inl rfl) hc]
  exact propext ⟨fun z => z.2, fun z => ⟨rfl, z⟩⟩
theorem rg_e_iinc_5 {f : Bool} {pc : Nat} {m : Int} (h : decode cc pc = .ok (.iinc 5 m, 3)) (hc : (!f && cut pc) = false) (q : Nat) (hq : pc + 3 = q) (v : Int32) (hv : Int32.ofInt m = v) (n : Nat) (a0 : Value) (a1 : Value) (a2 : Value) (a3 : Value) (a4 : Value) (x : Int32) (L st : List Value) (w : rg_W) (b : Nat) : rg_run P X cc cut Z rt f (n + 1) pc (a0 :: a1 :: a2 :: a3 :: a4 :: .int x :: L) st w b = (rg_run P X cc cut Z rt false n q (a0 :: a1 :: a2 :: a3 :: rg_clr a4 :: .int (x + v) :: L) st w b) := by
  subst hq
  rw [rg_run_s h (by first | exact Or.inr rfl | exact Or.inl rfl) hc]
  rw [← hv]
  exact propext ⟨fun z => z.2, fun z => ⟨rfl, z⟩⟩
theorem rg_e_iload_6 {f : Bool} {pc : Nat} (h : decode cc pc = .ok (.iload 6, 2)) (hc : (!f && cut pc) = false) (q : Nat) (hq : pc + 2 = q) (n : Nat) (a0 : Value) (a1 : Value) (a2 : Value) (a3 : Value) (a4 : Value) (a5 : Value) (x : Int32) (L st : List Value) (w : rg_W) (b : Nat) : rg_run P X cc cut Z rt f (n + 1) pc (a0 :: a1 :: a2 :: a3 :: a4 :: a5 :: .int x :: L) st w b = (rg_run P X cc cut Z rt false n q (a0 :: a1 :: a2 :: a3 :: a4 :: a5 :: .int x :: L) (.int x :: st) w b) := by
  subst hq
  rw [rg_run_s h (by first | exact Or.inr rfl | exact Or.inl rfl) hc]
  exact propext ⟨fun z => z.2, fun z => ⟨rfl, z⟩⟩
theorem rg_e_aload_6 {f : Bool} {pc : Nat} (h : decode cc pc = .ok (.aload 6, 2)) (hc : (!f && cut pc) = false) (q : Nat) (hq : pc + 2 = q) (n : Nat) (a0 : Value) (a1 : Value) (a2 : Value) (a3 : Value) (a4 : Value) (a5 : Value) (x : Nat) (L st : List Value) (w : rg_W) (b : Nat) : rg_run P X cc cut Z rt f (n + 1) pc (a0 :: a1 :: a2 :: a3 :: a4 :: a5 :: .ref x :: L) st w b = (rg_run P X cc cut Z rt false n q (a0 :: a1 :: a2 :: a3 :: a4 :: a5 :: .ref x :: L) (.ref x :: st) w b) := by
  subst hq
  rw [rg_run_s h (by first | exact Or.inr rfl | exact Or.inl rfl) hc]
  exact propext ⟨fun z => z.2, fun z => ⟨rfl, z⟩⟩
theorem rg_e_istore_6 {f : Bool} {pc : Nat} (h : decode cc pc = .ok (.istore 6, 2)) (hc : (!f && cut pc) = false) (q : Nat) (hq : pc + 2 = q) (n : Nat) (a0 : Value) (a1 : Value) (a2 : Value) (a3 : Value) (a4 : Value) (a5 : Value) (a6 : Value) (x : Int32) (L r : List Value) (w : rg_W) (b : Nat) : rg_run P X cc cut Z rt f (n + 1) pc (a0 :: a1 :: a2 :: a3 :: a4 :: a5 :: a6 :: L) (.int x :: r) w b = (rg_run P X cc cut Z rt false n q (a0 :: a1 :: a2 :: a3 :: a4 :: rg_clr a5 :: .int x :: L) r w b) := by
  subst hq
  rw [rg_run_s h (by first | exact Or.inr rfl | exact Or.inl rfl) hc]
  rfl
theorem rg_e_astore_6 {f : Bool} {pc : Nat} (h : decode cc pc = .ok (.astore 6, 2)) (hc : (!f && cut pc) = false) (q : Nat) (hq : pc + 2 = q) (n : Nat) (a0 : Value) (a1 : Value) (a2 : Value) (a3 : Value) (a4 : Value) (a5 : Value) (a6 : Value) (x : Nat) (L r : List Value) (w : rg_W) (b : Nat) : rg_run P X cc cut Z rt f (n + 1) pc (a0 :: a1 :: a2 :: a3 :: a4 :: a5 :: a6 :: L) (.ref x :: r) w b = (rg_run P X cc cut Z rt false n q (a0 :: a1 :: a2 :: a3 :: a4 :: rg_clr a5 :: .ref x :: L) r w b) := by
  subst hq
  rw [rg_run_s h (by first | exact Or.inr rfl | exact Or.inl rfl) hc]
  exact propext ⟨fun z => z.2, fun z => ⟨rfl, z⟩⟩
theorem rg_e_xstore_6 {f : Bool} {pc : Nat} (h : decode cc pc = .ok (.astore 6, 2)) (hc : (!f && cut pc) = false) (q : Nat) (hq : pc + 2 = q) (n : Nat) (a0 : Value) (a1 : Value) (a2 : Value) (a3 : Value) (a4 : Value) (a5 : Value) (a6 : Value) (x : Nat) (L r : List Value) (w : rg_W) (b : Nat) : rg_run P X cc cut Z rt f (n + 1) pc (a0 :: a1 :: a2 :: a3 :: a4 :: a5 :: a6 :: L) (.retAddr x :: r) w b = (rg_run P X cc cut Z rt false n q (a0 :: a1 :: a2 :: a3 :: a4 :: rg_clr a5 :: .retAddr x :: L) r w b) := by
  subst hq
  rw [rg_run_s h (by first | exact Or.inr rfl | exact Or.inl rfl) hc]
  exact propext ⟨fun z => z.2, fun z => ⟨rfl, z⟩⟩
theorem rg_e_iinc_6 {f : Bool} {pc : Nat} {m : Int} (h : decode cc pc = .ok (.iinc 6 m, 3)) (hc : (!f && cut pc) = false) (q : Nat) (hq : pc + 3 = q) (v : Int32) (hv : Int32.ofInt m = v) (n : Nat) (a0 : Value) (a1 : Value) (a2 : Value) (a3 : Value) (a4 : Value) (a5 : Value) (x : Int32) (L st : List Value) (w : rg_W) (b : Nat) : rg_run P X cc cut Z rt f (n + 1) pc (a0 :: a1 :: a2 :: a3 :: a4 :: a5 :: .int x :: L) st w b = (rg_run P X cc cut Z rt false n q (a0 :: a1 :: a2 :: a3 :: a4 :: rg_clr a5 :: .int (x + v) :: L) st w b) := by
  subst hq
  rw [rg_run_s h (by first | exact Or.inr rfl | exact Or.inl rfl) hc]
  rw [← hv]
  exact propext ⟨fun z => z.2, fun z => ⟨rfl, z⟩⟩
theorem rg_e_iload_7 {f : Bool} {pc : Nat} (h : decode cc pc = .ok (.iload 7, 2)) (hc : (!f && cut pc) = false) (q : Nat) (hq : pc + 2 = q) (n : Nat) (a0 : Value) (a1 : Value) (a2 : Value) (a3 : Value) (a4 : Value) (a5 : Value) (a6 : Value) (x : Int32) (L st : List Value) (w : rg_W) (b : Nat) : rg_run P X cc cut Z rt f (n + 1) pc (a0 :: a1 :: a2 :: a3 :: a4 :: a5 :: a6 :: .int x :: L) st w b = (rg_run P X cc cut Z rt false n q (a0 :: a1 :: a2 :: a3 :: a4 :: a5 :: a6 :: .int x :: L) (.int x :: st) w b) := by
  subst hq
  rw [rg_run_s h (by first | exact Or.inr rfl | exact Or.inl rfl) hc]
  exact propext ⟨fun z => z.2, fun z => ⟨rfl, z⟩⟩
theorem rg_e_aload_7 {f : Bool} {pc : Nat} (h : decode cc pc = .ok (.aload 7, 2)) (hc : (!f && cut pc) = false) (q : Nat) (hq : pc + 2 = q) (n : Nat) (a0 : Value) (a1 : Value) (a2 : Value) (a3 : Value) (a4 : Value) (a5 : Value) (a6 : Value) (x : Nat) (L st : List Value) (w : rg_W) (b : Nat) : rg_run P X cc cut Z rt f (n + 1) pc (a0 :: a1 :: a2 :: a3 :: a4 :: a5 :: a6 :: .ref x :: L) st w b = (rg_run P X cc cut Z rt false n q (a0 :: a1 :: a2 :: a3 :: a4 :: a5 :: a6 :: .ref x :: L) (.ref x :: st) w b) := by
  subst hq
  rw [rg_run_s h (by first | exact Or.inr rfl | exact Or.inl rfl) hc]
  exact propext ⟨fun z => z.2, fun z => ⟨rfl, z⟩⟩
theorem rg_e_istore_7 {f : Bool} {pc : Nat} (h : decode cc pc = .ok (.istore 7, 2)) (hc : (!f && cut pc) = false) (q : Nat) (hq : pc + 2 = q) (n : Nat) (a0 : Value) (a1 : Value) (a2 : Value) (a3 : Value) (a4 : Value) (a5 : Value) (a6 : Value) (a7 : Value) (x : Int32) (L r : List Value) (w : rg_W) (b : Nat) : rg_run P X cc cut Z rt f (n + 1) pc (a0 :: a1 :: a2 :: a3 :: a4 :: a5 :: a6 :: a7 :: L) (.int x :: r) w b = (rg_run P X cc cut Z rt false n q (a0 :: a1 :: a2 :: a3 :: a4 :: a5 :: rg_clr a6 :: .int x :: L) r w b) := by
  subst hq
  rw [rg_run_s h (by first | exact Or.inr rfl | exact Or.inl rfl) hc]
  rfl
theorem rg_e_astore_7 {f : Bool} {pc : Nat} (h : decode cc pc = .ok (.astore 7, 2)) (hc : (!f && cut pc) = false) (q : Nat) (hq : pc + 2 = q) (n : Nat) (a0 : Value) (a1 : Value) (a2 : Value) (a3 : Value) (a4 : Value) (a5 : Value) (a6 : Value) (a7 : Value) (x : Nat) (L r : List Value) (w : rg_W) (b : Nat) : rg_run P X cc cut Z rt f (n + 1) pc (a0 :: a1 :: a2 :: a3 :: a4 :: a5 :: a6 :: a7 :: L) (.ref x :: r) w b = (rg_run P X cc cut Z rt false n q (a0 :: a1 :: a2 :: a3 :: a4 :: a5 :: rg_clr a6 :: .ref x :: L) r w b) := by
  subst hq
  rw [rg_run_s h (by first | exact Or.inr rfl | exact Or.inl rfl) hc]
  exact propext ⟨fun z => z.2, fun z => ⟨rfl, z⟩⟩
theorem rg_e_xstore_7 {f : Bool} {pc : Nat} (h : decode cc pc = .ok (.astore 7, 2)) (hc : (!f && cut pc) = false) (q : Nat) (hq : pc + 2 = q) (n : Nat) (a0 : Value) (a1 : Value) (a2 : Value) (a3 : Value) (a4 : Value) (a5 : Value) (a6 : Value) (a7 : Value) (x : Nat) (L r : List Value) (w : rg_W) (b : Nat) : rg_run P X cc cut Z rt f (n + 1) pc (a0 :: a1 :: a2 :: a3 :: a4 :: a5 :: a6 :: a7 :: L) (.retAddr x :: r) w b = (rg_run P X cc cut Z rt false n q (a0 :: a1 :: a2 :: a3 :: a4 :: a5 :: rg_clr a6 :: .retAddr x :: L) r w b) := by
  subst hq
  rw [rg_run_s h (by first | exact Or.inr rfl | exact Or.inl rfl) hc]
  exact propext ⟨fun z => z.2, fun z => ⟨rfl, z⟩⟩
theorem rg_e_iinc_7 {f : Bool} {pc : Nat} {m : Int} (h : decode cc pc = .ok (.iinc 7 m, 3)) (hc : (!f && cut pc) = false) (q : Nat) (hq : pc + 3 = q) (v : Int32) (hv : Int32.ofInt m = v) (n : Nat) (a0 : Value) (a1 : Value) (a2 : Value) (a3 : Value) (a4 : Value) (a5 : Value) (a6 : Value) (x : Int32) (L st : List Value) (w : rg_W) (b : Nat) : rg_run P X cc cut Z rt f (n + 1) pc (a0 :: a1 :: a2 :: a3 :: a4 :: a5 :: a6 :: .int x :: L) st w b = (rg_run P X cc cut Z rt false n q (a0 :: a1 :: a2 :: a3 :: a4 :: a5 :: rg_clr a6 :: .int (x + v) :: L) st w b) := by
  subst hq
  rw [rg_run_s h (by first | exact Or.inr rfl | exact Or.inl rfl) hc]
  rw [← hv]
  exact propext ⟨fun z => z.2, fun z => ⟨rfl, z⟩⟩
theorem rg_e_iload_8 {f : Bool} {pc : Nat} (h : decode cc pc = .ok (.iload 8, 2)) (hc : (!f && cut pc) = false) (q : Nat) (hq : pc + 2 = q) (n : Nat) (a0 : Value) (a1 : Value) (a2 : Value) (a3 : Value) (a4 : Value) (a5 : Value) (a6 : Value) (a7 : Value) (x : Int32) (L st : List Value) (w : rg_W) (b : Nat) : rg_run P X cc cut Z rt f (n + 1) pc (a0 :: a1 :: a2 :: a3 :: a4 :: a5 :: a6 :: a7 :: .int x :: L) st w b = (rg_run P X cc cut Z rt false n q (a0 :: a1 :: a2 :: a3 :: a4 :: a5 :: a6 :: a7 :: .int x :: L) (.int x :: st) w b) := by
  subst hq
  rw [rg_run_s h (by first | exact Or.inr rfl | exact Or.inl rfl) hc]
  exact propext ⟨fun z => z.2, fun z => ⟨rfl, z⟩⟩
theorem rg_e_aload_8 {f : Bool} {pc : Nat} (h : decode cc pc = .ok (.aload 8, 2)) (hc : (!f && cut pc) = false) (q : Nat) (hq : pc + 2 = q) (n : Nat) (a0 : Value) (a1 : Value) (a2 : Value) (a3 : Value) (a4 : Value) (a5 : Value) (a6 : Value) (a7 : Value) (x : Nat) (L st : List Value) (w : rg_W) (b : Nat) : rg_run P X cc cut Z rt f (n + 1) pc (a0 :: a1 :: a2 :: a3 :: a4 :: a5 :: a6 :: a7 :: .ref x :: L) st w b = (rg_run P X cc cut Z rt false n q (a0 :: a1 :: a2 :: a3 :: a4 :: a5 :: a6 :: a7 :: .ref x :: L) (.ref x :: st) w b) := by
  subst hq
  rw [rg_run_s h (by first | exact Or.inr rfl | exact Or.inl rfl) hc]
  exact propext ⟨fun z => z.2, fun z => ⟨rfl, z⟩⟩
theorem rg_e_istore_8 {f : Bool} {pc : Nat} (h : decode cc pc = .ok (.istore 8, 2)) (hc : (!f && cut pc) = false) (q : Nat) (hq : pc + 2 = q) (n : Nat) (a0 : Value) (a1 : Value) (a2 : Value) (a3 : Value) (a4 : Value) (a5 : Value) (a6 : Value) (a7 : Value) (a8 : Value) (x : Int32) (L r : List Value) (w : rg_W) (b : Nat) : rg_run P X cc cut Z rt f (n + 1) pc (a0 :: a1 :: a2 :: a3 :: a4 :: a5 :: a6 :: a7 :: a8 :: L) (.int x :: r) w b = (rg_run P X cc cut Z rt false n q (a0 :: a1 :: a2 :: a3 :: a4 :: a5 :: a6 :: rg_clr a7 :: .int x :: L) r w b) := by
  subst hq
  rw [rg_run_s h (by first | exact Or.inr rfl | exact Or.inl rfl) hc]
  rfl
theorem rg_e_astore_8 {f : Bool} {pc : Nat} (h : decode cc pc = .ok (.astore 8, 2)) (hc : (!f && cut pc) = false) (q : Nat) (hq : pc + 2 = q) (n : Nat) (a0 : Value) (a1 : Value) (a2 : Value) (a3 : Value) (a4 : Value) (a5 : Value) (a6 : Value) (a7 : Value) (a8 : Value) (x : Nat) (L r : List Value) (w : rg_W) (b : Nat) : rg_run P X cc cut Z rt f (n + 1) pc (a0 :: a1 :: a2 :: a3 :: a4 :: a5 :: a6 :: a7 :: a8 :: L) (.ref x :: r) w b = (rg_run P X cc cut Z rt false n q (a0 :: a1 :: a2 :: a3 :: a4 :: a5 :: a6 :: rg_clr a7 :: .ref x :: L) r w b) := by
  subst hq
  rw [rg_run_s h (by first | exact Or.inr rfl | exact Or.inl rfl) hc]
  exact propext ⟨fun z => z.2, fun z => ⟨rfl, z⟩⟩
theorem rg_e_xstore_8 {f : Bool} {pc : Nat} (h : decode cc pc = .ok (.astore 8, 2)) (hc : (!f && cut pc) = false) (q : Nat) (hq : pc + 2 = q) (n : Nat) (a0 : Value) (a1 : Value) (a2 : Value) (a3 : Value) (a4 : Value) (a5 : Value) (a6 : Value) (a7 : Value) (a8 : Value) (x : Nat) (L r : List Value) (w : rg_W) (b : Nat) : rg_run P X cc cut Z rt f (n + 1) pc (a0 :: a1 :: a2 :: a3 :: a4 :: a5 :: a6 :: a7 :: a8 :: L) (.retAddr x :: r) w b = (rg_run P X cc cut Z rt false n q (a0 :: a1 :: a2 :: a3 :: a4 :: a5 :: a6 :: rg_clr a7 :: .retAddr x :: L) r w b) := by
  subst hq
  rw [rg_run_s h (by first | exact Or.inr rfl | exact Or.inl rfl) hc]
  exact propext ⟨fun z => z.2, fun z => ⟨rfl, z⟩⟩
theorem rg_e_iinc_8 {f : Bool} {pc : Nat} {m : Int} (h : decode cc pc = .ok (.iinc 8 m, 3)) (hc : (!f && cut pc) = false) (q : Nat) (hq : pc + 3 = q) (v : Int32) (hv : Int32.ofInt m = v) (n : Nat) (a0 : Value) (a1 : Value) (a2 : Value) (a3 : Value) (a4 : Value) (a5 : Value) (a6 : Value) (a7 : Value) (x : Int32) (L st : List Value) (w : rg_W) (b : Nat) : rg_run P X cc cut Z rt f (n + 1) pc (a0 :: a1 :: a2 :: a3 :: a4 :: a5 :: a6 :: a7 :: .int x :: L) st w b = (rg_run P X cc cut Z rt false n q (a0 :: a1 :: a2 :: a3 :: a4 :: a5 :: a6 :: rg_clr a7 :: .int (x + v) :: L) st w b) := by
  subst hq
  rw [rg_run_s h (by first | exact Or.inr rfl | exact Or.inl rfl) hc]
  rw [← hv]
  exact propext ⟨fun z => z.2, fun z => ⟨rfl, z⟩⟩
theorem rg_e_iadd {f : Bool} {pc : Nat} (h : decode cc pc = .ok (.iadd, 1)) (hc : (!f && cut pc) = false) (q : Nat) (hq : pc + 1 = q) (n : Nat) (L r : List Value) (x y : Int32) (w : rg_W) (b : Nat) : rg_run P X cc cut Z rt f (n + 1) pc L (.int y :: .int x :: r) w b = (rg_run P X cc cut Z rt false n q L (.int (x + y) :: r) w b) := by
  subst hq
  rw [rg_run_s h (by first | exact Or.inr rfl | exact Or.inl rfl) hc]
  rfl
theorem rg_e_isub {f : Bool} {pc : Nat} (h : decode cc pc = .ok (.isub, 1)) (hc : (!f && cut pc) = false) (q : Nat) (hq : pc + 1 = q) (n : Nat) (L r : List Value) (x y : Int32) (w : rg_W) (b : Nat) : rg_run P X cc cut Z rt f (n + 1) pc L (.int y :: .int x :: r) w b = (rg_run P X cc cut Z rt false n q L (.int (x - y) :: r) w b) := by
  subst hq
  rw [rg_run_s h (by first | exact Or.inr rfl | exact Or.inl rfl) hc]
  rfl
theorem rg_e_imul {f : Bool} {pc : Nat} (h : decode cc pc = .ok (.imul, 1)) (hc : (!f && cut pc) = false) (q : Nat) (hq : pc + 1 = q) (n : Nat) (L r : List Value) (x y : Int32) (w : rg_W) (b : Nat) : rg_run P X cc cut Z rt f (n + 1) pc L (.int y :: .int x :: r) w b = (rg_run P X cc cut Z rt false n q L (.int (x * y) :: r) w b) := by
  subst hq
  rw [rg_run_s h (by first | exact Or.inr rfl | exact Or.inl rfl) hc]
  rfl
theorem rg_e_iand {f : Bool} {pc : Nat} (h : decode cc pc = .ok (.iand, 1)) (hc : (!f && cut pc) = false) (q : Nat) (hq : pc + 1 = q) (n : Nat) (L r : List Value) (x y : Int32) (w : rg_W) (b : Nat) : rg_run P X cc cut Z rt f (n + 1) pc L (.int y :: .int x :: r) w b = (rg_run P X cc cut Z rt false n q L (.int (x &&& y) :: r) w b) := by
  subst hq
  rw [rg_run_s h (by first | exact Or.inr rfl | exact Or.inl rfl) hc]
  rfl
theorem rg_e_ior {f : Bool} {pc : Nat} (h : decode cc pc = .ok (.ior, 1)) (hc : (!f && cut pc) = false) (q : Nat) (hq : pc + 1 = q) (n : Nat) (L r : List Value) (x y : Int32) (w : rg_W) (b : Nat) : rg_run P X cc cut Z rt f (n + 1) pc L (.int y :: .int x :: r) w b = (rg_run P X cc cut Z rt false n q L (.int (x ||| y) :: r) w b) := by
  subst hq
  rw [rg_run_s h (by first | exact Or.inr rfl | exact Or.inl rfl) hc]
  rfl
theorem rg_e_ixor {f : Bool} {pc : Nat} (h : decode cc pc = .ok (.ixor, 1)) (hc : (!f && cut pc) = false) (q : Nat) (hq : pc + 1 = q) (n : Nat) (L r : List Value) (x y : Int32) (w : rg_W) (b : Nat) : rg_run P X cc cut Z rt f (n + 1) pc L (.int y :: .int x :: r) w b = (rg_run P X cc cut Z rt false n q L (.int (x ^^^ y) :: r) w b) := by
  subst hq
  rw [rg_run_s h (by first | exact Or.inr rfl | exact Or.inl rfl) hc]
  rfl
theorem rg_e_ishl {f : Bool} {pc : Nat} (h : decode cc pc = .ok (.ishl, 1)) (hc : (!f && cut pc) = false) (q : Nat) (hq : pc + 1 = q) (n : Nat) (L r : List Value) (x y : Int32) (w : rg_W) (b : Nat) : rg_run P X cc cut Z rt f (n + 1) pc L (.int y :: .int x :: r) w b = (rg_run P X cc cut Z rt false n q L (.int (x <<< (y &&& 31)) :: r) w b) := by
  subst hq
  rw [rg_run_s h (by first | exact Or.inr rfl | exact Or.inl rfl) hc]
  rfl
theorem rg_e_ishr {f : Bool} {pc : Nat} (h : decode cc pc = .ok (.ishr, 1)) (hc : (!f && cut pc) = false) (q : Nat) (hq : pc + 1 = q) (n : Nat) (L r : List Value) (x y : Int32) (w : rg_W) (b : Nat) : rg_run P X cc cut Z rt f (n + 1) pc L (.int y :: .int x :: r) w b = (rg_run P X cc cut Z rt false n q L (.int (x >>> (y &&& 31)) :: r) w b) := by
  subst hq
  rw [rg_run_s h (by first | exact Or.inr rfl | exact Or.inl rfl) hc]
  rfl
theorem rg_e_iushr {f : Bool} {pc : Nat} (h : decode cc pc = .ok (.iushr, 1)) (hc : (!f && cut pc) = false) (q : Nat) (hq : pc + 1 = q) (n : Nat) (L r : List Value) (x y : Int32) (w : rg_W) (b : Nat) : rg_run P X cc cut Z rt f (n + 1) pc L (.int y :: .int x :: r) w b = (rg_run P X cc cut Z rt false n q L (.int ((x.toUInt32 >>> (y.toUInt32 &&& Int32.toUInt32 31)).toInt32) :: r) w b) := by
  subst hq
  rw [rg_run_s h (by first | exact Or.inr rfl | exact Or.inl rfl) hc]
  rfl
theorem rg_e_ladd {f : Bool} {pc : Nat} (h : decode cc pc = .ok (.ladd, 1)) (hc : (!f && cut pc) = false) (q : Nat) (hq : pc + 1 = q) (n : Nat) (L r : List Value) (x y : Int64) (w : rg_W) (b : Nat) : rg_run P X cc cut Z rt f (n + 1) pc L (.long y :: .long x :: r) w b = (rg_run P X cc cut Z rt false n q L (.long (x + y) :: r) w b) := by
  subst hq
  rw [rg_run_s h (by first | exact Or.inr rfl | exact Or.inl rfl) hc]
  rfl
theorem rg_e_land {f : Bool} {pc : Nat} (h : decode cc pc = .ok (.land, 1)) (hc : (!f && cut pc) = false) (q : Nat) (hq : pc + 1 = q) (n : Nat) (L r : List Value) (x y : Int64) (w : rg_W) (b : Nat) : rg_run P X cc cut Z rt f (n + 1) pc L (.long y :: .long x :: r) w b = (rg_run P X cc cut Z rt false n q L (.long (x &&& y) :: r) w b) := by
  subst hq
  rw [rg_run_s h (by first | exact Or.inr rfl | exact Or.inl rfl) hc]
  rfl
theorem rg_e_lor {f : Bool} {pc : Nat} (h : decode cc pc = .ok (.lor, 1)) (hc : (!f && cut pc) = false) (q : Nat) (hq : pc + 1 = q) (n : Nat) (L r : List Value) (x y : Int64) (w : rg_W) (b : Nat) : rg_run P X cc cut Z rt f (n + 1) pc L (.long y :: .long x :: r) w b = (rg_run P X cc cut Z rt false n q L (.long (x ||| y) :: r) w b) := by
  subst hq
  rw [rg_run_s h (by first | exact Or.inr rfl | exact Or.inl rfl) hc]
  rfl
theorem rg_e_lushr {f : Bool} {pc : Nat} (h : decode cc pc = .ok (.lushr, 1)) (hc : (!f && cut pc) = false) (q : Nat) (hq : pc + 1 = q) (n : Nat) (L r : List Value) (x : Int64) (y : Int32) (w : rg_W) (b : Nat) : rg_run P X cc cut Z rt f (n + 1) pc L (.int y :: .long x :: r) w b = (rg_run P X cc cut Z rt false n q L (.long ((x.toUInt64 >>> (y.toInt64.toUInt64 &&& Int64.toUInt64 63)).toInt64) :: r) w b) := by
  subst hq
  rw [rg_run_s h (by first | exact Or.inr rfl | exact Or.inl rfl) hc]
  rfl
theorem rg_e_lshr {f : Bool} {pc : Nat} (h : decode cc pc = .ok (.lshr, 1)) (hc : (!f && cut pc) = false) (q : Nat) (hq : pc + 1 = q) (n : Nat) (L r : List Value) (x : Int64) (y : Int32) (w : rg_W) (b : Nat) : rg_run P X cc cut Z rt f (n + 1) pc L (.int y :: .long x :: r) w b = (rg_run P X cc cut Z rt false n q L (.long (x >>> (y.toInt64 &&& 63)) :: r) w b) := by
  subst hq
  rw [rg_run_s h (by first | exact Or.inr rfl | exact Or.inl rfl) hc]
  rfl
theorem rg_e_lshl {f : Bool} {pc : Nat} (h : decode cc pc = .ok (.lshl, 1)) (hc : (!f && cut pc) = false) (q : Nat) (hq : pc + 1 = q) (n : Nat) (L r : List Value) (x : Int64) (y : Int32) (w : rg_W) (b : Nat) : rg_run P X cc cut Z rt f (n + 1) pc L (.int y :: .long x :: r) w b = (rg_run P X cc cut Z rt false n q L (.long (x <<< (y.toInt64 &&& 63)) :: r) w b) := by
  subst hq
  rw [rg_run_s h (by first | exact Or.inr rfl | exact Or.inl rfl) hc]
  rfl
theorem rg_e_lcmp {f : Bool} {pc : Nat} (h : decode cc pc = .ok (.lcmp, 1)) (hc : (!f && cut pc) = false) (q : Nat) (hq : pc + 1 = q) (n : Nat) (L r : List Value) (x y : Int64) (w : rg_W) (b : Nat) : rg_run P X cc cut Z rt f (n + 1) pc L (.long y :: .long x :: r) w b = (rg_run P X cc cut Z rt false n q L (.int (lg_cmp x y) :: r) w b) := by
  subst hq
  rw [rg_run_s h (by first | exact Or.inr rfl | exact Or.inl rfl) hc]
  rfl
theorem rg_e_i2l {f : Bool} {pc : Nat} (h : decode cc pc = .ok (.i2l, 1)) (hc : (!f && cut pc) = false) (q : Nat) (hq : pc + 1 = q) (n : Nat) (L r : List Value) (x : Int32) (w : rg_W) (b : Nat) : rg_run P X cc cut Z rt f (n + 1) pc L (.int x :: r) w b = (rg_run P X cc cut Z rt false n q L (.long x.toInt64 :: r) w b) := by
  subst hq
  rw [rg_run_s h (by first | exact Or.inr rfl | exact Or.inl rfl) hc]
  rfl
theorem rg_e_l2i {f : Bool} {pc : Nat} (h : decode cc pc = .ok (.l2i, 1)) (hc : (!f && cut pc) = false) (q : Nat) (hq : pc + 1 = q) (n : Nat) (L r : List Value) (x : Int64) (w : rg_W) (b : Nat) : rg_run P X cc cut Z rt f (n + 1) pc L (.long x :: r) w b = (rg_run P X cc cut Z rt false n q L (.int x.toInt32 :: r) w b) := by
  subst hq
  rw [rg_run_s h (by first | exact Or.inr rfl | exact Or.inl rfl) hc]
  rfl
theorem rg_e_dupi {f : Bool} {pc : Nat} (h : decode cc pc = .ok (.dup, 1)) (hc : (!f && cut pc) = false) (q : Nat) (hq : pc + 1 = q) (n : Nat) (L r : List Value) (x : Int32) (w : rg_W) (b : Nat) : rg_run P X cc cut Z rt f (n + 1) pc L (.int x :: r) w b = (rg_run P X cc cut Z rt false n q L (.int x :: .int x :: r) w b) := by
  subst hq
  rw [rg_run_s h (by first | exact Or.inr rfl | exact Or.inl rfl) hc]
  exact propext ⟨fun z => z.2, fun z => ⟨rfl, z⟩⟩
theorem rg_e_popi {f : Bool} {pc : Nat} (h : decode cc pc = .ok (.pop, 1)) (hc : (!f && cut pc) = false) (q : Nat) (hq : pc + 1 = q) (n : Nat) (L r : List Value) (x : Int32) (w : rg_W) (b : Nat) : rg_run P X cc cut Z rt f (n + 1) pc L (.int x :: r) w b = (rg_run P X cc cut Z rt false n q L r w b) := by
  subst hq
  rw [rg_run_s h (by first | exact Or.inr rfl | exact Or.inl rfl) hc]
  exact propext ⟨fun z => z.2, fun z => ⟨rfl, z⟩⟩
theorem rg_e_dupr {f : Bool} {pc : Nat} (h : decode cc pc = .ok (.dup, 1)) (hc : (!f && cut pc) = false) (q : Nat) (hq : pc + 1 = q) (n : Nat) (L r : List Value) (x : Nat) (w : rg_W) (b : Nat) : rg_run P X cc cut Z rt f (n + 1) pc L (.ref x :: r) w b = (rg_run P X cc cut Z rt false n q L (.ref x :: .ref x :: r) w b) := by
  subst hq
  rw [rg_run_s h (by first | exact Or.inr rfl | exact Or.inl rfl) hc]
  exact propext ⟨fun z => z.2, fun z => ⟨rfl, z⟩⟩
theorem rg_e_popr {f : Bool} {pc : Nat} (h : decode cc pc = .ok (.pop, 1)) (hc : (!f && cut pc) = false) (q : Nat) (hq : pc + 1 = q) (n : Nat) (L r : List Value) (x : Nat) (w : rg_W) (b : Nat) : rg_run P X cc cut Z rt f (n + 1) pc L (.ref x :: r) w b = (rg_run P X cc cut Z rt false n q L r w b) := by
  subst hq
  rw [rg_run_s h (by first | exact Or.inr rfl | exact Or.inl rfl) hc]
  exact propext ⟨fun z => z.2, fun z => ⟨rfl, z⟩⟩
theorem rg_e_dup2ri {f : Bool} {pc : Nat} (h : decode cc pc = .ok (.dup2, 1)) (hc : (!f && cut pc) = false) (q : Nat) (hq : pc + 1 = q) (n : Nat) (L r : List Value) (k : Nat) (i : Int32) (w : rg_W) (b : Nat) : rg_run P X cc cut Z rt f (n + 1) pc L (.int i :: .ref k :: r) w b = (rg_run P X cc cut Z rt false n q L (.int i :: .ref k :: .int i :: .ref k :: r) w b) := by
  subst hq
  rw [rg_run_s h (by first | exact Or.inr rfl | exact Or.inl rfl) hc]
  exact propext ⟨fun z => z.2, fun z => ⟨⟨rfl, rfl⟩, z⟩⟩
theorem rg_e_dup_x1ri {f : Bool} {pc : Nat} (h : decode cc pc = .ok (.dup_x1, 1)) (hc : (!f && cut pc) = false) (q : Nat) (hq : pc + 1 = q) (n : Nat) (L r : List Value) (k : Nat) (i : Int32) (w : rg_W) (b : Nat) : rg_run P X cc cut Z rt f (n + 1) pc L (.int i :: .ref k :: r) w b = (rg_run P X cc cut Z rt false n q L (.int i :: .ref k :: .int i :: r) w b) := by
  subst hq
  rw [rg_run_s h (by first | exact Or.inr rfl | exact Or.inl rfl) hc]
  exact propext ⟨fun z => z.2, fun z => ⟨⟨rfl, rfl⟩, z⟩⟩
theorem rg_e_if_eq {f : Bool} {pc : Nat} {off : Int} (h : decode cc pc = .ok (.ifCond .eq off, 3)) (hc : (!f && cut pc) = false) (q : Nat) (hq : pc + 3 = q) (t : Nat) (ht : (pc : Int) + off = (t : Int)) (n : Nat) (L r : List Value) (x : Int32) (w : rg_W) (b : Nat) : rg_run P X cc cut Z rt f (n + 1) pc L (.int x :: r) w b = ((x = 0 → rg_run P X cc cut Z rt false n t L r w b) ∧ (¬ (x = 0) → rg_run P X cc cut Z rt false n q L r w b)) := by
  subst hq
  rw [rg_run_s h (by first | exact Or.inr rfl | exact Or.inl rfl) hc]
  obtain ⟨t1, t2⟩ := rg_tg_eq ht
  subst t1
  exact propext ⟨fun z => z.2, fun z => ⟨t2, z⟩⟩
theorem rg_e_icmp_eq {f : Bool} {pc : Nat} {off : Int} (h : decode cc pc = .ok (.if_icmp .eq off, 3)) (hc : (!f && cut pc) = false) (q : Nat) (hq : pc + 3 = q) (t : Nat) (ht : (pc : Int) + off = (t : Int)) (n : Nat) (L r : List Value) (x y : Int32) (w : rg_W) (b : Nat) : rg_run P X cc cut Z rt f (n + 1) pc L (.int y :: .int x :: r) w b = ((x = y → rg_run P X cc cut Z rt false n t L r w b) ∧ (¬ (x = y) → rg_run P X cc cut Z rt false n q L r w b)) := by
  subst hq
  rw [rg_run_s h (by first | exact Or.inr rfl | exact Or.inl rfl) hc]
  obtain ⟨t1, t2⟩ := rg_tg_eq ht
  subst t1
  exact propext ⟨fun z => z.2, fun z => ⟨t2, z⟩⟩
theorem rg_e_if_ne {f : Bool} {pc : Nat} {off : Int} (h : decode cc pc = .ok (.ifCond .ne off, 3)) (hc : (!f && cut pc) = false) (q : Nat) (hq : pc + 3 = q) (t : Nat) (ht : (pc : Int) + off = (t : Int)) (n : Nat) (L r : List Value) (x : Int32) (w : rg_W) (b : Nat) : rg_run P X cc cut Z rt f (n + 1) pc L (.int x :: r) w b = ((¬ x = 0 → rg_run P X cc cut Z rt false n t L r w b) ∧ (¬ (¬ x = 0) → rg_run P X cc cut Z rt false n q L r w b)) := by
  subst hq
  rw [rg_run_s h (by first | exact Or.inr rfl | exact Or.inl rfl) hc]
  obtain ⟨t1, t2⟩ := rg_tg_eq ht
  subst t1
  exact propext ⟨fun z => z.2, fun z => ⟨t2, z⟩⟩
theorem rg_e_icmp_ne {f : Bool} {pc : Nat} {off : Int} (h : decode cc pc = .ok (.if_icmp .ne off, 3)) (hc : (!f && cut pc) = false) (q : Nat) (hq : pc + 3 = q) (t : Nat) (ht : (pc : Int) + off = (t : Int)) (n : Nat) (L r : List Value) (x y : Int32) (w : rg_W) (b : Nat) : rg_run P X cc cut Z rt f (n + 1) pc L (.int y :: .int x :: r) w b = ((¬ x = y → rg_run P X cc cut Z rt false n t L r w b) ∧ (¬ (¬ x = y) → rg_run P X cc cut Z rt false n q L r w b)) := by
  subst hq
  rw [rg_run_s h (by first | exact Or.inr rfl | exact Or.inl rfl) hc]
  obtain ⟨t1, t2⟩ := rg_tg_eq ht
  subst t1
  exact propext ⟨fun z => z.2, fun z => ⟨t2, z⟩⟩
theorem rg_e_if_lt {f : Bool} {pc : Nat} {off : Int} (h : decode cc pc = .ok (.ifCond .lt off, 3)) (hc : (!f && cut pc) = false) (q : Nat) (hq : pc + 3 = q) (t : Nat) (ht : (pc : Int) + off = (t : Int)) (n : Nat) (L r : List Value) (x : Int32) (w : rg_W) (b : Nat) : rg_run P X cc cut Z rt f (n + 1) pc L (.int x :: r) w b = ((x < 0 → rg_run P X cc cut Z rt false n t L r w b) ∧ (¬ (x < 0) → rg_run P X cc cut Z rt false n q L r w b)) := by
  subst hq
  rw [rg_run_s h (by first | exact Or.inr rfl | exact Or.inl rfl) hc]
  obtain ⟨t1, t2⟩ := rg_tg_eq ht
  subst t1
  exact propext ⟨fun z => z.2, fun z => ⟨t2, z⟩⟩
theorem rg_e_icmp_lt {f : Bool} {pc : Nat} {off : Int} (h : decode cc pc = .ok (.if_icmp .lt off, 3)) (hc : (!f && cut pc) = false) (q : Nat) (hq : pc + 3 = q) (t : Nat) (ht : (pc : Int) + off = (t : Int)) (n : Nat) (L r : List Value) (x y : Int32) (w : rg_W) (b : Nat) : rg_run P X cc cut Z rt f (n + 1) pc L (.int y :: .int x :: r) w b = ((x < y → rg_run P X cc cut Z rt false n t L r w b) ∧ (¬ (x < y) → rg_run P X cc cut Z rt false n q L r w b)) := by
  subst hq
  rw [rg_run_s h (by first | exact Or.inr rfl | exact Or.inl rfl) hc]
  obtain ⟨t1, t2⟩ := rg_tg_eq ht
  subst t1
  exact propext ⟨fun z => z.2, fun z => ⟨t2, z⟩⟩
theorem rg_e_if_ge {f : Bool} {pc : Nat} {off : Int} (h : decode cc pc = .ok (.ifCond .ge off, 3)) (hc : (!f && cut pc) = false) (q : Nat) (hq : pc + 3 = q) (t : Nat) (ht : (pc : Int) + off = (t : Int)) (n : Nat) (L r : List Value) (x : Int32) (w : rg_W) (b : Nat) : rg_run P X cc cut Z rt f (n + 1) pc L (.int x :: r) w b = ((0 ≤ x → rg_run P X cc cut Z rt false n t L r w b) ∧ (¬ (0 ≤ x) → rg_run P X cc cut Z rt false n q L r w b)) := by
  subst hq
  rw [rg_run_s h (by first | exact Or.inr rfl | exact Or.inl rfl) hc]
  obtain ⟨t1, t2⟩ := rg_tg_eq ht
  subst t1
  exact propext ⟨fun z => z.2, fun z => ⟨t2, z⟩⟩
theorem rg_e_icmp_ge {f : Bool} {pc : Nat} {off : Int} (h : decode cc pc = .ok (.if_icmp .ge off, 3)) (hc : (!f && cut pc) = false) (q : Nat) (hq : pc + 3 = q) (t : Nat) (ht : (pc : Int) + off = (t : Int)) (n : Nat) (L r : List Value) (x y : Int32) (w : rg_W) (b : Nat) : rg_run P X cc cut Z rt f (n + 1) pc L (.int y :: .int x :: r) w b = ((y ≤ x → rg_run P X cc cut Z rt false n t L r w b) ∧ (¬ (y ≤ x) → rg_run P X cc cut Z rt false n q L r w b)) := by
  subst hq
  rw [rg_run_s h (by first | exact Or.inr rfl | exact Or.inl rfl) hc]
  obtain ⟨t1, t2⟩ := rg_tg_eq ht
  subst t1
  exact propext ⟨fun z => z.2, fun z => ⟨t2, z⟩⟩
theorem rg_e_if_gt {f : Bool} {pc : Nat} {off : Int} (h : decode cc pc = .ok (.ifCond .gt off, 3)) (hc : (!f && cut pc) = false) (q : Nat) (hq : pc + 3 = q) (t : Nat) (ht : (pc : Int) + off = (t : Int)) (n : Nat) (L r : List Value) (x : Int32) (w : rg_W) (b : Nat) : rg_run P X cc cut Z rt f (n + 1) pc L (.int x :: r) w b = ((0 < x → rg_run P X cc cut Z rt false n t L r w b) ∧ (¬ (0 < x) → rg_run P X cc cut Z rt false n q L r w b)) := by
  subst hq
  rw [rg_run_s h (by first | exact Or.inr rfl | exact Or.inl rfl) hc]
  obtain ⟨t1, t2⟩ := rg_tg_eq ht
  subst t1
  exact propext ⟨fun z => z.2, fun z => ⟨t2, z⟩⟩
theorem rg_e_icmp_gt {f : Bool} {pc : Nat} {off : Int} (h : decode cc pc = .ok (.if_icmp .gt off, 3)) (hc : (!f && cut pc) = false) (q : Nat) (hq : pc + 3 = q) (t : Nat) (ht : (pc : Int) + off = (t : Int)) (n : Nat) (L r : List Value) (x y : Int32) (w : rg_W) (b : Nat) : rg_run P X cc cut Z rt f (n + 1) pc L (.int y :: .int x :: r) w b = ((y < x → rg_run P X cc cut Z rt false n t L r w b) ∧ (¬ (y < x) → rg_run P X cc cut Z rt false n q L r w b)) := by
  subst hq
  rw [rg_run_s h (by first | exact Or.inr rfl | exact Or.inl rfl) hc]
  obtain ⟨t1, t2⟩ := rg_tg_eq ht
  subst t1
  exact propext ⟨fun z => z.2, fun z => ⟨t2, z⟩⟩
theorem rg_e_if_le {f : Bool} {pc : Nat} {off : Int} (h : decode cc pc = .ok (.ifCond .le off, 3)) (hc : (!f && cut pc) = false) (q : Nat) (hq : pc + 3 = q) (t : Nat) (ht : (pc : Int) + off = (t : Int)) (n : Nat) (L r : List Value) (x : Int32) (w : rg_W) (b : Nat) : rg_run P X cc cut Z rt f (n + 1) pc L (.int x :: r) w b = ((x ≤ 0 → rg_run P X cc cut Z rt false n t L r w b) ∧ (¬ (x ≤ 0) → rg_run P X cc cut Z rt false n q L r w b)) := by
  subst hq
  rw [rg_run_s h (by first | exact Or.inr rfl | exact Or.inl rfl) hc]
  obtain ⟨t1, t2⟩ := rg_tg_eq ht
  subst t1
  exact propext ⟨fun z => z.2, fun z => ⟨t2, z⟩⟩
theorem rg_e_icmp_le {f : Bool} {pc : Nat} {off : Int} (h : decode cc pc = .ok (.if_icmp .le off, 3)) (hc : (!f && cut pc) = false) (q : Nat) (hq : pc + 3 = q) (t : Nat) (ht : (pc : Int) + off = (t : Int)) (n : Nat) (L r : List Value) (x y : Int32) (w : rg_W) (b : Nat) : rg_run P X cc cut Z rt f (n + 1) pc L (.int y :: .int x :: r) w b = ((x ≤ y → rg_run P X cc cut Z rt false n t L r w b) ∧ (¬ (x ≤ y) → rg_run P X cc cut Z rt false n q L r w b)) := by
  subst hq
  rw [rg_run_s h (by first | exact Or.inr rfl | exact Or.inl rfl) hc]
  obtain ⟨t1, t2⟩ := rg_tg_eq ht
  subst t1
  exact propext ⟨fun z => z.2, fun z => ⟨t2, z⟩⟩
theorem rg_e_goto {f : Bool} {pc : Nat} {off : Int} (h : decode cc pc = .ok (.goto off, 3)) (hc : (!f && cut pc) = false) (t : Nat) (ht : (pc : Int) + off = (t : Int)) (n : Nat) (L st : List Value) (w : rg_W) (b : Nat) : rg_run P X cc cut Z rt f (n + 1) pc L st w b = (rg_run P X cc cut Z rt false n t L st w b) := by
  rw [rg_run_s h (by first | exact Or.inr rfl | exact Or.inl rfl) hc]
  obtain ⟨t1, t2⟩ := rg_tg_eq ht
  subst t1
  exact propext ⟨fun z => z.2, fun z => ⟨t2, z⟩⟩
theorem rg_e_tsw {f : Bool} {pc : Nat} {d lo hi : Int} {offs : Array Int} {len : Nat} (h : decode cc pc = .ok (.tableswitch d lo hi offs, len)) (hc : (!f && cut pc) = false) (t : Nat) (ht : (pc : Int) + d = (t : Int)) (n : Nat) (L r : List Value) (x : Int32) (w : rg_W) (b : Nat) : rg_run P X cc cut Z rt f (n + 1) pc L (.int x :: r) w b = (((x.toInt < lo ∨ hi < x.toInt) → rg_run P X cc cut Z rt false n t L r w b) ∧ (¬ x.toInt < lo → ¬ hi < x.toInt → rg_some (offs[(x.toInt - lo).toNat]?) (fun o => 0 ≤ (pc : Int) + o ∧ rg_run P X cc cut Z rt false n (rg_tg pc o) L r w b))) := by
  rw [rg_run_s h (by first | exact Or.inr rfl | exact Or.inl rfl) hc]
  obtain ⟨t1, t2⟩ := rg_tg_eq ht
  subst t1
  exact propext ⟨fun z => ⟨fun y => (z.1 y).2, z.2⟩, fun z => ⟨fun y => ⟨t2, z.1 y⟩, z.2⟩⟩
theorem rg_e_geti {f : Bool} {pc : Nat} {k : Nat} (h : decode cc pc = .ok (.getfield k, 3)) (hc : (!f && cut pc) = false) (q : Nat) (hq : pc + 3 = q) (o ci j : Nat) (hf : rg_lk P.1 k = some (ci, j)) (hg : ∀ w : rg_W, rg_gf o ci j w = some (.int (w.1 o j))) (n : Nat) (L r : List Value) (w : rg_W) (b : Nat) : rg_run P X cc cut Z rt f (n + 1) pc L (.ref o :: r) w b = (rg_run P X cc cut Z rt false n q L (.int (w.1 o j) :: r) w b) := by
  subst hq
  rw [rg_run_s h (by first | exact Or.inr rfl | exact Or.inl rfl) hc]
  show rg_some (rg_lk P.1 k) _ = _
  rw [hf]
  show rg_some (rg_gf o ci j w) _ = _
  rw [hg]
  rfl
theorem rg_e_getr {f : Bool} {pc : Nat} {k : Nat} (h : decode cc pc = .ok (.getfield k, 3)) (hc : (!f && cut pc) = false) (q : Nat) (hq : pc + 3 = q) (o ci j o2 : Nat) (hf : rg_lk P.1 k = some (ci, j)) (hg : ∀ w : rg_W, rg_gf o ci j w = some (.ref o2)) (n : Nat) (L r : List Value) (w : rg_W) (b : Nat) : rg_run P X cc cut Z rt f (n + 1) pc L (.ref o :: r) w b = (rg_run P X cc cut Z rt false n q L (.ref o2 :: r) w b) := by
  subst hq
  rw [rg_run_s h (by first | exact Or.inr rfl | exact Or.inl rfl) hc]
  show rg_some (rg_lk P.1 k) _ = _
  rw [hf]
  show rg_some (rg_gf o ci j w) _ = _
  rw [hg]
  rfl
theorem rg_e_put {f : Bool} {pc : Nat} {k : Nat} (h : decode cc pc = .ok (.putfield k, 3)) (hc : (!f && cut pc) = false) (q : Nat) (hq : pc + 3 = q) (o ci j : Nat) (hf : rg_lk P.1 k = some (ci, j)) (hg : rg_pf o ci j = true) (n : Nat) (L r : List Value) (x : Int32) (w : rg_W) (b : Nat) : rg_run P X cc cut Z rt f (n + 1) pc L (.int x :: .ref o :: r) w b = (rg_run P X cc cut Z rt false n q L r (rg_up w o j x) b) := by
  subst hq
  rw [rg_run_s h (by first | exact Or.inr rfl | exact Or.inl rfl) hc]
  show rg_some (rg_lk P.1 k) _ = _
  rw [hf]
  exact propext ⟨fun z => z.2, fun z => ⟨hg, z⟩⟩
theorem rg_e_iald {f : Bool} {pc : Nat} (h : decode cc pc = .ok (.iaload, 1)) (hc : (!f && cut pc) = false) (q : Nat) (hq : pc + 1 = q) (o N : Nat) (ha : rg_ar o = some (0, N)) (n : Nat) (L r : List Value) (i : Int32) (w : rg_W) (b : Nat) : rg_run P X cc cut Z rt f (n + 1) pc L (.int i :: .ref o :: r) w b = (vp_in i N ∧ rg_run P X cc cut Z rt false n q L (.int (w.1 o i.toNatClampNeg) :: r) w b) := by
  subst hq
  rw [rg_run_s h (by first | exact Or.inr rfl | exact Or.inl rfl) hc]
  show rg_ial X (rg_ar o) o i w (fun x => rg_run P X cc cut Z rt false n (pc + 1) L (.int x :: r) w b) = _
  rw [ha]
  rfl
theorem rg_e_zald {f : Bool} {pc : Nat} (h : decode cc pc = .ok (.baload, 1)) (hc : (!f && cut pc) = false) (q : Nat) (hq : pc + 1 = q) (o N : Nat) (ha : rg_ar o = some (1, N)) (n : Nat) (L r : List Value) (i : Int32) (w : rg_W) (b : Nat) : rg_run P X cc cut Z rt f (n + 1) pc L (.int i :: .ref o :: r) w b = (vp_in i N ∧ rg_run P X cc cut Z rt false n q L (.int (w.1 o i.toNatClampNeg) :: r) w b) := by
  subst hq
  rw [rg_run_s h (by first | exact Or.inr rfl | exact Or.inl rfl) hc]
  show rg_zal (rg_ar o) o i w (fun x => rg_run P X cc cut Z rt false n (pc + 1) L (.int x :: r) w b) = _
  rw [ha]
  rfl
theorem rg_e_lald {f : Bool} {pc : Nat} (h : decode cc pc = .ok (.laload, 1)) (hc : (!f && cut pc) = false) (q : Nat) (hq : pc + 1 = q) (o N : Nat) (ha : rg_ar o = some (2, N)) (n : Nat) (L r : List Value) (i : Int32) (w : rg_W) (b : Nat) : rg_run P X cc cut Z rt f (n + 1) pc L (.int i :: .ref o :: r) w b = (vp_in i N ∧ rg_run P X cc cut Z rt false n q L (.long (w.2 o i.toNatClampNeg) :: r) w b) := by
  subst hq
  rw [rg_run_s h (by first | exact Or.inr rfl | exact Or.inl rfl) hc]
  show rg_lal (rg_ar o) o i w (fun x => rg_run P X cc cut Z rt false n (pc + 1) L (.long x :: r) w b) = _
  rw [ha]
  rfl
theorem rg_e_sld {f : Bool} {pc : Nat} (h : decode cc pc = .ok (.iaload, 1)) (hc : (!f && cut pc) = false) (q : Nat) (hq : pc + 1 = q) (N : Nat) (xs : Nat → Int32) (hX : X = some (N, xs)) (n : Nat) (L r : List Value) (i : Int32) (w : rg_W) (b : Nat) : rg_run P X cc cut Z rt f (n + 1) pc L (.int i :: .ref 99 :: r) w b = (vp_in i N ∧ rg_run P X cc cut Z rt false n q L (.int (xs i.toNatClampNeg) :: r) w b) := by
  subst hq
  rw [rg_run_s h (by first | exact Or.inr rfl | exact Or.inl rfl) hc]
  show rg_ial X (rg_ar 99) 99 i w (fun x => rg_run P X cc cut Z rt false n (pc + 1) L (.int x :: r) w b) = _
  rw [hX]
  exact propext ⟨fun z => z.2, fun z => ⟨rfl, z⟩⟩
theorem rg_e_slen {f : Bool} {pc : Nat} (h : decode cc pc = .ok (.arraylength, 1)) (hc : (!f && cut pc) = false) (q : Nat) (hq : pc + 1 = q) (N : Nat) (xs : Nat → Int32) (hX : X = some (N, xs)) (n : Nat) (L r : List Value) (w : rg_W) (b : Nat) : rg_run P X cc cut Z rt f (n + 1) pc L (.ref 99 :: r) w b = (rg_run P X cc cut Z rt false n q L (.int (nI N) :: r) w b) := by
  subst hq
  rw [rg_run_s h (by first | exact Or.inr rfl | exact Or.inl rfl) hc]
  rw [hX]
  exact propext ⟨fun z => z.2, fun z => ⟨rfl, z⟩⟩
theorem rg_e_iast {f : Bool} {pc : Nat} (h : decode cc pc = .ok (.iastore, 1)) (hc : (!f && cut pc) = false) (q : Nat) (hq : pc + 1 = q) (o N : Nat) (ha : rg_ar o = some (0, N)) (n : Nat) (L r : List Value) (i : Int32) (x : Int32) (w : rg_W) (b : Nat) : rg_run P X cc cut Z rt f (n + 1) pc L (.int x :: .int i :: .ref o :: r) w b = (vp_in i N ∧ rg_run P X cc cut Z rt false n q L r (rg_up w o i.toNatClampNeg x) b) := by
  subst hq
  rw [rg_run_s h (by first | exact Or.inr rfl | exact Or.inl rfl) hc]
  show rg_ias (rg_ar o) o i x w (fun w' => rg_run P X cc cut Z rt false n (pc + 1) L r w' b) = _
  rw [ha]
  rfl
theorem rg_e_zast {f : Bool} {pc : Nat} (h : decode cc pc = .ok (.bastore, 1)) (hc : (!f && cut pc) = false) (q : Nat) (hq : pc + 1 = q) (o N : Nat) (ha : rg_ar o = some (1, N)) (n : Nat) (L r : List Value) (i : Int32) (x : Int32) (w : rg_W) (b : Nat) : rg_run P X cc cut Z rt f (n + 1) pc L (.int x :: .int i :: .ref o :: r) w b = (vp_in i N ∧ rg_run P X cc cut Z rt false n q L r (rg_up w o i.toNatClampNeg (vp_nar .boolean x)) b) := by
  subst hq
  rw [rg_run_s h (by first | exact Or.inr rfl | exact Or.inl rfl) hc]
  show rg_zas (rg_ar o) o i x w (fun w' => rg_run P X cc cut Z rt false n (pc + 1) L r w' b) = _
  rw [ha]
  rfl
theorem rg_e_last {f : Bool} {pc : Nat} (h : decode cc pc = .ok (.lastore, 1)) (hc : (!f && cut pc) = false) (q : Nat) (hq : pc + 1 = q) (o N : Nat) (ha : rg_ar o = some (2, N)) (n : Nat) (L r : List Value) (i : Int32) (x : Int64) (w : rg_W) (b : Nat) : rg_run P X cc cut Z rt f (n + 1) pc L (.long x :: .int i :: .ref o :: r) w b = (vp_in i N ∧ rg_run P X cc cut Z rt false n q L r (rg_upL w o i.toNatClampNeg x) b) := by
  subst hq
  rw [rg_run_s h (by first | exact Or.inr rfl | exact Or.inl rfl) hc]
  show rg_las (rg_ar o) o i x w (fun w' => rg_run P X cc cut Z rt false n (pc + 1) L r w' b) = _
  rw [ha]
  rfl
theorem rg_e_cs0 {f : Bool} {pc : Nat} {k : Nat} (h : decode cc pc = .ok (.invokestatic k, 3)) (hc : (!f && cut pc) = false) (T : rg_T) (hf : rg_lk P.2.1 (2 * k) = some (0, 0, T)) (n : Nat) (L r : List Value) (w : rg_W) (b : Nat) : rg_run P X cc cut Z rt f (n + 1) pc L (r) w b = (rg_wd r ≤ 8 ∧ T [] w (rg_nx P.2.2.2.2.2.1 pc L r b (rg_run P X cc cut Z rt false n))) := by
  rw [rg_run_s h (by first | exact Or.inr rfl | exact Or.inl rfl) hc]
  show rg_inv P (rg_lk P.2.1 (2 * k)) pc L _ w b _ = _
  rw [hf]
  exact propext ⟨fun z => z.2, fun z => ⟨Or.inl rfl, z⟩⟩
theorem rg_e_csx0 {f : Bool} {pc : Nat} {k : Nat} (h : decode cc pc = .ok (.invokestatic k, 3)) (hc : (!f && cut pc) = false) (T : rg_T) (hf : rg_lk P.2.1 (2 * k) = some (0, 1, T)) (n : Nat) (L r : List Value) (w : rg_W) (b : Nat) : rg_run P X cc cut Z rt f (n + 1) pc L (r) w b = (b + 1 ≤ P.2.2.2.2.2.2 ∧ rg_wd r ≤ 8 ∧ T [] w (rg_nx P.2.2.2.2.2.1 pc L r (b + 1) (rg_run P X cc cut Z rt false n))) := by
  rw [rg_run_s h (by first | exact Or.inr rfl | exact Or.inl rfl) hc]
  show rg_inv P (rg_lk P.2.1 (2 * k)) pc L _ w b _ = _
  rw [hf]
  exact propext ⟨fun z => ⟨z.1.resolve_left (by decide), z.2⟩, fun z => ⟨Or.inr z.1, z.2⟩⟩
theorem rg_e_cv0 {f : Bool} {pc : Nat} {k : Nat} (h : decode cc pc = .ok (.invokevirtual k, 3)) (hc : (!f && cut pc) = false) (T : rg_T) (hf : rg_lk P.2.1 (2 * k + 1) = some (0, 0, T)) (n : Nat) (L r : List Value) (w : rg_W) (b : Nat) : rg_run P X cc cut Z rt f (n + 1) pc L (r) w b = (rg_wd r ≤ 8 ∧ T [] w (rg_nx P.2.2.2.2.2.1 pc L r b (rg_run P X cc cut Z rt false n))) := by
  rw [rg_run_s h (by first | exact Or.inr rfl | exact Or.inl rfl) hc]
  show rg_inv P (rg_lk P.2.1 (2 * k + 1)) pc L _ w b _ = _
  rw [hf]
  exact propext ⟨fun z => z.2, fun z => ⟨Or.inl rfl, z⟩⟩
theorem rg_e_cvx0 {f : Bool} {pc : Nat} {k : Nat} (h : decode cc pc = .ok (.invokevirtual k, 3)) (hc : (!f && cut pc) = false) (T : rg_T) (hf : rg_lk P.2.1 (2 * k + 1) = some (0, 1, T)) (n : Nat) (L r : List Value) (w : rg_W) (b : Nat) : rg_run P X cc cut Z rt f (n + 1) pc L (r) w b = (b + 1 ≤ P.2.2.2.2.2.2 ∧ rg_wd r ≤ 8 ∧ T [] w (rg_nx P.2.2.2.2.2.1 pc L r (b + 1) (rg_run P X cc cut Z rt false n))) := by
  rw [rg_run_s h (by first | exact Or.inr rfl | exact Or.inl rfl) hc]
  show rg_inv P (rg_lk P.2.1 (2 * k + 1)) pc L _ w b _ = _
  rw [hf]
  exact propext ⟨fun z => ⟨z.1.resolve_left (by decide), z.2⟩, fun z => ⟨Or.inr z.1, z.2⟩⟩
theorem rg_e_cs1 {f : Bool} {pc : Nat} {k : Nat} (h : decode cc pc = .ok (.invokestatic k, 3)) (hc : (!f && cut pc) = false) (T : rg_T) (hf : rg_lk P.2.1 (2 * k) = some (1, 0, T)) (n : Nat) (L r : List Value) (a0 : Value) (w : rg_W) (b : Nat) : rg_run P X cc cut Z rt f (n + 1) pc L (a0 :: r) w b = (rg_wd r ≤ 8 ∧ T [a0] w (rg_nx P.2.2.2.2.2.1 pc L r b (rg_run P X cc cut Z rt false n))) := by
  rw [rg_run_s h (by first | exact Or.inr rfl | exact Or.inl rfl) hc]
  show rg_inv P (rg_lk P.2.1 (2 * k)) pc L _ w b _ = _
  rw [hf]
  exact propext ⟨fun z => z.2, fun z => ⟨Or.inl rfl, z⟩⟩
theorem rg_e_csx1 {f : Bool} {pc : Nat} {k : Nat} (h : decode cc pc = .ok (.invokestatic k, 3)) (hc : (!f && cut pc) = false) (T : rg_T) (hf : rg_lk P.2.1 (2 * k) = some (1, 1, T)) (n : Nat) (L r : List Value) (a0 : Value) (w : rg_W) (b : Nat) : rg_run P X cc cut Z rt f (n + 1) pc L (a0 :: r) w b = (b + 1 ≤ P.2.2.2.2.2.2 ∧ rg_wd r ≤ 8 ∧ T [a0] w (rg_nx P.2.2.2.2.2.1 pc L r (b + 1) (rg_run P X cc cut Z rt false n))) := by
  rw [rg_run_s h (by first | exact Or.inr rfl | exact Or.inl rfl) hc]
  show rg_inv P (rg_lk P.2.1 (2 * k)) pc L _ w b _ = _
  rw [hf]
  exact propext ⟨fun z => ⟨z.1.resolve_left (by decide), z.2⟩, fun z => ⟨Or.inr z.1, z.2⟩⟩
theorem rg_e_cv1 {f : Bool} {pc : Nat} {k : Nat} (h : decode cc pc = .ok (.invokevirtual k, 3)) (hc : (!f && cut pc) = false) (T : rg_T) (hf : rg_lk P.2.1 (2 * k + 1) = some (1, 0, T)) (n : Nat) (L r : List Value) (a0 : Value) (w : rg_W) (b : Nat) : rg_run P X cc cut Z rt f (n + 1) pc L (a0 :: r) w b = (rg_wd r ≤ 8 ∧ T [a0] w (rg_nx P.2.2.2.2.2.1 pc L r b (rg_run P X cc cut Z rt false n))) := by
  rw [rg_run_s h (by first | exact Or.inr rfl | exact Or.inl rfl) hc]
  show rg_inv P (rg_lk P.2.1 (2 * k + 1)) pc L _ w b _ = _
  rw [hf]
  exact propext ⟨fun z => z.2, fun z => ⟨Or.inl rfl, z⟩⟩
theorem rg_e_cvx1 {f : Bool} {pc : Nat} {k : Nat} (h : decode cc pc = .ok (.invokevirtual k, 3)) (hc : (!f && cut pc) = false) (T : rg_T) (hf : rg_lk P.2.1 (2 * k + 1) = some (1, 1, T)) (n : Nat) (L r : List Value) (a0 : Value) (w : rg_W) (b : Nat) : rg_run P X cc cut Z rt f (n + 1) pc L (a0 :: r) w b = (b + 1 ≤ P.2.2.2.2.2.2 ∧ rg_wd r ≤ 8 ∧ T [a0] w (rg_nx P.2.2.2.2.2.1 pc L r (b + 1) (rg_run P X cc cut Z rt false n))) := by
  rw [rg_run_s h (by first | exact Or.inr rfl | exact Or.inl rfl) hc]
  show rg_inv P (rg_lk P.2.1 (2 * k + 1)) pc L _ w b _ = _
  rw [hf]
  exact propext ⟨fun z => ⟨z.1.resolve_left (by decide), z.2⟩, fun z => ⟨Or.inr z.1, z.2⟩⟩
theorem rg_e_cs2 {f : Bool} {pc : Nat} {k : Nat} (h : decode cc pc = .ok (.invokestatic k, 3)) (hc : (!f && cut pc) = false) (T : rg_T) (hf : rg_lk P.2.1 (2 * k) = some (2, 0, T)) (n : Nat) (L r : List Value) (a0 : Value) (a1 : Value) (w : rg_W) (b : Nat) : rg_run P X cc cut Z rt f (n + 1) pc L (a1 :: a0 :: r) w b = (rg_wd r ≤ 8 ∧ T [a0, a1] w (rg_nx P.2.2.2.2.2.1 pc L r b (rg_run P X cc cut Z rt false n))) := by
  rw [rg_run_s h (by first | exact Or.inr rfl | exact Or.inl rfl) hc]
  show rg_inv P (rg_lk P.2.1 (2 * k)) pc L _ w b _ = _
  rw [hf]
  exact propext ⟨fun z => z.2, fun z => ⟨Or.inl rfl, z⟩⟩
theorem rg_e_csx2 {f : Bool} {pc : Nat} {k : Nat} (h : decode cc pc = .ok (.invokestatic k, 3)) (hc : (!f && cut pc) = false) (T : rg_T) (hf : rg_lk P.2.1 (2 * k) = some (2, 1, T)) (n : Nat) (L r : List Value) (a0 : Value) (a1 : Value) (w : rg_W) (b : Nat) : rg_run P X cc cut Z rt f (n + 1) pc L (a1 :: a0 :: r) w b = (b + 1 ≤ P.2.2.2.2.2.2 ∧ rg_wd r ≤ 8 ∧ T [a0, a1] w (rg_nx P.2.2.2.2.2.1 pc L r (b + 1) (rg_run P X cc cut Z rt false n))) := by
  rw [rg_run_s h (by first | exact Or.inr rfl | exact Or.inl rfl) hc]
  show rg_inv P (rg_lk P.2.1 (2 * k)) pc L _ w b _ = _
  rw [hf]
  exact propext ⟨fun z => ⟨z.1.resolve_left (by decide), z.2⟩, fun z => ⟨Or.inr z.1, z.2⟩⟩
theorem rg_e_cv2 {f : Bool} {pc : Nat} {k : Nat} (h : decode cc pc = .ok (.invokevirtual k, 3)) (hc : (!f && cut pc) = false) (T : rg_T) (hf : rg_lk P.2.1 (2 * k + 1) = some (2, 0, T)) (n : Nat) (L r : List Value) (a0 : Value) (a1 : Value) (w : rg_W) (b : Nat) : rg_run P X cc cut Z rt f (n + 1) pc L (a1 :: a0 :: r) w b = (rg_wd r ≤ 8 ∧ T [a0, a1] w (rg_nx P.2.2.2.2.2.1 pc L r b (rg_run P X cc cut Z rt false n))) := by
  rw [rg_run_s h (by first | exact Or.inr rfl | exact Or.inl rfl) hc]
  show rg_inv P (rg_lk P.2.1 (2 * k + 1)) pc L _ w b _ = _
  rw [hf]
  exact propext ⟨fun z => z.2, fun z => ⟨Or.inl rfl, z⟩⟩
theorem rg_e_cvx2 {f : Bool} {pc : Nat} {k : Nat} (h : decode cc pc = .ok (.invokevirtual k, 3)) (hc : (!f && cut pc) = false) (T : rg_T) (hf : rg_lk P.2.1 (2 * k + 1) = some (2, 1, T)) (n : Nat) (L r : List Value) (a0 : Value) (a1 : Value) (w : rg_W) (b : Nat) : rg_run P X cc cut Z rt f (n + 1) pc L (a1 :: a0 :: r) w b = (b + 1 ≤ P.2.2.2.2.2.2 ∧ rg_wd r ≤ 8 ∧ T [a0, a1] w (rg_nx P.2.2.2.2.2.1 pc L r (b + 1) (rg_run P X cc cut Z rt false n))) := by
  rw [rg_run_s h (by first | exact Or.inr rfl | exact Or.inl rfl) hc]
  show rg_inv P (rg_lk P.2.1 (2 * k + 1)) pc L _ w b _ = _
  rw [hf]
  exact propext ⟨fun z => ⟨z.1.resolve_left (by decide), z.2⟩, fun z => ⟨Or.inr z.1, z.2⟩⟩
theorem rg_e_cs3 {f : Bool} {pc : Nat} {k : Nat} (h : decode cc pc = .ok (.invokestatic k, 3)) (hc : (!f && cut pc) = false) (T : rg_T) (hf : rg_lk P.2.1 (2 * k) = some (3, 0, T)) (n : Nat) (L r : List Value) (a0 : Value) (a1 : Value) (a2 : Value) (w : rg_W) (b : Nat) : rg_run P X cc cut Z rt f (n + 1) pc L (a2 :: a1 :: a0 :: r) w b = (rg_wd r ≤ 8 ∧ T [a0, a1, a2] w (rg_nx P.2.2.2.2.2.1 pc L r b (rg_run P X cc cut Z rt false n))) := by
  rw [rg_run_s h (by first | exact Or.inr rfl | exact Or.inl rfl) hc]
  show rg_inv P (rg_lk P.2.1 (2 * k)) pc L _ w b _ = _
  rw [hf]
  exact propext ⟨fun z => z.2, fun z => ⟨Or.inl rfl, z⟩⟩
theorem rg_e_csx3 {f : Bool} {pc : Nat} {k : Nat} (h : decode cc pc = .ok (.invokestatic k, 3)) (hc : (!f && cut pc) = false) (T : rg_T) (hf : rg_lk P.2.1 (2 * k) = some (3, 1, T)) (n : Nat) (L r : List Value) (a0 : Value) (a1 : Value) (a2 : Value) (w : rg_W) (b : Nat) : rg_run P X cc cut Z rt f (n + 1) pc L (a2 :: a1 :: a0 :: r) w b = (b + 1 ≤ P.2.2.2.2.2.2 ∧ rg_wd r ≤ 8 ∧ T [a0, a1, a2] w (rg_nx P.2.2.2.2.2.1 pc L r (b + 1) (rg_run P X cc cut Z rt false n))) := by
  rw [rg_run_s h (by first | exact Or.inr rfl | exact Or.inl rfl) hc]
  show rg_inv P (rg_lk P.2.1 (2 * k)) pc L _ w b _ = _
  rw [hf]
  exact propext ⟨fun z => ⟨z.1.resolve_left (by decide), z.2⟩, fun z => ⟨Or.inr z.1, z.2⟩⟩
theorem rg_e_cv3 {f : Bool} {pc : Nat} {k : Nat} (h : decode cc pc = .ok (.invokevirtual k, 3)) (hc : (!f && cut pc) = false) (T : rg_T) (hf : rg_lk P.2.1 (2 * k + 1) = some (3, 0, T)) (n : Nat) (L r : List Value) (a0 : Value) (a1 : Value) (a2 : Value) (w : rg_W) (b : Nat) : rg_run P X cc cut Z rt f (n + 1) pc L (a2 :: a1 :: a0 :: r) w b = (rg_wd r ≤ 8 ∧ T [a0, a1, a2] w (rg_nx P.2.2.2.2.2.1 pc L r b (rg_run P X cc cut Z rt false n))) := by
  rw [rg_run_s h (by first | exact Or.inr rfl | exact Or.inl rfl) hc]
  show rg_inv P (rg_lk P.2.1 (2 * k + 1)) pc L _ w b _ = _
  rw [hf]
  exact propext ⟨fun z => z.2, fun z => ⟨Or.inl rfl, z⟩⟩
theorem rg_e_cvx3 {f : Bool} {pc : Nat} {k : Nat} (h : decode cc pc = .ok (.invokevirtual k, 3)) (hc : (!f && cut pc) = false) (T : rg_T) (hf : rg_lk P.2.1 (2 * k + 1) = some (3, 1, T)) (n : Nat) (L r : List Value) (a0 : Value) (a1 : Value) (a2 : Value) (w : rg_W) (b : Nat) : rg_run P X cc cut Z rt f (n + 1) pc L (a2 :: a1 :: a0 :: r) w b = (b + 1 ≤ P.2.2.2.2.2.2 ∧ rg_wd r ≤ 8 ∧ T [a0, a1, a2] w (rg_nx P.2.2.2.2.2.1 pc L r (b + 1) (rg_run P X cc cut Z rt false n))) := by
  rw [rg_run_s h (by first | exact Or.inr rfl | exact Or.inl rfl) hc]
  show rg_inv P (rg_lk P.2.1 (2 * k + 1)) pc L _ w b _ = _
  rw [hf]
  exact propext ⟨fun z => ⟨z.1.resolve_left (by decide), z.2⟩, fun z => ⟨Or.inr z.1, z.2⟩⟩
theorem rg_e_cs4 {f : Bool} {pc : Nat} {k : Nat} (h : decode cc pc = .ok (.invokestatic k, 3)) (hc : (!f && cut pc) = false) (T : rg_T) (hf : rg_lk P.2.1 (2 * k) = some (4, 0, T)) (n : Nat) (L r : List Value) (a0 : Value) (a1 : Value) (a2 : Value) (a3 : Value) (w : rg_W) (b : Nat) : rg_run P X cc cut Z rt f (n + 1) pc L (a3 :: a2 :: a1 :: a0 :: r) w b = (rg_wd r ≤ 8 ∧ T [a0, a1, a2, a3] w (rg_nx P.2.2.2.2.2.1 pc L r b (rg_run P X cc cut Z rt false n))) := by
  rw [rg_run_s h (by first | exact Or.inr rfl | exact Or.inl rfl) hc]
  show rg_inv P (rg_lk P.2.1 (2 * k)) pc L _ w b _ = _
  rw [hf]
  exact propext ⟨fun z => z.2, fun z => ⟨Or.inl rfl, z⟩⟩
theorem rg_e_csx4 {f : Bool} {pc : Nat} {k : Nat} (h : decode cc pc = .ok (.invokestatic k, 3)) (hc : (!f && cut pc) = false) (T : rg_T) (hf : rg_lk P.2.1 (2 * k) = some (4, 1, T)) (n : Nat) (L r : List Value) (a0 : Value) (a1 : Value) (a2 : Value) (a3 : Value) (w : rg_W) (b : Nat) : rg_run P X cc cut Z rt f (n + 1) pc L (a3 :: a2 :: a1 :: a0 :: r) w b = (b + 1 ≤ P.2.2.2.2.2.2 ∧ rg_wd r ≤ 8 ∧ T [a0, a1, a2, a3] w (rg_nx P.2.2.2.2.2.1 pc L r (b + 1) (rg_run P X cc cut Z rt false n))) := by
  rw [rg_run_s h (by first | exact Or.inr rfl | exact Or.inl rfl) hc]
  show rg_inv P (rg_lk P.2.1 (2 * k)) pc L _ w b _ = _
  rw [hf]
  exact propext ⟨fun z => ⟨z.1.resolve_left (by decide), z.2⟩, fun z => ⟨Or.inr z.1, z.2⟩⟩
theorem rg_e_cv4 {f : Bool} {pc : Nat} {k : Nat} (h : decode cc pc = .ok (.invokevirtual k, 3)) (hc : (!f && cut pc) = false) (T : rg_T) (hf : rg_lk P.2.1 (2 * k + 1) = some (4, 0, T)) (n : Nat) (L r : List Value) (a0 : Value) (a1 : Value) (a2 : Value) (a3 : Value) (w : rg_W) (b : Nat) : rg_run P X cc cut Z rt f (n + 1) pc L (a3 :: a2 :: a1 :: a0 :: r) w b = (rg_wd r ≤ 8 ∧ T [a0, a1, a2, a3] w (rg_nx P.2.2.2.2.2.1 pc L r b (rg_run P X cc cut Z rt false n))) := by
  rw [rg_run_s h (by first | exact Or.inr rfl | exact Or.inl rfl) hc]
  show rg_inv P (rg_lk P.2.1 (2 * k + 1)) pc L _ w b _ = _
  rw [hf]
  exact propext ⟨fun z => z.2, fun z => ⟨Or.inl rfl, z⟩⟩
theorem rg_e_cvx4 {f : Bool} {pc : Nat} {k : Nat} (h : decode cc pc = .ok (.invokevirtual k, 3)) (hc : (!f && cut pc) = false) (T : rg_T) (hf : rg_lk P.2.1 (2 * k + 1) = some (4, 1, T)) (n : Nat) (L r : List Value) (a0 : Value) (a1 : Value) (a2 : Value) (a3 : Value) (w : rg_W) (b : Nat) : rg_run P X cc cut Z rt f (n + 1) pc L (a3 :: a2 :: a1 :: a0 :: r) w b = (b + 1 ≤ P.2.2.2.2.2.2 ∧ rg_wd r ≤ 8 ∧ T [a0, a1, a2, a3] w (rg_nx P.2.2.2.2.2.1 pc L r (b + 1) (rg_run P X cc cut Z rt false n))) := by
  rw [rg_run_s h (by first | exact Or.inr rfl | exact Or.inl rfl) hc]
  show rg_inv P (rg_lk P.2.1 (2 * k + 1)) pc L _ w b _ = _
  rw [hf]
  exact propext ⟨fun z => ⟨z.1.resolve_left (by decide), z.2⟩, fun z => ⟨Or.inr z.1, z.2⟩⟩
theorem rg_e_cs5 {f : Bool} {pc : Nat} {k : Nat} (h : decode cc pc = .ok (.invokestatic k, 3)) (hc : (!f && cut pc) = false) (T : rg_T) (hf : rg_lk P.2.1 (2 * k) = some (5, 0, T)) (n : Nat) (L r : List Value) (a0 : Value) (a1 : Value) (a2 : Value) (a3 : Value) (a4 : Value) (w : rg_W) (b : Nat) : rg_run P X cc cut Z rt f (n + 1) pc L (a4 :: a3 :: a2 :: a1 :: a0 :: r) w b = (rg_wd r ≤ 8 ∧ T [a0, a1, a2, a3, a4] w (rg_nx P.2.2.2.2.2.1 pc L r b (rg_run P X cc cut Z rt false n))) := by
  rw [rg_run_s h (by first | exact Or.inr rfl | exact Or.inl rfl) hc]
  show rg_inv P (rg_lk P.2.1 (2 * k)) pc L _ w b _ = _
  rw [hf]
  exact propext ⟨fun z => z.2, fun z => ⟨Or.inl rfl, z⟩⟩
theorem rg_e_csx5 {f : Bool} {pc : Nat} {k : Nat} (h : decode cc pc = .ok (.invokestatic k, 3)) (hc : (!f && cut pc) = false) (T : rg_T) (hf : rg_lk P.2.1 (2 * k) = some (5, 1, T)) (n : Nat) (L r : List Value) (a0 : Value) (a1 : Value) (a2 : Value) (a3 : Value) (a4 : Value) (w : rg_W) (b : Nat) : rg_run P X cc cut Z rt f (n + 1) pc L (a4 :: a3 :: a2 :: a1 :: a0 :: r) w b = (b + 1 ≤ P.2.2.2.2.2.2 ∧ rg_wd r ≤ 8 ∧ T [a0, a1, a2, a3, a4] w (rg_nx P.2.2.2.2.2.1 pc L r (b + 1) (rg_run P X cc cut Z rt false n))) := by
  rw [rg_run_s h (by first | exact Or.inr rfl | exact Or.inl rfl) hc]
  show rg_inv P (rg_lk P.2.1 (2 * k)) pc L _ w b _ = _
  rw [hf]
  exact propext ⟨fun z => ⟨z.1.resolve_left (by decide), z.2⟩, fun z => ⟨Or.inr z.1, z.2⟩⟩
theorem rg_e_cv5 {f : Bool} {pc : Nat} {k : Nat} (h : decode cc pc = .ok (.invokevirtual k, 3)) (hc : (!f && cut pc) = false) (T : rg_T) (hf : rg_lk P.2.1 (2 * k + 1) = some (5, 0, T)) (n : Nat) (L r : List Value) (a0 : Value) (a1 : Value) (a2 : Value) (a3 : Value) (a4 : Value) (w : rg_W) (b : Nat) : rg_run P X cc cut Z rt f (n + 1) pc L (a4 :: a3 :: a2 :: a1 :: a0 :: r) w b = (rg_wd r ≤ 8 ∧ T [a0, a1, a2, a3, a4] w (rg_nx P.2.2.2.2.2.1 pc L r b (rg_run P X cc cut Z rt false n))) := by
  rw [rg_run_s h (by first | exact Or.inr rfl | exact Or.inl rfl) hc]
  show rg_inv P (rg_lk P.2.1 (2 * k + 1)) pc L _ w b _ = _
  rw [hf]
  exact propext ⟨fun z => z.2, fun z => ⟨Or.inl rfl, z⟩⟩
theorem rg_e_cvx5 {f : Bool} {pc : Nat} {k : Nat} (h : decode cc pc = .ok (.invokevirtual k, 3)) (hc : (!f && cut pc) = false) (T : rg_T) (hf : rg_lk P.2.1 (2 * k + 1) = some (5, 1, T)) (n : Nat) (L r : List Value) (a0 : Value) (a1 : Value) (a2 : Value) (a3 : Value) (a4 : Value) (w : rg_W) (b : Nat) : rg_run P X cc cut Z rt f (n + 1) pc L (a4 :: a3 :: a2 :: a1 :: a0 :: r) w b = (b + 1 ≤ P.2.2.2.2.2.2 ∧ rg_wd r ≤ 8 ∧ T [a0, a1, a2, a3, a4] w (rg_nx P.2.2.2.2.2.1 pc L r (b + 1) (rg_run P X cc cut Z rt false n))) := by
  rw [rg_run_s h (by first | exact Or.inr rfl | exact Or.inl rfl) hc]
  show rg_inv P (rg_lk P.2.1 (2 * k + 1)) pc L _ w b _ = _
  rw [hf]
  exact propext ⟨fun z => ⟨z.1.resolve_left (by decide), z.2⟩, fun z => ⟨Or.inr z.1, z.2⟩⟩
theorem rg_e_new {f : Bool} {pc : Nat} {k : Nat} (h : decode cc pc = .ok (.new k, 3)) (hc : (!f && cut pc) = false) (x : Nat) (hf : rg_lk P.2.2.2.2.1 k = some x) (n : Nat) (L st : List Value) (w : rg_W) (b : Nat) : rg_run P X cc cut Z rt f (n + 1) pc L st w b = (rt (some (.float (UInt32.ofNat x))) w b) := by
  rw [rg_run_s h (by first | exact Or.inr rfl | exact Or.inl rfl) hc]
  show rg_some (rg_lk P.2.2.2.2.1 k) _ = _
  rw [hf]
  rfl
theorem rg_e_iret {f : Bool} {pc : Nat} (h : decode cc pc = .ok (.ireturn, 1)) (hc : (!f && cut pc) = false) (n : Nat) (L : List Value) (x : Int32) (w : rg_W) (b : Nat) : rg_run P X cc cut Z rt f (n + 1) pc L [.int x] w b = (rt (some (.int x)) w b) := by
  rw [rg_run_s h (by first | exact Or.inr rfl | exact Or.inl rfl) hc]
  exact propext ⟨fun z => z.2, fun z => ⟨rfl, z⟩⟩
theorem rg_e_vret {f : Bool} {pc : Nat} (h : decode cc pc = .ok (.return_, 1)) (hc : (!f && cut pc) = false) (n : Nat) (L : List Value) (w : rg_W) (b : Nat) : rg_run P X cc cut Z rt f (n + 1) pc L [] w b = (rt none w b) := by
  rw [rg_run_s h (by first | exact Or.inr rfl | exact Or.inl rfl) hc]
  exact propext ⟨fun z => z.2, fun z => ⟨rfl, z⟩⟩
end
theorem rg_nx_i (hd : List (Nat × Nat)) (pc : Nat) (L st : List Value) (b : Nat) (go : rg_Go) (x : Int32) (w : rg_W) : rg_nx hd pc L st b go (some (.int x)) w = go (pc + 3) L (.int x :: st) w b := rfl
theorem rg_nx_v (hd : List (Nat × Nat)) (pc : Nat) (L st : List Value) (b : Nat) (go : rg_Go) (w : rg_W) : rg_nx hd pc L st b go none w = go (pc + 3) L st w b := rfl
theorem rg_nx_x (hd : List (Nat × Nat)) (pc : Nat) (L st : List Value) (b : Nat) (go : rg_Go) (k : UInt32) (w : rg_W) : rg_nx hd pc L st b go (some (.float k)) w = rg_some (rg_lk hd k.toNat) (fun h => ∀ a : Nat, go h L [.retAddr a] w b) := by
  cases h : rg_lk hd k.toNat <;> simp [rg_nx, rg_some, h]
theorem rg_wd_n : rg_wd [] = 0 := rfl
theorem rg_wd_i (x : Int32) (st : List Value) : rg_wd (.int x :: st) = 1 + rg_wd st := rfl
theorem rg_wd_l (x : Int64) (st : List Value) : rg_wd (.long x :: st) = 2 + rg_wd st := rfl
theorem rg_wd_r (x : Nat) (st : List Value) : rg_wd (.ref x :: st) = 1 + rg_wd st := rfl
theorem rg_clr_i (x : Int32) : rg_clr (.int x) = .int x := rfl
theorem rg_clr_l (x : Int64) : rg_clr (.long x) = .null := rfl
theorem rg_clr_r (x : Nat) : rg_clr (.ref x) = .ref x := rfl
theorem rg_clr_a (x : Nat) : rg_clr (.retAddr x) = .retAddr x := rfl
theorem rg_clr_n : rg_clr .null = .null := rfl
def rg_cut (l : List Nat) (pc : Nat) : Bool := l.contains pc
end
section
/-! the machine's side: cells of the world, locals, the walk's step is the machine's -/
abbrev rg_E : Type := (Nat → Nat) × (ClassId × ClassId × ClassId) × va_G
def rg_fv (E : rg_E) (f : Nat → Int32) (j : Nat) (o : Option Nat) : Value := match o with
  | none => .int (f j)
  | some q => .ref (E.1 q)
def rg_cell (E : rg_E) (w : rg_W) (k : Nat) (q : rg_K) : va_E := match q with
  | .inl (0, n) => .inl (E.2.1.1, n, .inl (w.1 k))
  | .inl (1, n) => .inl (E.2.1.2.1, n, .inl (w.1 k))
  | .inl (_ + 2, n) => .inl (E.2.1.2.2, n, .inr (.inl (w.2 k)))
  | .inr (ci, fs) => .inr (ci, fs.mapIdx (rg_fv E (w.1 k)))
def rg_ws (E : rg_E) (w : rg_W) : va_W := rg_lay.mapIdx (fun k q => (E.1 k, rg_cell E w k q))
theorem rg_ws_at (E : rg_E) (w : rg_W) (k : Nat) : (rg_ws E w)[k]? = rg_lay[k]?.map (fun q => (E.1 k, rg_cell E w k q)) := by
  simp [rg_ws]
theorem rg_ws_len (E : rg_E) (w : rg_W) : (rg_ws E w).length = rg_lay.length := by simp [rg_ws]
theorem rg_ws_set {E : rg_E} {w w' : rg_W} {k : Nat} {q : rg_K} {e : va_E} (hk : rg_lay[k]? = some q) (he : e = rg_cell E w' k q) (hn : ∀ j, j ≠ k → ∀ q, rg_cell E w' j q = rg_cell E w j q) :
    (rg_ws E w).set k (E.1 k, e) = rg_ws E w' := by
  apply List.ext_getElem?
  intro j
  by_cases h : j = k
  · subst h
    have hl : j < (rg_ws E w).length := by rw [rg_ws_len]; exact (List.getElem?_eq_some_iff.mp hk).1
    rw [List.getElem?_set_self hl, rg_ws_at, hk, he]
    rfl
  · rw [List.getElem?_set_ne (fun z => h z.symm), rg_ws_at, rg_ws_at]
    congr 1
    funext q
    rw [hn j h q]
theorem rg_cell_up {E : rg_E} {w : rg_W} {k j a : Nat} {x : Int32} (h : a ≠ k) (q : rg_K) : rg_cell E (rg_up w k j x) a q = rg_cell E w a q := by
  unfold rg_cell
  rw [rg_up_n h, rg_up_2]
theorem rg_cell_upL {E : rg_E} {w : rg_W} {k j a : Nat} {x : Int64} (h : a ≠ k) (q : rg_K) : rg_cell E (rg_upL w k j x) a q = rg_cell E w a q := by
  unfold rg_cell
  rw [rg_upL_n h, rg_upL_1]
theorem rg_fs_set {E : rg_E} {f : Nat → Int32} {fs : List (Option Nat)} {k : Nat} {x : Int32} (h : fs[k]? = some none) : (fs.mapIdx (rg_fv E f)).set k (.int x) = fs.mapIdx (rg_fv E (upd f k x)) := by
  apply List.ext_getElem?
  intro j
  by_cases hj : j = k
  · subst hj
    have hl : j < (fs.mapIdx (rg_fv E f)).length := by simp; exact (List.getElem?_eq_some_iff.mp h).1
    rw [List.getElem?_set_self hl, List.getElem?_mapIdx, h]
    simp [rg_fv, upd]
  · rw [List.getElem?_set_ne (fun z => hj z.symm), List.getElem?_mapIdx, List.getElem?_mapIdx]
    cases fs[j]? with
    | none => rfl
    | some o =>
      cases o with
      | none => simp [rg_fv, upd, hj]
      | some q => rfl
def rg_tys (E : rg_E) : List (ClassId × FieldType) := [(E.2.1.1, .int), (E.2.1.2.1, .boolean), (E.2.1.2.2, .long)]
/-- the locals -/
def rg_L (ad : Nat → Nat) (ls : Array Slot) (nL : Nat) (L : List Value) : Prop := ls.size = nL ∧ lv_wf ls ∧ L.length = nL ∧ ∀ (i : Nat) (v : Value), L[i]? = some v → v ≠ .null → ls[i]? = some (.val (rg_v ad v))
def rg_as (ad : Nat → Nat) (L : List Value) : List (Nat × Value) := (L.mapIdx (fun i v => (i, rg_v ad v))).filter (fun q => !(q.2 == .null))
theorem rg_v_null {ad : Nat → Nat} {v : Value} (h : v ≠ .null) : rg_v ad v ≠ .null := by
  cases v <;> simp_all [rg_v]
theorem rg_as_mem {ad : Nat → Nat} {L : List Value} {i : Nat} {v : Value} (h : L[i]? = some v) (hv : v ≠ .null) : (i, rg_v ad v) ∈ rg_as ad L := by
  refine List.mem_filter.mpr ⟨List.mem_of_getElem? (i := i) (by rw [List.getElem?_mapIdx, h]; rfl), ?_⟩
  have := rg_v_null (ad := ad) hv
  simp [this]
theorem rg_L_has {ad : Nat → Nat} {ls : Array Slot} {nL : Nat} {L : List Value} (h : rg_L ad ls nL L) : lv_has ls nL (rg_as ad L) := by
  refine ⟨h.1, h.2.1, fun q hq => ?_⟩
  obtain ⟨h1, h2⟩ := List.mem_filter.mp hq
  obtain ⟨i, hi⟩ := List.getElem?_of_mem h1
  rw [List.getElem?_mapIdx] at hi
  cases hL : L[i]? with
  | none => rw [hL] at hi; cases hi
  | some v =>
    rw [hL] at hi
    cases hi
    refine h.2.2.2 i v hL (fun z => ?_)
    subst z
    simp [rg_v] at h2
theorem rg_L_st {ad : Nat → Nat} {ls ls' : Array Slot} {nL : Nat} {L L' : List Value} {i : Nat} {v : Value} (h : rg_L ad ls nL L)
    (h' : lv_has ls' nL ((i, rg_v ad v) :: (rg_as ad L).filter (fun q => !(q.1 == i) && !(q.1 + 1 == i && q.2.category == 2)))) (hl : L'.length = L.length)
    (h3 : ∀ (j : Nat) (u : Value), L'[j]? = some u → u ≠ .null → (j = i ∧ u = v) ∨ (j ≠ i ∧ L[j]? = some u ∧ (j + 1 = i → u.category ≠ 2))) : rg_L ad ls' nL L' := by
  refine ⟨h'.1, h'.2.1, hl.trans h.2.2.1, fun j u hj hu => ?_⟩
  rcases h3 j u hj hu with ⟨rfl, rfl⟩ | ⟨q1, q2, q3⟩
  · exact h'.2.2 (j, rg_v ad u) List.mem_cons_self
  · refine h'.2.2 (j, rg_v ad u) (List.mem_cons_of_mem _ (List.mem_filter.mpr ⟨rg_as_mem q2 hu, ?_⟩))
    simp only [Bool.and_eq_true, Bool.not_eq_true', beq_eq_false_iff_ne, ne_eq, Bool.and_eq_false_iff]
    refine ⟨q1, ?_⟩
    by_cases hji : j + 1 = i
    · exact Or.inr (by rw [rg_v_cat]; exact q3 hji)
    · exact Or.inl hji
theorem rg_ty_0 {v : Value} (h : rg_ty v = 0) : ∃ x, v = .int x := by
  cases v <;> first | exact ⟨_, rfl⟩ | (simp [rg_ty] at h)
theorem rg_ty_1 {v : Value} (h : rg_ty v = 1) : ∃ x, v = .long x := by
  cases v <;> first | exact ⟨_, rfl⟩ | (simp [rg_ty] at h)
theorem rg_ty_2 {v : Value} (ad : Nat → Nat) (h : rg_ty v = 2) : v ≠ .null ∧ v.category = 1 ∧ ∃ a, rg_v ad v = .ref a := by
  cases v <;> first | exact ⟨by simp, rfl, _, rfl⟩ | (simp [rg_ty] at h)
theorem rg_nx_mono {hd : List (Nat × Nat)} {pc : Nat} {L st : List Value} {b : Nat} {go go2 : rg_Go} (h : ∀ pc L st w b, go pc L st w b → go2 pc L st w b) (r : Option Value) (w : rg_W) (k : rg_nx hd pc L st b go r w) : rg_nx hd pc L st b go2 r w := by
  unfold rg_nx at k ⊢
  split at k
  · split at k
    · exact fun a => h _ _ _ _ _ (k a)
    · exact k
  · exact h _ _ _ _ _ k
section
variable {p : Program} {l : Launch} {e : Env} {R : Room} {s : State} {m : MethodId} {args : Array Value} {below : List Frame} {meth : Method} {c : Code} {Q : State → Prop} {cc : ByteArray} {E : rg_E} {A : Nat → Prop} {nL : Nat} {cb : Nat → Nat × Nat}
def rg_M (p : Program) (l : Launch) (e : Env) (R : Room) (s : State) (m : MethodId) (args : Array Value) (below : List Frame) (meth : Method) (c : Code) (Q : State → Prop) (E : rg_E) (A : Nat → Prop) (nL : Nat) (cb : Nat → Nat × Nat) : rg_Go :=
  fun pc L st w b => ∀ (H : Heap) (locs : List Loc) (ls : Array Slot), va_P E.2.2 rg_cl (rg_ws E w) H → va_S A s.heap H locs → rg_L E.1 ls nL L → W p l e R s m args below meth c H locs (cb b).1 (cb b).2 Q (F0 m pc ls (st.map (rg_v E.1)))
theorem rg_ar_ws {E : rg_E} {w : rg_W} {o t n : Nat} (h : rg_ar o = some (t, n)) : rg_lay[o]? = some (.inl (t, n)) ∧ (rg_ws E w)[o]? = some (E.1 o, rg_cell E w o (.inl (t, n))) := by
  unfold rg_ar at h
  have h1 : rg_lay[o]? = some (.inl (t, n)) := by
    split at h
    · rename_i q hq
      cases h
      exact hq
    · cases h
  exact ⟨h1, by rw [rg_ws_at, h1]; rfl⟩

theorem rg_sound (hx : p.tables.exec = Jvm.exec) (hb : c.code = cc) (hK : va_K E.2.2 rg_cl (rg_tys E) s) (hD : ∀ w, va_D A (rg_ws E w)) {P : rg_P} {X : rg_X} {go : rg_Go} {rt : rg_Rt}
    (hget : ∀ k q o v pc L r w b, rg_lk P.1 k = some q → rg_gf o q.1 q.2 w = some v → decode cc pc = .ok (.getfield k, 3) → rg_M p l e R s m args below meth c Q E A nL cb (pc + 3) L (v :: r) w b → rg_M p l e R s m args below meth c Q E A nL cb pc L (.ref o :: r) w b)
    (hput : ∀ k q o x pc L r w b, rg_lk P.1 k = some q → rg_pf o q.1 q.2 = true → decode cc pc = .ok (.putfield k, 3) → rg_M p l e R s m args below meth c Q E A nL cb (pc + 3) L r (rg_up w o q.2 x) b → rg_M p l e R s m args below meth c Q E A nL cb pc L (.int x :: .ref o :: r) w b)
    (hldc : ∀ k v pc L st w b, rg_lk P.2.2.1 k = some v → decode cc pc = .ok (.ldc k, 2) → rg_M p l e R s m args below meth c Q E A nL cb (pc + 2) L (.int v :: st) w b → rg_M p l e R s m args below meth c Q E A nL cb pc L st w b)
    (hldcw : ∀ k v pc L st w b, rg_lk P.2.2.1 k = some v → decode cc pc = .ok (.ldc_w k, 3) → rg_M p l e R s m args below meth c Q E A nL cb (pc + 3) L (.int v :: st) w b → rg_M p l e R s m args below meth c Q E A nL cb pc L st w b)
    (hldc2 : ∀ k v pc L st w b, rg_lk P.2.2.2.1 k = some v → decode cc pc = .ok (.ldc2_w k, 3) → rg_M p l e R s m args below meth c Q E A nL cb (pc + 3) L (.long v :: st) w b → rg_M p l e R s m args below meth c Q E A nL cb pc L st w b)
    (hcallS : ∀ k n d T, rg_lk P.2.1 (2 * k) = some (n, d, T) → ∀ pc L as st w b K, decode cc pc = .ok (.invokestatic k, 3) → as.length = n → rg_wd st ≤ 8 → (d = 0 ∨ b + d ≤ P.2.2.2.2.2.2) → T as w K → (∀ r w', K r w' → rg_nx P.2.2.2.2.2.1 pc L st (b + d) (rg_M p l e R s m args below meth c Q E A nL cb) r w') → rg_M p l e R s m args below meth c Q E A nL cb pc L (as.reverse ++ st) w b)
    (hcallV : ∀ k n d T, rg_lk P.2.1 (2 * k + 1) = some (n, d, T) → ∀ pc L as st w b K, decode cc pc = .ok (.invokevirtual k, 3) → as.length = n → rg_wd st ≤ 8 → (d = 0 ∨ b + d ≤ P.2.2.2.2.2.2) → T as w K → (∀ r w', K r w' → rg_nx P.2.2.2.2.2.1 pc L st (b + d) (rg_M p l e R s m args below meth c Q E A nL cb) r w') → rg_M p l e R s m args below meth c Q E A nL cb pc L (as.reverse ++ st) w b)
    (hnew : ∀ k x pc L st w b, rg_lk P.2.2.2.2.1 k = some x → decode cc pc = .ok (.new k, 3) → rt (some (.float (UInt32.ofNat x))) w b → rg_M p l e R s m args below meth c Q E A nL cb pc L st w b)
    (hretI : ∀ x pc L w b, decode cc pc = .ok (.ireturn, 1) → rt (some (.int x)) w b → rg_M p l e R s m args below meth c Q E A nL cb pc L [.int x] w b)
    (hretV : ∀ pc L w b, decode cc pc = .ok (.return_, 1) → rt none w b → rg_M p l e R s m args below meth c Q E A nL cb pc L [] w b)
    (hX : ∀ N xs, X = some (N, xs) → va_X (E.1 99) N xs s s.heap ∧ E.1 99 < s.heap.size ∧ ¬ A (E.1 99))
    (hgo : ∀ pc L st w b, go pc L st w b → rg_M p l e R s m args below meth c Q E A nL cb pc L st w b)
    {i : Instr} {len pc : Nat} {L st : List Value} {w : rg_W} {b : Nat} (hd : decode cc pc = .ok (i, len)) (hl : rg_len i = 0 ∨ rg_len i = len) (h : rg_sem P X i pc L st w b go rt) : rg_M p l e R s m args below meth c Q E A nL cb pc L st w b := by
  cases i with
  | iconst n =>
    obtain rfl : 1 = len := hl.resolve_left (fun z => Nat.succ_ne_zero _ z)
    intro H locs ls hP hS hL
    exact lv_iconst hx hb hd rfl (hgo _ _ _ _ _ h H locs ls hP hS hL)
  | bipush n =>
    obtain rfl : 2 = len := hl.resolve_left (fun z => Nat.succ_ne_zero _ z)
    intro H locs ls hP hS hL
    exact lv_bipush hx hb hd rfl (hgo _ _ _ _ _ h H locs ls hP hS hL)
  | sipush n =>
    obtain rfl : 3 = len := hl.resolve_left (fun z => Nat.succ_ne_zero _ z)
    intro H locs ls hP hS hL
    exact lv_sipush hx hb hd rfl (hgo _ _ _ _ _ h H locs ls hP hS hL)
  | lconst n =>
    obtain rfl : 1 = len := hl.resolve_left (fun z => Nat.succ_ne_zero _ z)
    intro H locs ls hP hS hL
    exact lv_lconst hx hb hd rfl (hgo _ _ _ _ _ h H locs ls hP hS hL)
  | ldc k =>
    obtain rfl : 2 = len := hl.resolve_left (fun z => Nat.succ_ne_zero _ z)
    replace h := rg_some_inv h
    obtain ⟨v, h1, h⟩ := h
    exact hldc k v pc L st w b h1 hd (hgo _ _ _ _ _ h)
  | ldc_w k =>
    obtain rfl : 3 = len := hl.resolve_left (fun z => Nat.succ_ne_zero _ z)
    replace h := rg_some_inv h
    obtain ⟨v, h1, h⟩ := h
    exact hldcw k v pc L st w b h1 hd (hgo _ _ _ _ _ h)
  | ldc2_w k =>
    obtain rfl : 3 = len := hl.resolve_left (fun z => Nat.succ_ne_zero _ z)
    replace h := rg_some_inv h
    obtain ⟨v, h1, h⟩ := h
    exact hldc2 k v pc L st w b h1 hd (hgo _ _ _ _ _ h)
  | iload_n k =>
    obtain rfl : 1 = len := hl.resolve_left (fun z => Nat.succ_ne_zero _ z)
    replace h := rg_ld_inv h
    obtain ⟨v, h1, h2, h⟩ := h
    obtain ⟨x, rfl⟩ := rg_ty_0 h2
    intro H locs ls hP hS hL
    exact lv_iload_n hx hb hd rfl (hL.2.2.2 _ _ h1 (by simp)) (hgo _ _ _ _ _ h H locs ls hP hS hL)
  | iload k =>
    obtain rfl : 2 = len := hl.resolve_left (fun z => Nat.succ_ne_zero _ z)
    replace h := rg_ld_inv h
    obtain ⟨v, h1, h2, h⟩ := h
    obtain ⟨x, rfl⟩ := rg_ty_0 h2
    intro H locs ls hP hS hL
    exact lv_iload hx hb hd (hL.2.2.2 _ _ h1 (by simp)) (hgo _ _ _ _ _ h H locs ls hP hS hL)
  | lload_n k =>
    obtain rfl : 1 = len := hl.resolve_left (fun z => Nat.succ_ne_zero _ z)
    replace h := rg_ld_inv h
    obtain ⟨v, h1, h2, h⟩ := h
    obtain ⟨x, rfl⟩ := rg_ty_1 h2
    intro H locs ls hP hS hL
    exact lv_lload_n hx hb hd rfl (hL.2.2.2 _ _ h1 (by simp)) (hgo _ _ _ _ _ h H locs ls hP hS hL)
  | lload k =>
    obtain rfl : 2 = len := hl.resolve_left (fun z => Nat.succ_ne_zero _ z)
    replace h := rg_ld_inv h
    obtain ⟨v, h1, h2, h⟩ := h
    obtain ⟨x, rfl⟩ := rg_ty_1 h2
    intro H locs ls hP hS hL
    exact lv_lload hx hb hd (hL.2.2.2 _ _ h1 (by simp)) (hgo _ _ _ _ _ h H locs ls hP hS hL)
  | aload_n k =>
    obtain rfl : 1 = len := hl.resolve_left (fun z => Nat.succ_ne_zero _ z)
    replace h := rg_ld_inv h
    obtain ⟨v, h1, h2, h⟩ := h
    obtain ⟨q1, q2, a, q3⟩ := rg_ty_2 E.1 h2
    intro H locs ls hP hS hL
    refine lv_aload_n (x := a) hx hb hd rfl (by rw [← q3]; exact hL.2.2.2 _ _ h1 q1) ?_
    have z := (hgo _ _ _ _ _ h H locs ls hP hS hL)
    rw [List.map_cons, q3] at z
    exact z
  | aload k =>
    obtain rfl : 2 = len := hl.resolve_left (fun z => Nat.succ_ne_zero _ z)
    replace h := rg_ld_inv h
    obtain ⟨v, h1, h2, h⟩ := h
    obtain ⟨q1, q2, a, q3⟩ := rg_ty_2 E.1 h2
    intro H locs ls hP hS hL
    refine lv_aload (x := a) hx hb hd (by rw [← q3]; exact hL.2.2.2 _ _ h1 q1) ?_
    have z := (hgo _ _ _ _ _ h H locs ls hP hS hL)
    rw [List.map_cons, q3] at z
    exact z
  | istore_n k =>
    obtain rfl : 1 = len := hl.resolve_left (fun z => Nat.succ_ne_zero _ z)
    replace h := rg_i1_inv h
    obtain ⟨x, r, rfl, h⟩ := h
    replace h := rg_st_inv h
    obtain ⟨L', h1, h2, h4, h3⟩ := h
    intro H locs ls hP hS hL
    exact lv_istore_n hx hb hd rfl (rg_L_has hL) (by rw [← hL.2.2.1]; exact h2) rfl (fun ls' h' => hgo _ _ _ _ _ h1 H locs ls' hP hS (rg_L_st (v := .int x) hL h' h4 h3))
  | istore k =>
    obtain rfl : 2 = len := hl.resolve_left (fun z => Nat.succ_ne_zero _ z)
    replace h := rg_i1_inv h
    obtain ⟨x, r, rfl, h⟩ := h
    replace h := rg_st_inv h
    obtain ⟨L', h1, h2, h4, h3⟩ := h
    intro H locs ls hP hS hL
    exact lv_istore hx hb hd (rg_L_has hL) (by rw [← hL.2.2.1]; exact h2) rfl (fun ls' h' => hgo _ _ _ _ _ h1 H locs ls' hP hS (rg_L_st (v := .int x) hL h' h4 h3))
  | astore_n k =>
    obtain rfl : 1 = len := hl.resolve_left (fun z => Nat.succ_ne_zero _ z)
    replace h := rg_a1_inv h
    obtain ⟨v, r, rfl, h0, h⟩ := h
    replace h := rg_st_inv h
    obtain ⟨L', h1, h2, h4, h3⟩ := h
    obtain ⟨q1, q2, a, q3⟩ := rg_ty_2 E.1 h0
    intro H locs ls hP hS hL
    rw [List.map_cons, q3]
    exact lv_astore_n (x := a) hx hb hd rfl (rg_L_has hL) (by rw [← hL.2.2.1]; exact h2) rfl (fun ls' h' => hgo _ _ _ _ _ h1 H locs ls' hP hS (rg_L_st (v := v) hL (by rw [q3]; exact h') h4 h3))
  | astore k =>
    obtain rfl : 2 = len := hl.resolve_left (fun z => Nat.succ_ne_zero _ z)
    replace h := rg_a1_inv h
    obtain ⟨v, r, rfl, h0, h⟩ := h
    replace h := rg_st_inv h
    obtain ⟨L', h1, h2, h4, h3⟩ := h
    obtain ⟨q1, q2, a, q3⟩ := rg_ty_2 E.1 h0
    intro H locs ls hP hS hL
    rw [List.map_cons, q3]
    exact lv_astore (x := a) hx hb hd (rg_L_has hL) (by rw [← hL.2.2.1]; exact h2) rfl (fun ls' h' => hgo _ _ _ _ _ h1 H locs ls' hP hS (rg_L_st (v := v) hL (by rw [q3]; exact h') h4 h3))
  | iinc k n =>
    obtain rfl : 3 = len := hl.resolve_left (fun z => Nat.succ_ne_zero _ z)
    replace h := rg_ld_inv h
    obtain ⟨v, h1, h2, h⟩ := h
    obtain ⟨x, rfl⟩ := rg_ty_0 h2
    replace h := rg_i1_inv h
    obtain ⟨x2, r2, e2, h⟩ := h
    cases e2
    replace h := rg_st_inv h
    obtain ⟨L', g1, g2, g4, g3⟩ := h
    intro H locs ls hP hS hL
    obtain ⟨kk, hkk⟩ := List.getElem?_of_mem (rg_as_mem (ad := E.1) h1 (by simp))
    exact lv_iinc hx hb hd (rg_L_has hL) hkk rfl (by rw [← hL.2.2.1]; exact g2) rfl (fun ls' h' => hgo _ _ _ _ _ g1 H locs ls' hP hS (rg_L_st (v := .int (x + Int32.ofInt n)) hL h' g4 g3))
  | iadd =>
    obtain rfl : 1 = len := hl.resolve_left (fun z => Nat.succ_ne_zero _ z)
    replace h := rg_i2_inv h
    obtain ⟨x, y, r, rfl, h⟩ := h
    intro H locs ls hP hS hL
    exact lv_iadd hx hb hd (hgo _ _ _ _ _ h H locs ls hP hS hL)
  | isub =>
    obtain rfl : 1 = len := hl.resolve_left (fun z => Nat.succ_ne_zero _ z)
    replace h := rg_i2_inv h
    obtain ⟨x, y, r, rfl, h⟩ := h
    intro H locs ls hP hS hL
    exact lv_isub hx hb hd (hgo _ _ _ _ _ h H locs ls hP hS hL)
  | imul =>
    obtain rfl : 1 = len := hl.resolve_left (fun z => Nat.succ_ne_zero _ z)
    replace h := rg_i2_inv h
    obtain ⟨x, y, r, rfl, h⟩ := h
    intro H locs ls hP hS hL
    exact lv_imul hx hb hd (hgo _ _ _ _ _ h H locs ls hP hS hL)
  | iand =>
    obtain rfl : 1 = len := hl.resolve_left (fun z => Nat.succ_ne_zero _ z)
    replace h := rg_i2_inv h
    obtain ⟨x, y, r, rfl, h⟩ := h
    intro H locs ls hP hS hL
    exact lv_iand hx hb hd (hgo _ _ _ _ _ h H locs ls hP hS hL)
  | ior =>
    obtain rfl : 1 = len := hl.resolve_left (fun z => Nat.succ_ne_zero _ z)
    replace h := rg_i2_inv h
    obtain ⟨x, y, r, rfl, h⟩ := h
    intro H locs ls hP hS hL
    exact lv_ior hx hb hd (hgo _ _ _ _ _ h H locs ls hP hS hL)
  | ixor =>
    obtain rfl : 1 = len := hl.resolve_left (fun z => Nat.succ_ne_zero _ z)
    replace h := rg_i2_inv h
    obtain ⟨x, y, r, rfl, h⟩ := h
    intro H locs ls hP hS hL
    exact lv_ixor hx hb hd (hgo _ _ _ _ _ h H locs ls hP hS hL)
  | ishl =>
    obtain rfl : 1 = len := hl.resolve_left (fun z => Nat.succ_ne_zero _ z)
    replace h := rg_i2_inv h
    obtain ⟨x, y, r, rfl, h⟩ := h
    intro H locs ls hP hS hL
    exact lv_ishl hx hb hd (hgo _ _ _ _ _ h H locs ls hP hS hL)
  | ishr =>
    obtain rfl : 1 = len := hl.resolve_left (fun z => Nat.succ_ne_zero _ z)
    replace h := rg_i2_inv h
    obtain ⟨x, y, r, rfl, h⟩ := h
    intro H locs ls hP hS hL
    exact lv_ishr hx hb hd (hgo _ _ _ _ _ h H locs ls hP hS hL)
  | iushr =>
    obtain rfl : 1 = len := hl.resolve_left (fun z => Nat.succ_ne_zero _ z)
    replace h := rg_i2_inv h
    obtain ⟨x, y, r, rfl, h⟩ := h
    intro H locs ls hP hS hL
    exact lv_iushr hx hb hd rfl (hgo _ _ _ _ _ h H locs ls hP hS hL)
  | ladd =>
    obtain rfl : 1 = len := hl.resolve_left (fun z => Nat.succ_ne_zero _ z)
    replace h := rg_l2_inv h
    obtain ⟨x, y, r, rfl, h⟩ := h
    intro H locs ls hP hS hL
    exact lv_ladd hx hb hd (hgo _ _ _ _ _ h H locs ls hP hS hL)
  | land =>
    obtain rfl : 1 = len := hl.resolve_left (fun z => Nat.succ_ne_zero _ z)
    replace h := rg_l2_inv h
    obtain ⟨x, y, r, rfl, h⟩ := h
    intro H locs ls hP hS hL
    exact lv_land hx hb hd (hgo _ _ _ _ _ h H locs ls hP hS hL)
  | lor =>
    obtain rfl : 1 = len := hl.resolve_left (fun z => Nat.succ_ne_zero _ z)
    replace h := rg_l2_inv h
    obtain ⟨x, y, r, rfl, h⟩ := h
    intro H locs ls hP hS hL
    exact lv_lor hx hb hd (hgo _ _ _ _ _ h H locs ls hP hS hL)
  | lushr =>
    obtain rfl : 1 = len := hl.resolve_left (fun z => Nat.succ_ne_zero _ z)
    replace h := rg_il_inv h
    obtain ⟨x, y, r, rfl, h⟩ := h
    intro H locs ls hP hS hL
    exact lv_lushr hx hb hd rfl (hgo _ _ _ _ _ h H locs ls hP hS hL)
  | lshr =>
    obtain rfl : 1 = len := hl.resolve_left (fun z => Nat.succ_ne_zero _ z)
    replace h := rg_il_inv h
    obtain ⟨x, y, r, rfl, h⟩ := h
    intro H locs ls hP hS hL
    exact lv_lshr hx hb hd rfl (hgo _ _ _ _ _ h H locs ls hP hS hL)
  | lshl =>
    obtain rfl : 1 = len := hl.resolve_left (fun z => Nat.succ_ne_zero _ z)
    replace h := rg_il_inv h
    obtain ⟨x, y, r, rfl, h⟩ := h
    intro H locs ls hP hS hL
    exact lv_lshl hx hb hd rfl (hgo _ _ _ _ _ h H locs ls hP hS hL)
  | lcmp =>
    obtain rfl : 1 = len := hl.resolve_left (fun z => Nat.succ_ne_zero _ z)
    replace h := rg_l2_inv h
    obtain ⟨x, y, r, rfl, h⟩ := h
    intro H locs ls hP hS hL
    exact W.lcmp hx hb hd (hgo _ _ _ _ _ h H locs ls hP hS hL)
  | i2l =>
    obtain rfl : 1 = len := hl.resolve_left (fun z => Nat.succ_ne_zero _ z)
    replace h := rg_i1_inv h
    obtain ⟨x, r, rfl, h⟩ := h
    intro H locs ls hP hS hL
    exact lv_i2l hx hb hd rfl (hgo _ _ _ _ _ h H locs ls hP hS hL)
  | l2i =>
    obtain rfl : 1 = len := hl.resolve_left (fun z => Nat.succ_ne_zero _ z)
    replace h := rg_l1_inv h
    obtain ⟨x, r, rfl, h⟩ := h
    intro H locs ls hP hS hL
    exact lv_l2i hx hb hd rfl (hgo _ _ _ _ _ h H locs ls hP hS hL)
  | dup =>
    obtain rfl : 1 = len := hl.resolve_left (fun z => Nat.succ_ne_zero _ z)
    replace h := rg_a1_inv h
    obtain ⟨v, r, rfl, h1, h⟩ := h
    intro H locs ls hP hS hL
    exact lv_dup hx hb hd (by rw [rg_v_cat]; exact h1) (hgo _ _ _ _ _ h H locs ls hP hS hL)
  | pop =>
    obtain rfl : 1 = len := hl.resolve_left (fun z => Nat.succ_ne_zero _ z)
    replace h := rg_a1_inv h
    obtain ⟨v, r, rfl, h1, h⟩ := h
    intro H locs ls hP hS hL
    exact lv_pop hx hb hd (by rw [rg_v_cat]; exact h1) (hgo _ _ _ _ _ h H locs ls hP hS hL)
  | dup_x1 =>
    obtain rfl : 1 = len := hl.resolve_left (fun z => Nat.succ_ne_zero _ z)
    replace h := rg_a2_inv h
    obtain ⟨u, v, r, rfl, ⟨h1, h2⟩, h⟩ := h
    intro H locs ls hP hS hL
    exact lv_dup_x1 hx hb hd (by rw [rg_v_cat]; exact h1) (by rw [rg_v_cat]; exact h2) (hgo _ _ _ _ _ h H locs ls hP hS hL)
  | dup2 =>
    obtain rfl : 1 = len := hl.resolve_left (fun z => Nat.succ_ne_zero _ z)
    replace h := rg_a2_inv h
    obtain ⟨u, v, r, rfl, ⟨h1, h2⟩, h⟩ := h
    intro H locs ls hP hS hL
    exact lv_dup2_11 hx hb hd (by rw [rg_v_cat]; exact h1) (by rw [rg_v_cat]; exact h2) (hgo _ _ _ _ _ h H locs ls hP hS hL)
  | ifCond cd off =>
    obtain rfl : 3 = len := hl.resolve_left (fun z => Nat.succ_ne_zero _ z)
    replace h := rg_i1_inv h
    obtain ⟨x, r, rfl, h0, h1, h2⟩ := h
    intro H locs ls hP hS hL
    have kt := fun z => hgo _ _ _ _ _ (h1 z) H locs ls hP hS hL
    have kf := fun z => hgo _ _ _ _ _ (h2 z) H locs ls hP hS hL
    cases cd with
    | eq => exact lv_if_eq hx hb hd (Int.toNat_of_nonneg h0).symm kt kf
    | ne => exact lv_if_ne hx hb hd (Int.toNat_of_nonneg h0).symm kt (fun z => kf (fun y => y z))
    | lt => exact lv_if_lt hx hb hd (Int.toNat_of_nonneg h0).symm kt kf
    | ge => exact lv_if_ge hx hb hd (Int.toNat_of_nonneg h0).symm kt kf
    | gt => exact lv_if_gt hx hb hd (Int.toNat_of_nonneg h0).symm kt kf
    | le => exact lv_if_le hx hb hd (Int.toNat_of_nonneg h0).symm kt kf
  | if_icmp cd off =>
    obtain rfl : 3 = len := hl.resolve_left (fun z => Nat.succ_ne_zero _ z)
    replace h := rg_i2_inv h
    obtain ⟨x, y, r, rfl, h0, h1, h2⟩ := h
    intro H locs ls hP hS hL
    have kt := fun z => hgo _ _ _ _ _ (h1 z) H locs ls hP hS hL
    have kf := fun z => hgo _ _ _ _ _ (h2 z) H locs ls hP hS hL
    cases cd with
    | eq => exact lv_icmp_eq hx hb hd (Int.toNat_of_nonneg h0).symm kt kf
    | ne => exact lv_icmp_ne hx hb hd (Int.toNat_of_nonneg h0).symm kt (fun z => kf (fun y => y z))
    | lt => exact lv_icmp_lt hx hb hd (Int.toNat_of_nonneg h0).symm kt kf
    | ge => exact lv_icmp_ge hx hb hd (Int.toNat_of_nonneg h0).symm kt kf
    | gt => exact lv_icmp_gt hx hb hd (Int.toNat_of_nonneg h0).symm kt kf
    | le => exact lv_icmp_le hx hb hd (Int.toNat_of_nonneg h0).symm kt kf
  | goto off =>
    obtain rfl : 3 = len := hl.resolve_left (fun z => Nat.succ_ne_zero _ z)
    obtain ⟨h0, h⟩ := h
    intro H locs ls hP hS hL
    exact lv_goto hx hb hd (Int.toNat_of_nonneg h0).symm (hgo _ _ _ _ _ h H locs ls hP hS hL)
  | tableswitch d lo hi offs =>
    replace h := rg_i1_inv h
    obtain ⟨x, r, rfl, h1, h2⟩ := h
    intro H locs ls hP hS hL
    by_cases ho : x.toInt < lo ∨ hi < x.toInt
    · obtain ⟨h0, h⟩ := h1 ho
      exact lv_tableOut hx hb hd ho (Int.toNat_of_nonneg h0).symm (hgo _ _ _ _ _ h H locs ls hP hS hL)
    · have ho1 : ¬ x.toInt < lo := fun z => ho (Or.inl z)
      have ho2 : ¬ hi < x.toInt := fun z => ho (Or.inr z)
      obtain ⟨o, h3, h0, h⟩ := rg_some_inv (h2 ho1 ho2)
      exact lv_tableIn hx hb hd ho1 ho2 h3 (Int.toNat_of_nonneg h0).symm (hgo _ _ _ _ _ h H locs ls hP hS hL)
  | getfield k =>
    obtain rfl : 3 = len := hl.resolve_left (fun z => Nat.succ_ne_zero _ z)
    replace h := rg_r1_inv h
    obtain ⟨o, r, rfl, h⟩ := h
    replace h := rg_some_inv h
    obtain ⟨q, h1, h⟩ := h
    replace h := rg_some_inv h
    obtain ⟨v, h2, h⟩ := h
    exact hget k q o v pc L r w b h1 h2 hd (hgo _ _ _ _ _ h)
  | putfield k =>
    obtain rfl : 3 = len := hl.resolve_left (fun z => Nat.succ_ne_zero _ z)
    replace h := rg_ir_inv h
    obtain ⟨o, x, r, rfl, h⟩ := h
    replace h := rg_some_inv h
    obtain ⟨q, h1, h2, h⟩ := h
    exact hput k q o x pc L r w b h1 h2 hd (hgo _ _ _ _ _ h)
  | iaload =>
    obtain rfl : 1 = len := hl.resolve_left (fun z => Nat.succ_ne_zero _ z)
    replace h := rg_ri_inv h
    obtain ⟨k, i, r, rfl, h⟩ := h
    unfold rg_ial at h
    split at h
    · rename_i n ha
      obtain ⟨h1, h⟩ := h
      intro H locs ls hP hS hL
      exact va_iald hx hb hK hP k 0 (rg_ar_ws ha).2 rfl h1 hd (hgo _ _ _ _ _ h H locs ls hP hS hL)
    · exact h.elim
    · split at h
      · obtain ⟨rfl, h1, h⟩ := h
        intro H locs ls hP hS hL
        obtain ⟨x1, x2, x3⟩ := hX _ _ rfl
        exact va_sld hx hb x1 x2 x3 hS h1 hd (hgo _ _ _ _ _ h H locs ls hP hS hL)
      · exact h.elim
  | baload =>
    obtain rfl : 1 = len := hl.resolve_left (fun z => Nat.succ_ne_zero _ z)
    replace h := rg_ri_inv h
    obtain ⟨k, i, r, rfl, h⟩ := h
    unfold rg_zal at h
    split at h
    · rename_i n ha
      obtain ⟨h1, h⟩ := h
      intro H locs ls hP hS hL
      exact va_zald hx hb hK hP k 1 (rg_ar_ws ha).2 rfl h1 hd (hgo _ _ _ _ _ h H locs ls hP hS hL)
    · exact h.elim
  | laload =>
    obtain rfl : 1 = len := hl.resolve_left (fun z => Nat.succ_ne_zero _ z)
    replace h := rg_ri_inv h
    obtain ⟨k, i, r, rfl, h⟩ := h
    unfold rg_lal at h
    split at h
    · rename_i n ha
      obtain ⟨h1, h⟩ := h
      intro H locs ls hP hS hL
      exact va_lald hx hb hK hP k 2 (rg_ar_ws ha).2 rfl h1 hd (hgo _ _ _ _ _ h H locs ls hP hS hL)
    · exact h.elim
  | iastore =>
    obtain rfl : 1 = len := hl.resolve_left (fun z => Nat.succ_ne_zero _ z)
    replace h := rg_rii_inv h
    obtain ⟨k, i, x, r, rfl, h⟩ := h
    unfold rg_ias at h
    split at h
    · rename_i n ha
      obtain ⟨h1, h⟩ := h
      intro H locs ls hP hS hL
      refine va_iast hx hb hK hP (hD w) hS k 0 (rg_ar_ws ha).2 rfl h1 hd (fun H1 locs1 hP1 _ hS1 => ?_)
      rw [rg_ws_set (w' := rg_up w k i.toNatClampNeg x) (rg_ar_ws (E := E) (w := w) ha).1 (by simp only [rg_cell, rg_up_s]) (fun j hj q => rg_cell_up hj q)] at hP1
      exact hgo _ _ _ _ _ h H1 locs1 ls hP1 hS1 hL
    · exact h.elim
  | bastore =>
    obtain rfl : 1 = len := hl.resolve_left (fun z => Nat.succ_ne_zero _ z)
    replace h := rg_rii_inv h
    obtain ⟨k, i, x, r, rfl, h⟩ := h
    unfold rg_zas at h
    split at h
    · rename_i n ha
      obtain ⟨h1, h⟩ := h
      intro H locs ls hP hS hL
      refine va_zast hx hb hK hP (hD w) hS k 1 (rg_ar_ws ha).2 rfl h1 hd (fun H1 locs1 hP1 _ hS1 => ?_)
      rw [rg_ws_set (w' := rg_up w k i.toNatClampNeg (vp_nar .boolean x)) (rg_ar_ws (E := E) (w := w) ha).1 (by simp only [rg_cell, rg_up_s]) (fun j hj q => rg_cell_up hj q)] at hP1
      exact hgo _ _ _ _ _ h H1 locs1 ls hP1 hS1 hL
    · exact h.elim
  | lastore =>
    obtain rfl : 1 = len := hl.resolve_left (fun z => Nat.succ_ne_zero _ z)
    replace h := rg_ril_inv h
    obtain ⟨k, i, x, r, rfl, h⟩ := h
    unfold rg_las at h
    split at h
    · rename_i n ha
      obtain ⟨h1, h⟩ := h
      intro H locs ls hP hS hL
      refine va_last hx hb hK hP (hD w) hS k 2 (rg_ar_ws ha).2 rfl h1 hd (fun H1 locs1 hP1 _ hS1 => ?_)
      rw [rg_ws_set (w' := rg_upL w k i.toNatClampNeg x) (rg_ar_ws (E := E) (w := w) ha).1 (by simp only [rg_cell, rg_upL_s]) (fun j hj q => rg_cell_upL hj q)] at hP1
      exact hgo _ _ _ _ _ h H1 locs1 ls hP1 hS1 hL
    · exact h.elim
  | arraylength =>
    obtain rfl : 1 = len := hl.resolve_left (fun z => Nat.succ_ne_zero _ z)
    replace h := rg_r1_inv h
    obtain ⟨k, r, rfl, rfl, h⟩ := h
    replace h := rg_some_inv h
    obtain ⟨q, h1, h⟩ := h
    intro H locs ls hP hS hL
    obtain ⟨x1, x2, x3⟩ := hX q.1 q.2 h1
    exact va_slen hx hb x1 x2 x3 hS hd (hgo _ _ _ _ _ h H locs ls hP hS hL)
  | invokestatic k =>
    obtain rfl : 3 = len := hl.resolve_left (fun z => Nat.succ_ne_zero _ z)
    change rg_inv P (rg_lk P.2.1 (2 * k)) pc L st w b go at h
    unfold rg_inv at h
    split at h
    · exact h.elim
    · rename_i n d T hlk
      obtain ⟨h1, h⟩ := h
      replace h := rg_pop_inv h
      obtain ⟨as, st', h2, rfl, h3, h⟩ := h
      rw [List.append_nil] at h
      exact hcallS k n d T hlk pc L as st' w b _ hd h2 h3 h1 h (fun r w' z => rg_nx_mono hgo r w' z)
  | invokevirtual k =>
    obtain rfl : 3 = len := hl.resolve_left (fun z => Nat.succ_ne_zero _ z)
    change rg_inv P (rg_lk P.2.1 (2 * k + 1)) pc L st w b go at h
    unfold rg_inv at h
    split at h
    · exact h.elim
    · rename_i n d T hlk
      obtain ⟨h1, h⟩ := h
      replace h := rg_pop_inv h
      obtain ⟨as, st', h2, rfl, h3, h⟩ := h
      rw [List.append_nil] at h
      exact hcallV k n d T hlk pc L as st' w b _ hd h2 h3 h1 h (fun r w' z => rg_nx_mono hgo r w' z)
  | new k =>
    obtain rfl : 3 = len := hl.resolve_left (fun z => Nat.succ_ne_zero _ z)
    replace h := rg_some_inv h
    obtain ⟨x, h1, h⟩ := h
    exact hnew k x pc L st w b h1 hd h
  | ireturn =>
    obtain rfl : 1 = len := hl.resolve_left (fun z => Nat.succ_ne_zero _ z)
    replace h := rg_i1_inv h
    obtain ⟨x, r, rfl, rfl, h⟩ := h
    exact hretI x pc L w b hd h
  | return_ =>
    obtain rfl : 1 = len := hl.resolve_left (fun z => Nat.succ_ne_zero _ z)
    obtain ⟨rfl, h⟩ := h
    exact hretV pc L w b hd h
  | _ => exact False.elim h
theorem rg_close {P : rg_P} {X : rg_X} {rt : rg_Rt} {Z : rg_Go} (hstep : ∀ (go : rg_Go), (∀ pc L st w b, go pc L st w b → Z pc L st w b) → ∀ {i : Instr} {len pc : Nat} {L st : List Value} {w : rg_W} {b : Nat}, decode cc pc = .ok (i, len) → (rg_len i = 0 ∨ rg_len i = len) → rg_sem P X i pc L st w b go rt → Z pc L st w b) :
    ∀ (cut : Nat → Bool) (n : Nat) (f : Bool) (pc : Nat) (L st : List Value) (w : rg_W) (b : Nat), rg_run P X cc cut Z rt f n pc L st w b → Z pc L st w b := by
  intro cut n
  induction n with
  | zero => exact fun f pc L st w b h => h
  | succ n ih =>
    intro f pc L st w b h
    have h : (if (!f && cut pc) = true then Z pc L st w b else rg_one P X cc (rg_run P X cc cut Z rt false n) rt pc L st w b) := h
    split at h
    · exact h
    · unfold rg_one at h
      split at h
      · rename_i i len hd
        exact hstep _ (fun pc L st w b => ih false pc L st w b) hd h.1 h.2
      · exact h.elim
end
end
section
/-! a method's contract out of a walk of it, and calls -/
def rg_S (E : rg_E) (U : State) : Prop := va_K E.2.2 rg_cl (rg_tys E) U ∧ ∀ x ∈ rg_NW, va_Nw x U
def rg_D (E : rg_E) : Prop := ∀ i j, i < rg_lay.length → j < rg_lay.length → E.1 i = E.1 j → i = j
def rg_A (E : rg_E) (sz : Nat) : Nat → Prop := fun q => (∃ k, k < rg_lay.length ∧ q = E.1 k) ∨ sz ≤ q
theorem rg_D_va {E : rg_E} {sz : Nat} (h : rg_D E) (w : rg_W) : va_D (rg_A E sz) (rg_ws E w) := by
  have at' : ∀ (k : Nat) (q : Nat × va_E), (rg_ws E w)[k]? = some q → k < rg_lay.length ∧ q.1 = E.1 k := by
    intro k q hq
    rw [rg_ws_at] at hq
    cases hk : rg_lay[k]? with
    | none => rw [hk] at hq; cases hq
    | some z =>
      rw [hk] at hq
      cases hq
      exact ⟨(List.getElem?_eq_some_iff.mp hk).1, rfl⟩
  refine ⟨fun i j x y hx hy e => ?_, fun k q hq => Or.inl ⟨k, (at' k q hq).1, (at' k q hq).2⟩⟩
  obtain ⟨a1, a2⟩ := at' i x hx
  obtain ⟨b1, b2⟩ := at' j y hy
  exact h i j a1 b1 (by rw [← a2, ← b2]; exact e)
theorem rg_N_tab {x : Cond} (h : rg_isN x = true) : x.onTables = true := by
  cases x <;> first | rfl | exact absurd h (by simp [rg_isN])
theorem rg_S_same {E : rg_E} {u U : State} (hv : u.vm = U.vm) (h : rg_S E u) : rg_S E U :=
  ⟨va_K.moved (by rw [hv]; exact Vm.Alike.refl _) h.1, fun x hx => va_Nw.same (rg_N_tab (rg_NW_ok x hx)) hv (h.2 x hx)⟩
theorem rg_S_warm {E : rg_E} {s U : State} (hW : s.WarmedH U.vm) (h : rg_S E s) : rg_S E U := by
  refine ⟨va_K.moved hW.alike h.1, fun x hx => ?_⟩
  have h1 := rg_NW_ok x hx
  have h2 := h.2 x hx
  cases x <;> first | exact va_Nw.warmF hW h2 | exact va_Nw.warmM hW h2 | exact absurd h1 (by simp [rg_isN])
def rg_Pc (E : rg_E) (sz : Nat) (as : List Value) (w : rg_W) : Array Value → State → Prop := fun v U => v = (as.map (rg_v E.1)).toArray ∧ U.heap.size = sz ∧ va_P E.2.2 rg_cl (rg_ws E w) U.heap ∧ rg_S E U ∧ rg_D E
theorem rg_blind {E : rg_E} {sz : Nat} {as : List Value} {w : rg_W} : FrameBlind (rg_Pc E sz as w) :=
  fun a U g mk h => ⟨h.1, h.2.1, h.2.2.1, rg_S_same (u := U) (U := U.calling g mk a) rfl h.2.2.2.1, h.2.2.2.2⟩
/-- an end that is no throw -/
def rg_pl (r : Option Value) : Prop := match r with
  | none => True
  | some (.int _) => True
  | _ => False
def rg_Qc (E : rg_E) (A : Nat → Prop) (K : Option Value → rg_W → Prop) : Array Value → State → Outcome → State → Prop := fun _ st oc t =>
  (∃ (r : Option Value) (w' : rg_W), oc = .returned (r.map (rg_v E.1)) ∧ rg_pl r ∧ K r w' ∧ va_P E.2.2 rg_cl (rg_ws E w') t.heap) ∧ va_F A st t
def rg_rm (k : Nat) : Room := { frames := k, cells := 0, slots := 0, locals := 40 * k }
def rg_wsOf (y : MethodName) (cc : ByteArray) (maxL : Nat) (ret : Option FieldType) : List Cond := .code y cc maxL ret :: rg_TS
/-- method y keeps contract T, with room for n calls more than lv -/
def rg_Good (l : Launch) (y : MethodName) (cc : ByteArray) (maxL : Nat) (ret : Option FieldType) (lv : Nat) (T : rg_T) : Prop :=
  ∀ (n : Nat) (E : rg_E) (sz : Nat) (as : List Value) (w : rg_W) (K : Option Value → rg_W → Prop), T as w K →
    Met l y (rg_wsOf y cc maxL ret) (rg_rm (n + lv)) (rg_Pc E sz as w) (rg_Qc E (rg_A E sz) K) 0 0 (rg_A E sz)
def rg_fit (ret : Option FieldType) (r : Option Value) : Prop := match r with
  | some (.int v) => ∃ ty, ret = some ty ∧ narrow ty (.int v) = .int v
  | none => ret = none
  | _ => False
def rg_rt (ret : Option FieldType) (K : Option Value → rg_W → Prop) : rg_Rt := fun r w b => rg_fit ret r ∧ K r w
theorem rg_fit_i (v : Int32) : rg_fit (some .int) (some (.int v)) := ⟨.int, rfl, rfl⟩
theorem rg_fit_v : rg_fit none none := rfl
theorem rg_fit_z {v : Int32} (h : v = 0 ∨ v = 1) : rg_fit (some .boolean) (some (.int v)) := by
  refine ⟨.boolean, rfl, ?_⟩
  rcases h with rfl | rfl <;> decide +kernel
/-- the locals with which a method begins -/
def rg_loc : Nat → List Value → List Value
  | n, [] => List.replicate n .null
  | n, v :: r => if v.category = 2 then v :: .null :: rg_loc (n - 2) r else v :: rg_loc (n - 1) r
def rg_sz : List Value → Nat
  | [] => 0
  | v :: r => v.category + rg_sz r
theorem rg_sz_sl (ad : Nat → Nat) (as : List Value) : (lg_sl (as.map (rg_v ad))).length = rg_sz as := by
  induction as with
  | nil => rfl
  | cons v r ih =>
    have e : lg_sl ((v :: r).map (rg_v ad)) = (if (rg_v ad v).category = 2 then [Slot.val (rg_v ad v), .second] else [Slot.val (rg_v ad v)]) ++ lg_sl (r.map (rg_v ad)) := by simp [lg_sl]
    rw [e, List.length_append, ih, rg_v_cat]
    rcases lv_cat v with h | h <;> simp [h, rg_sz]
theorem rg_loc_len (as : List Value) : ∀ n, rg_sz as ≤ n → (rg_loc n as).length = n := by
  induction as with
  | nil => intro n _; simp [rg_loc]
  | cons v r ih =>
    intro n h
    simp only [rg_sz] at h
    rcases lv_cat v with hc | hc
    · rw [hc] at h
      simp only [rg_loc, hc]
      simp [ih (n - 1) (by omega)]
      omega
    · rw [hc] at h
      simp only [rg_loc, hc]
      simp [ih (n - 2) (by omega)]
      omega
theorem rg_loc_mem (ad : Nat → Nat) (as : List Value) : ∀ (n i0 i : Nat) (v : Value), (rg_loc n as)[i]? = some v → v ≠ .null → (i0 + i, rg_v ad v) ∈ lv_args i0 (as.map (rg_v ad)) := by
  induction as with
  | nil =>
    intro n i0 i v h hv
    simp only [rg_loc] at h
    exact absurd (List.eq_of_mem_replicate (List.mem_of_getElem? h)) hv
  | cons a r ih =>
    intro n i0 i v h hv
    simp only [List.map_cons, lv_args, rg_v_cat]
    rcases lv_cat a with hc | hc
    · simp only [rg_loc, hc] at h ⊢
      simp at h ⊢
      cases i with
      | zero => simp at h; left; subst h; simp
      | succ i =>
        right
        simp at h
        have := ih _ (i0 + 1) i v h hv
        rw [show i0 + (i + 1) = i0 + 1 + i by omega]
        exact this
    · simp only [rg_loc, hc] at h ⊢
      simp at h ⊢
      cases i with
      | zero => simp at h; left; subst h; simp
      | succ i =>
        cases i with
        | zero => simp at h; exact absurd h.symm hv
        | succ i =>
          right
          simp at h
          have := ih _ (i0 + 2) i v h hv
          rw [show i0 + (i + 1 + 1) = i0 + 2 + i by omega]
          exact this
/-- a field of a class's table is linked -/
def rg_FOk (own : String) (q : Nat × Nat × Nat) : Prop := ∃ (C : String) (T : u_T) (N : Nat), rg_cl[q.2.1]? = some (C, T, N) ∧ q.2.2 < N ∧
  (Cond.fieldLink own q.1 (T q.2.2).1 (T q.2.2).2.1 (T q.2.2).2.2.1 ∈ rg_TS ∨ ∃ host, Cond.fieldLinkNest own q.1 (T q.2.2).1 (T q.2.2).2.1 (T q.2.2).2.2.1 host ∈ rg_NW)
section
variable {p : Program} {l : Launch} {e : Env} {R : Room} {s : State} {m : MethodId} {args : Array Value} {below : List Frame} {meth : Method} {c : Code} {Q : State → Prop} {cc : ByteArray} {E : rg_E} {A : Nat → Prop} {nL : Nat} {cb : Nat → Nat × Nat}
theorem rg_get (hx : p.tables.exec = Jvm.exec) (hb : c.code = cc) (hS : rg_S E s) {Ts : List Cond} (hts : ∀ w ∈ Ts, w.before args s = true) (hTS : ∀ w ∈ rg_TS, w ∈ Ts) {own : String} (hown : s.vm.findClass own = some m.cls)
    {P : rg_P} (hF : ∀ q ∈ P.1, rg_FOk own q) : ∀ k q o v pc L r w b, rg_lk P.1 k = some q → rg_gf o q.1 q.2 w = some v → decode cc pc = .ok (.getfield k, 3) → rg_M p l e R s m args below meth c Q E A nL cb (pc + 3) L (v :: r) w b → rg_M p l e R s m args below meth c Q E A nL cb pc L (.ref o :: r) w b := by
  intro k q o v pc L r w b hk hg hd h H locs ls hP hSS hL
  obtain ⟨ci, j⟩ := q
  obtain ⟨C, T, N, h1, h2, h3⟩ := hF _ (rg_lk_mem hk)
  dsimp only at h1 h2 h3 hg
  have hlay : ∃ fs x, rg_lay[o]? = some (.inr (ci, fs)) ∧ fs[j]? = some x ∧ rg_v E.1 v = rg_fv E (w.1 o) j x := by
    unfold rg_gf at hg
    split at hg
    · rename_i c' fs hq
      split at hg
      · rename_i e1
        subst e1
        refine ⟨fs, ?_⟩
        split at hg
        · rename_i e2; cases hg; exact ⟨none, hq, e2, rfl⟩
        · rename_i q' e2; cases hg; exact ⟨some q', hq, e2, rfl⟩
        · cases hg
      · cases hg
    · cases hg
  obtain ⟨fs, x, q1, q2, q3⟩ := hlay
  have hat : (rg_ws E w)[o]? = some (E.1 o, .inr (ci, fs.mapIdx (rg_fv E (w.1 o)))) := by rw [rg_ws_at, q1]; rfl
  have hv : (fs.mapIdx (rg_fv E (w.1 o)))[j]? = some (rg_v E.1 v) := by rw [List.getElem?_mapIdx, q2, q3]; rfl
  have hin : ∀ w ∈ u_ws C T N, w ∈ Ts := fun w hw => hTS w ((rg_cls_ok ci C T N h1).1 w hw)
  have kk := h H locs ls hP hSS hL
  rcases h3 with h3 | ⟨host, h3⟩
  · exact va_get hx hb hts hin hown hS.1 hP o hat h1 j h2 (hts _ (hTS _ h3)) (fun _ z => z) hv hd kk
  · exact va_getN hx hb hts hin hown hS.1 hP o hat h1 j h2 (va_Nw.use (rg_N_tab rfl) (hS.2 _ h3)) (fun _ z => z) hv hd kk
theorem rg_put (hx : p.tables.exec = Jvm.exec) (hb : c.code = cc) (hS : rg_S E s) (hD : ∀ w, va_D A (rg_ws E w)) {Ts : List Cond} (hts : ∀ w ∈ Ts, w.before args s = true) (hTS : ∀ w ∈ rg_TS, w ∈ Ts) {own : String} (hown : s.vm.findClass own = some m.cls)
    {P : rg_P} (hF : ∀ q ∈ P.1, rg_FOk own q) : ∀ k q o x pc L r w b, rg_lk P.1 k = some q → rg_pf o q.1 q.2 = true → decode cc pc = .ok (.putfield k, 3) → rg_M p l e R s m args below meth c Q E A nL cb (pc + 3) L r (rg_up w o q.2 x) b → rg_M p l e R s m args below meth c Q E A nL cb pc L (.int x :: .ref o :: r) w b := by
  intro k q o x pc L r w b hk hg hd h H locs ls hP hSS hL
  obtain ⟨ci, j⟩ := q
  obtain ⟨C, T, N, h1, h2, h3⟩ := hF _ (rg_lk_mem hk)
  dsimp only at h1 h2 h3 hg h
  have hlay : ∃ fs, rg_lay[o]? = some (.inr (ci, fs)) ∧ fs[j]? = some none := by
    unfold rg_pf at hg
    split at hg
    · rename_i c' fs hq
      simp only [Bool.and_eq_true, beq_iff_eq] at hg
      obtain ⟨rfl, e2⟩ := hg
      exact ⟨fs, hq, e2⟩
    · cases hg
  obtain ⟨fs, q1, q2⟩ := hlay
  have hat : (rg_ws E w)[o]? = some (E.1 o, .inr (ci, fs.mapIdx (rg_fv E (w.1 o)))) := by rw [rg_ws_at, q1]; rfl
  obtain ⟨g1, ty0, g2, g3⟩ := rg_cls_ok ci C T N h1
  have hin : ∀ w ∈ u_ws C T N, w ∈ Ts := fun w hw => hTS w (g1 w hw)
  obtain ⟨f1, f2⟩ := rg_int_ok o ci fs j C T N q1 q2 h1
  have hjl : j < (fs.mapIdx (rg_fv E (w.1 o))).length := by simp; exact (List.getElem?_eq_some_iff.mp q2).1
  have hpd : parseFieldDescriptor (T j).2.2.1 = some .int := by rw [f2]; decide +kernel
  have fin : ∀ (H1 : Heap) (locs1 : List Loc), va_P E.2.2 rg_cl ((rg_ws E w).set o (E.1 o, .inr (ci, (fs.mapIdx (rg_fv E (w.1 o))).set j (.int x)))) H1 → va_D A ((rg_ws E w).set o (E.1 o, .inr (ci, (fs.mapIdx (rg_fv E (w.1 o))).set j (.int x)))) → va_S A s.heap H1 locs1 → W p l e R s m args below meth c H1 locs1 (cb b).1 (cb b).2 Q (F0 m (pc + 3) ls (r.map (rg_v E.1))) := by
    intro H1 locs1 hP1 _ hS1
    rw [rg_ws_set q1 (w' := rg_up w o j x) (by simp only [rg_cell, rg_up_s]; rw [rg_fs_set q2]) (fun a ha q => rg_cell_up ha q)] at hP1
    exact h H1 locs1 ls hP1 hS1 hL
  rcases h3 with h3 | ⟨host, h3⟩
  · exact va_put hx hb hts hin ty0 g2 g3 hown hS.1 hP (hD w) hSS o hat h1 j h2 (hts _ (hTS _ h3)) (fun _ z => z) f1 hpd rfl rfl hjl hd fin
  · exact va_putN hx hb hts hin ty0 g2 g3 hown hS.1 hP (hD w) hSS o hat h1 j h2 (va_Nw.use (rg_N_tab rfl) (hS.2 _ h3)) (fun _ z => z) f1 hpd rfl rfl hjl hd fin
/-- behind a run of a contract -/
theorem rg_after {sz : Nat} {H : Heap} {locs : List Loc} {ls : Array Slot} {pc : Nat} {L st : List Value} {b : Nat} {st0 : List Value} {a : Array Value} {K : Option Value → rg_W → Prop} {mc ms : Nat} {b2 : Nat}
    (hr : va_Run p l e R s m args below meth c H locs (cb b).1 (cb b).2 mc ms (F0 m pc ls (st0.map (rg_v E.1))) (st.map (rg_v E.1)) (rg_Qc E (rg_A E sz) K a) (rg_A E sz)) (hS : va_S A s.heap H locs) (hA : ∀ q, rg_A E sz q → A q)
    (hL : rg_L E.1 ls nL L) (hcb : (cb b).1 + mc ≤ (cb b2).1 ∧ (cb b).2 + ms ≤ (cb b2).2)
    (kk : ∀ r w', rg_pl r → K r w' → rg_M p l e R s m args below meth c Q E A nL cb (pc + 3) L (rg_psh r st) w' b2) : W p l e R s m args below meth c H locs (cb b).1 (cb b).2 Q (F0 m pc ls (st0.map (rg_v E.1))) := by
  intro T hT X
  obtain ⟨v, st₀, t, T', L', h0, X', hL', e1, e2, ⟨⟨r, w', hv, hpl, hp, hb⟩, hz, hk⟩, go⟩ := hr T hT X
  rw [h0] at hz hk
  have hv : v = r.map (rg_v E.1) := Outcome.returned.inj hv
  have hS' : va_S A s.heap T'.heap (locs ++ L') := by
    refine ⟨Nat.le_trans hS.1 (by rw [e1]; exact hz), fun q h1 h2 => ?_, fun q hq => ?_⟩
    · rw [e1, hk q (Nat.lt_of_lt_of_le h1 hS.1) (fun z => h2 (hA q z))]
      exact hS.2.1 q h1 h2
    · rcases List.mem_append.mp hq with h | h
      · exact hS.2.2 q h
      · exact hA _ (hL' q h)
  obtain ⟨t2, a1, b1⟩ := W.widen hcb.1 hcb.2 (kk r w' hpl hp T'.heap (locs ++ L') ls (by rw [e1]; exact hb) hS' hL) T' rfl X'
  refine ⟨t2, go t2 ?_, b1⟩
  have e3 : (rg_psh r st).map (rg_v E.1) = v.toList ++ st.map (rg_v E.1) := by
    rw [hv]
    cases r <;> rfl
  rw [e3] at a1
  exact a1
end
/-- Math.min -/
def T_J_min : rg_T := fun as w K => match as with
  | [.int x, .int y] => K (some (.int (if y < x then y else x))) w
  | _ => False
theorem Te_J_min (x y : Int32) (w : rg_W) (K : Option Value → rg_W → Prop) : T_J_min [.int x, .int y] w K = K (some (.int (if y < x then y else x))) w := rfl
def rg_MinOk (own : String) (lv : Nat) (q : Nat × Nat × Nat × rg_T) : Prop := ∃ idx, q.1 = 2 * idx ∧ q.2.1 = 2 ∧ q.2.2.1 = 0 ∧ q.2.2.2 = T_J_min ∧ 1 ≤ lv ∧ Cond.methodLink own idx Lib.Math.min.name ∈ rg_TS ∧ Cond.static Lib.Math.min.name ∈ rg_TS ∧ Cond.initialized "java/lang/Math" ∈ rg_TS ∧ Cond.code Lib.Math.min.name Lib.Math.min.code 2 (some .int) ∈ rg_TS
/-- a call's words -/
def rg_CallG (l : Launch) (own : String) (lv : Nat) (q : Nat × Nat × Nat × rg_T) : Prop := ∃ (y : MethodName) (cc : ByteArray) (maxL : Nat) (ret : Option FieldType) (lv' idx n : Nat),
  rg_Good l y cc maxL ret lv' q.2.2.2 ∧ q.2.2.1 = 0 ∧ lv' + 1 ≤ lv ∧ maxL ≤ 21 ∧ Cond.code y cc maxL ret ∈ rg_TS ∧ Cond.initialized y.cls ∈ rg_TS ∧
  (y.cls ≠ "java/lang/invoke/MethodHandle" ∧ y.cls ≠ "java/lang/invoke/VarHandle" ∧ (parseMethodDescriptor y.desc).map (fun d => d.parameters.length) = some n) ∧
  (Cond.methodLink own idx y ∈ rg_TS ∨ ∃ host, Cond.methodLinkNest own idx y host ∈ rg_NW) ∧
  ((q.1 = 2 * idx ∧ q.2.1 = n ∧ Cond.static y ∈ rg_TS) ∨
   (q.1 = 2 * idx + 1 ∧ q.2.1 = n + 1 ∧ Cond.instanceMethod y ∈ rg_TS ∧ Cond.selects y.cls y y ∈ rg_TS ∧ ∀ as w K, q.2.2.2 as w K → ∃ o ci fs T N r, as = .ref o :: r ∧ rg_lay[o]? = some (.inr (ci, fs)) ∧ rg_cl[ci]? = some (y.cls, T, N)))
def rg_CallOk (l : Launch) (own : String) (lv : Nat) (q : Nat × Nat × Nat × rg_T) : Prop := rg_CallG l own lv q ∨ rg_MinOk own lv q
section
variable {p : Program} {l : Launch} {e : Env} {s : State} {m : MethodId} {args : Array Value} {below : List Frame} {meth : Method} {c : Code} {Q : State → Prop} {cc : ByteArray} {E : rg_E} {nL : Nat}
theorem rg_goodIn {Ts : List Cond} (hTS : ∀ w ∈ rg_TS, w ∈ Ts) {y : MethodName} {cc : ByteArray} {maxL : Nat} {ret : Option FieldType} (h : Cond.code y cc maxL ret ∈ rg_TS) : GoodIn Ts (rg_wsOf y cc maxL ret) := by
  intro w hw
  rcases List.mem_cons.mp hw with rfl | hw
  · exact ⟨hTS _ h, Or.inl rfl⟩
  · exact ⟨hTS _ hw, good_of_word (rg_TS_ok w hw)⟩
theorem rg_nx_pl {hd : List (Nat × Nat)} {pc : Nat} {L st : List Value} {b : Nat} {go : rg_Go} {r : Option Value} {w : rg_W} (h : rg_pl r) (k : rg_nx hd pc L st b go r w) : go (pc + 3) L (rg_psh r st) w b := by
  unfold rg_nx at k
  split at k
  · exact h.elim
  · exact k
theorem rg_A_up {sz sz' : Nat} (h : sz ≤ sz') (q : Nat) (k : rg_A E sz' q) : rg_A E sz q := k.imp id (fun z => Nat.le_trans h z)
theorem rg_rm_ok {a b maxL : Nat} (h : a + 1 ≤ b) (hm : maxL ≤ 21) : (rg_rm a).frames + 1 ≤ (rg_rm b).frames ∧ 8 + (maxL + 11) + (rg_rm a).locals ≤ (rg_rm b).locals := by
  simp only [rg_rm]
  omega
set_option maxHeartbeats 1000000 in
theorem rg_callS {nn lv : Nat} (hx : p.tables.exec = Jvm.exec) (hb : c.code = cc) (hml : c.maxLocals = nL) (hS : rg_S E s) (hD : rg_D E) {Ts : List Cond} (hts : ∀ w ∈ Ts, w.before args s = true) (hTS : ∀ w ∈ rg_TS, w ∈ Ts) {own : String} (hown : s.vm.findClass own = some m.cls)
    {P : rg_P} (hC : ∀ q ∈ P.2.1, rg_CallOk l own lv q) : ∀ k n d T, rg_lk P.2.1 (2 * k) = some (n, d, T) → ∀ pc L as st w b K, decode cc pc = .ok (.invokestatic k, 3) → as.length = n → rg_wd st ≤ 8 → (d = 0 ∨ b + d ≤ P.2.2.2.2.2.2) → T as w K →
      (∀ r w', K r w' → rg_nx P.2.2.2.2.2.1 pc L st (b + d) (rg_M p l e (rg_rm (nn + lv)) s m args below meth c Q E (rg_A E s.heap.size) nL (fun _ => (0, 0))) r w') →
      rg_M p l e (rg_rm (nn + lv)) s m args below meth c Q E (rg_A E s.heap.size) nL (fun _ => (0, 0)) pc L (as.reverse ++ st) w b := by
  intro k n d T hk pc L as st w b K hd hn hw8 _ hT hnx H locs ls hP hSS hL
  rcases hC _ (rg_lk_mem hk) with hCG | ⟨idx, i1, i2, i3, i4, i5, i6, i7, i8, i9⟩
  rotate_left
  · dsimp only at i1 i2 i3 i4
    obtain rfl : k = idx := by omega
    subst i2 i3 i4
    unfold T_J_min at hT
    split at hT
    · rename_i x y
      have hk := rg_nx_pl (r := some (.int (if y < x then y else x))) trivial (hnx _ _ hT)
      exact va_mmin hx hb (by rw [hml]; exact hL.1.symm) hown (hts _ (hTS _ i6)) (hts _ (hTS _ i7)) (hts _ (hTS _ i8)) (hts _ (hTS _ i9)) (by show 1 ≤ nn + lv; omega) (by rw [rg_wd_eq]; show rg_wd st + 13 ≤ 40 * (nn + lv); omega) (Nat.le_refl _) (Nat.le_refl _) hd (hk H locs ls hP hSS hL)
    · exact hT.elim
  obtain ⟨y, cc', maxL, ret, lv', idx, n', hG, hd0, hlv, hmx, hcd, hini, hyd, hlk, hkind⟩ := hCG
  dsimp only at hd0 hkind hG
  subst hd0
  rcases hkind with ⟨e1, e2, hst⟩ | ⟨e1, -⟩
  · have e1 : k = idx := by omega
    subst e1
    subst e2
    have hM := hG (nn + lv - 1 - lv') E H.size as w K hT
    have hR := rg_rm_ok (a := nn + lv - 1 - lv' + lv') (b := nn + lv) (maxL := maxL) (by omega) hmx
    have hGI := rg_goodIn hTS hcd
    have hpre : PreS s H (rg_Pc E H.size as w) (as.map (rg_v E.1)) := ⟨rg_blind, fun U hU hW => ⟨rfl, by rw [hU], by rw [hU]; exact hP, rg_S_warm hW hS, hD⟩⟩
    have hstack : (F0 m pc ls ((as.reverse ++ st).map (rg_v E.1))).stack = (as.map (rg_v E.1)).reverse ++ st.map (rg_v E.1) := by simp
    have hW8 : 2 * (F0 m pc ls ((as.reverse ++ st).map (rg_v E.1))).monitorRoom + ((st.map (rg_v E.1)).map fun v => v.category).sum ≤ 8 := lv_room (by rw [rg_wd_eq]; exact hw8)
    rcases hlk with hlk | ⟨host, hlk⟩
    · refine rg_after (cb := fun _ => (0, 0)) (sz := H.size) (b := b) (b2 := b) (st := st) (a := (as.map (rg_v E.1)).toArray) (mc := 0) (ms := 0) (va_runS ⟨hx, hb, hml, hown, hts⟩ hM ⟨callB_of n hts hGI rfl rfl rfl (hts _ (hTS _ hini)) (hts _ (hTS _ hlk)) hyd hR, hts _ (hTS _ hst)⟩ hpre rfl (by simpa using hn) hL.1 hstack hW8 hd ⟨Nat.le_refl _, Nat.le_refl _⟩) hSS (rg_A_up hSS.1) hL ⟨Nat.le_refl _, Nat.le_refl _⟩ (fun r w' h1 h2 => rg_nx_pl h1 (hnx r w' h2))
    · refine rg_after (cb := fun _ => (0, 0)) (sz := H.size) (b := b) (b2 := b) (st := st) (a := (as.map (rg_v E.1)).toArray) (mc := 0) (ms := 0) (va_runSN ⟨hx, hb, hml, hown, hts⟩ hM ⟨va_cnB n hts hGI rfl rfl rfl (hS.2 _ hlk) (hts _ (hTS _ hini)) hyd hR, hts _ (hTS _ hst), trivial⟩ hpre rfl (by simpa using hn) hL.1 hstack hW8 hd ⟨Nat.le_refl _, Nat.le_refl _⟩) hSS (rg_A_up hSS.1) hL ⟨Nat.le_refl _, Nat.le_refl _⟩ (fun r w' h1 h2 => rg_nx_pl h1 (hnx r w' h2))
  · omega
set_option maxHeartbeats 1000000 in
theorem rg_callV {nn lv : Nat} (hx : p.tables.exec = Jvm.exec) (hb : c.code = cc) (hml : c.maxLocals = nL) (hS : rg_S E s) (hD : rg_D E) {Ts : List Cond} (hts : ∀ w ∈ Ts, w.before args s = true) (hTS : ∀ w ∈ rg_TS, w ∈ Ts) {own : String} (hown : s.vm.findClass own = some m.cls)
    {P : rg_P} (hC : ∀ q ∈ P.2.1, rg_CallOk l own lv q) : ∀ k n d T, rg_lk P.2.1 (2 * k + 1) = some (n, d, T) → ∀ pc L as st w b K, decode cc pc = .ok (.invokevirtual k, 3) → as.length = n → rg_wd st ≤ 8 → (d = 0 ∨ b + d ≤ P.2.2.2.2.2.2) → T as w K →
      (∀ r w', K r w' → rg_nx P.2.2.2.2.2.1 pc L st (b + d) (rg_M p l e (rg_rm (nn + lv)) s m args below meth c Q E (rg_A E s.heap.size) nL (fun _ => (0, 0))) r w') →
      rg_M p l e (rg_rm (nn + lv)) s m args below meth c Q E (rg_A E s.heap.size) nL (fun _ => (0, 0)) pc L (as.reverse ++ st) w b := by
  intro k n d T hk pc L as st w b K hd hn hw8 _ hT hnx H locs ls hP hSS hL
  rcases hC _ (rg_lk_mem hk) with hCG | ⟨idx, i1, -⟩
  rotate_left
  · dsimp only at i1
    omega
  obtain ⟨y, cc', maxL, ret, lv', idx, n', hG, hd0, hlv, hmx, hcd, hini, hyd, hlk, hkind⟩ := hCG
  dsimp only at hd0 hkind hG
  subst hd0
  rcases hkind with ⟨e1, -⟩ | ⟨e1, e2, hin, hsel, hrec⟩
  · omega
  · have e1 : k = idx := by omega
    subst e1
    have hM := hG (nn + lv - 1 - lv') E H.size as w K hT
    obtain ⟨o, ci, fs, T', N, rr, rfl, hlay, hcl⟩ := hrec as w K hT
    have hR := rg_rm_ok (a := nn + lv - 1 - lv' + lv') (b := nn + lv) (maxL := maxL) (by omega) hmx
    have hGI := rg_goodIn hTS hcd
    have hat : (rg_ws E w)[o]? = some (E.1 o, .inr (ci, fs.mapIdx (rg_fv E (w.1 o)))) := by rw [rg_ws_at, hlay]; rfl
    have hrcv := va_recv hS.1 hP hcl hat
    have hpre : PreV s H y.cls (E.1 o) (rg_Pc E H.size (.ref o :: rr) w) (rr.map (rg_v E.1)) := ⟨rg_blind, hrcv, fun U hU hW => ⟨rfl, by rw [hU], by rw [hU]; exact hP, rg_S_warm hW hS, hD⟩⟩
    have hstack : (F0 m pc ls (((Value.ref o :: rr).reverse ++ st).map (rg_v E.1))).stack = (rr.map (rg_v E.1)).reverse ++ .ref (E.1 o) :: st.map (rg_v E.1) := by simp [rg_v]
    have hW8 : 2 * (F0 m pc ls (((Value.ref o :: rr).reverse ++ st).map (rg_v E.1))).monitorRoom + ((st.map (rg_v E.1)).map fun v => v.category).sum ≤ 8 := lv_room (by rw [rg_wd_eq]; exact hw8)
    have hnl : (rr.map (rg_v E.1)).length = n' := by simp at hn ⊢; omega
    rcases hlk with hlk | ⟨host, hlk⟩
    · refine rg_after (cb := fun _ => (0, 0)) (sz := H.size) (b := b) (b2 := b) (st := st) (a := (Value.ref (E.1 o) :: rr.map (rg_v E.1)).toArray) (mc := 0) (ms := 0) (va_runV ⟨hx, hb, hml, hown, hts⟩ hM ⟨callB_of n' hts hGI rfl rfl rfl (hts _ (hTS _ hini)) (hts _ (hTS _ hlk)) hyd hR, hts _ (hTS _ hin), hts _ (hTS _ hsel)⟩ hpre rfl hnl hL.1 hstack hW8 hd ⟨Nat.le_refl _, Nat.le_refl _⟩) hSS (rg_A_up hSS.1) hL ⟨Nat.le_refl _, Nat.le_refl _⟩ (fun r w' h1 h2 => rg_nx_pl h1 (hnx r w' h2))
    · refine rg_after (cb := fun _ => (0, 0)) (sz := H.size) (b := b) (b2 := b) (st := st) (a := (Value.ref (E.1 o) :: rr.map (rg_v E.1)).toArray) (mc := 0) (ms := 0) (va_runVN ⟨hx, hb, hml, hown, hts⟩ hM ⟨va_cnB n' hts hGI rfl rfl rfl (hS.2 _ hlk) (hts _ (hTS _ hini)) hyd hR, hts _ (hTS _ hin), hts _ (hTS _ hsel)⟩ hpre rfl hnl hL.1 hstack hW8 hd ⟨Nat.le_refl _, Nat.le_refl _⟩) hSS (rg_A_up hSS.1) hL ⟨Nat.le_refl _, Nat.le_refl _⟩ (fun r w' h1 h2 => rg_nx_pl h1 (hnx r w' h2))
end
/-- what a plain method's table must be -/
def rg_POk (l : Launch) (own : String) (lv : Nat) (P : rg_P) : Prop := (∀ q ∈ P.1, rg_FOk own q) ∧ (∀ q ∈ P.2.1, rg_CallOk l own lv q) ∧ (∀ q ∈ P.2.2.1, Cond.constant own q.1 q.2 ∈ rg_TS) ∧ (∀ q ∈ P.2.2.2.1, Cond.constantLong own q.1 q.2 ∈ rg_TS) ∧ P.2.2.2.2.1 = []
set_option maxHeartbeats 1000000 in
theorem rg_good_of {l : Launch} {y : MethodName} {cc : ByteArray} {maxL : Nat} {ret : Option FieldType} {lv : Nat} {T : rg_T} {P : rg_P} (hy : plainName y.cls = true) (hP : rg_POk l y.cls lv P)
    (body : ∀ (as : List Value) (w : rg_W) (K : Option Value → rg_W → Prop) (Z : rg_Go), T as w K → (∀ (cut : Nat → Bool) (n : Nat) (pc : Nat) (L st : List Value) (w : rg_W), rg_run P none cc cut Z (rg_rt ret K) true n pc L st w 0 → Z pc L st w 0) → rg_sz as ≤ maxL ∧ Z 0 (rg_loc maxL as) [] w 0) :
    rg_Good l y cc maxL ret lv T := by
  intro nn E sz as w K hT
  refine Met.ofW (cc := cc) (maxL := maxL) (ret := ret) hy rfl ?_
  intro p e s m args below meth c s₁ B hml hv
  obtain ⟨rfl, rfl, hPw, hS, hD⟩ := hv
  have hx := B.exec
  have hb := B.bytes
  have hr := B.returns
  have hts := atoms_spec (ws := rg_wsOf y cc maxL ret) B.pre
  have hTS : ∀ w ∈ rg_TS, w ∈ rg_wsOf y cc maxL ret := fun w hw => List.mem_cons_of_mem _ hw
  have hown : s.vm.findClass y.cls = some m.cls := findClass_of_methodNamed B.named
  have hlocks := B.notSynchronized
  obtain ⟨hF, hC, hI, hJ, hN⟩ := hP
  have hclose : ∀ (cut : Nat → Bool) (n : Nat) (pc : Nat) (L st : List Value) (w : rg_W), rg_run P none cc cut (rg_M p l e (rg_rm (nn + lv)) s m (as.map (rg_v E.1)).toArray below meth c (MQ below (rg_Qc E (rg_A E s.heap.size) K) (as.map (rg_v E.1)).toArray s 0 0 (rg_A E s.heap.size)) E (rg_A E s.heap.size) maxL (fun _ => (0, 0))) (rg_rt ret K) true n pc L st w 0 → rg_M p l e (rg_rm (nn + lv)) s m (as.map (rg_v E.1)).toArray below meth c (MQ below (rg_Qc E (rg_A E s.heap.size) K) (as.map (rg_v E.1)).toArray s 0 0 (rg_A E s.heap.size)) E (rg_A E s.heap.size) maxL (fun _ => (0, 0)) pc L st w 0 := by
    intro cut n pc L st w h
    refine rg_close (fun go hgo => ?_) cut n true pc L st w 0 h
    intro i len pc L st w b
    refine rg_sound (rt := rg_rt ret K) hx hb hS.1 (fun w => rg_D_va hD w) (rg_get hx hb hS hts hTS hown hF) (rg_put hx hb hS (fun w => rg_D_va hD w) hts hTS hown hF) ?_ ?_ ?_ (rg_callS hx hb hml hS hD hts hTS hown hC) (rg_callV hx hb hml hS hD hts hTS hown hC) ?_ ?_ ?_ (fun N xs z => by cases z) hgo
    · intro k v pc L st w b hk hd h H locs ls hP hSS hL
      exact lv_ldc hx hb hown (hts _ (hTS _ (hI _ (rg_lk_mem hk)))) hd (h H locs ls hP hSS hL)
    · intro k v pc L st w b hk hd h H locs ls hP hSS hL
      exact lv_ldcw hx hb hown (hts _ (hTS _ (hI _ (rg_lk_mem hk)))) hd (h H locs ls hP hSS hL)
    · intro k v pc L st w b hk hd h H locs ls hP hSS hL
      exact lv_ldc2 hx hb hown (hts _ (hTS _ (hJ _ (rg_lk_mem hk)))) hd (h H locs ls hP hSS hL)
    · intro k x pc L st w b hk
      rw [hN] at hk
      cases hk
    · intro x pc L w b hd h H locs ls hP hSS hL
      obtain ⟨⟨ty, h1, h2⟩, h3⟩ := h
      exact W.zret hx hb (hr.trans h1) h2 (fun t ht _ => ⟨⟨some (.int x), w, rfl, trivial, h3, by rw [ht]; exact hP⟩, hSS.F ht⟩) hSS.2.2 hd
    · intro pc L w b hd h H locs ls hP hSS hL
      obtain ⟨h1, h3⟩ := h
      exact W.vret hx hb (hr.trans h1) (fun t ht _ => ⟨⟨none, w, rfl, trivial, h3, by rw [ht]; exact hP⟩, hSS.F ht⟩) hSS.2.2 hd
  obtain ⟨hsz, hbody⟩ := body as w K _ hT hclose
  have hl := lv_entry (as.map (rg_v E.1)) (n := maxL) (by rw [rg_sz_sl]; exact hsz)
  rw [lg_entry_eq]
  refine hbody s.heap [] _ hPw va_S.rf ⟨hl.1, hl.2.1, rg_loc_len as maxL hsz, fun i v h1 h2 => ?_⟩
  have := hl.2.2 _ (rg_loc_mem E.1 as maxL 0 i v h1 h2)
  rw [Nat.zero_add] at this
  exact this
end
section
/-! field tables and call words (by program) -/
def rg_F_G : List (Nat × Nat × Nat) := [(12, 0, 0), (19, 0, 1), (28, 0, 2), (39, 1, 2), (61, 1, 1), (91, 2, 10), (92, 2, 9), (103, 2, 1), (106, 2, 2), (109, 2, 3), (114, 2, 7), (140, 3, 3), (146, 3, 2)]
theorem rg_F_G_ok : ∀ q ∈ rg_F_G, rg_FOk "ReadGraph" q :=
  List.forall_mem_cons.mpr ⟨⟨Rn_G, Tn_G, 3, rfl, by decide, Or.inl (rg_in rfl (by decide +kernel))⟩,
  List.forall_mem_cons.mpr ⟨⟨Rn_G, Tn_G, 3, rfl, by decide, Or.inl (rg_in rfl (by decide +kernel))⟩,
  List.forall_mem_cons.mpr ⟨⟨Rn_G, Tn_G, 3, rfl, by decide, Or.inl (rg_in rfl (by decide +kernel))⟩,
  List.forall_mem_cons.mpr ⟨⟨Rn_R, Tn_R, 3, rfl, by decide, Or.inr ⟨"ReadGraph", rg_inN rfl (by decide +kernel)⟩⟩,
  List.forall_mem_cons.mpr ⟨⟨Rn_R, Tn_R, 3, rfl, by decide, Or.inr ⟨"ReadGraph", rg_inN rfl (by decide +kernel)⟩⟩,
  List.forall_mem_cons.mpr ⟨⟨Rn_E, Tn_E, 11, rfl, by decide, Or.inr ⟨"ReadGraph", rg_inN rfl (by decide +kernel)⟩⟩,
  List.forall_mem_cons.mpr ⟨⟨Rn_E, Tn_E, 11, rfl, by decide, Or.inr ⟨"ReadGraph", rg_inN rfl (by decide +kernel)⟩⟩,
  List.forall_mem_cons.mpr ⟨⟨Rn_E, Tn_E, 11, rfl, by decide, Or.inr ⟨"ReadGraph", rg_inN rfl (by decide +kernel)⟩⟩,
  List.forall_mem_cons.mpr ⟨⟨Rn_E, Tn_E, 11, rfl, by decide, Or.inr ⟨"ReadGraph", rg_inN rfl (by decide +kernel)⟩⟩,
  List.forall_mem_cons.mpr ⟨⟨Rn_E, Tn_E, 11, rfl, by decide, Or.inr ⟨"ReadGraph", rg_inN rfl (by decide +kernel)⟩⟩,
  List.forall_mem_cons.mpr ⟨⟨Rn_E, Tn_E, 11, rfl, by decide, Or.inr ⟨"ReadGraph", rg_inN rfl (by decide +kernel)⟩⟩,
  List.forall_mem_cons.mpr ⟨⟨Rn_W, Tn_W, 7, rfl, by decide, Or.inr ⟨"ReadGraph", rg_inN rfl (by decide +kernel)⟩⟩,
  List.forall_mem_cons.mpr ⟨⟨Rn_W, Tn_W, 7, rfl, by decide, Or.inr ⟨"ReadGraph", rg_inN rfl (by decide +kernel)⟩⟩,
  fun _ h => absurd h List.not_mem_nil⟩⟩⟩⟩⟩⟩⟩⟩⟩⟩⟩⟩⟩
def rg_F_R : List (Nat × Nat × Nat) := [(9, 1, 0), (15, 1, 1), (18, 1, 2)]
theorem rg_F_R_ok : ∀ q ∈ rg_F_R, rg_FOk "ReadGraph$Reads" q :=
  List.forall_mem_cons.mpr ⟨⟨Rn_R, Tn_R, 3, rfl, by decide, Or.inl (rg_in rfl (by decide +kernel))⟩,
  List.forall_mem_cons.mpr ⟨⟨Rn_R, Tn_R, 3, rfl, by decide, Or.inl (rg_in rfl (by decide +kernel))⟩,
  List.forall_mem_cons.mpr ⟨⟨Rn_R, Tn_R, 3, rfl, by decide, Or.inl (rg_in rfl (by decide +kernel))⟩,
  fun _ h => absurd h List.not_mem_nil⟩⟩⟩
def rg_F_E : List (Nat × Nat × Nat) := [(9, 2, 0), (15, 2, 1), (18, 2, 2), (21, 2, 3), (24, 2, 4), (27, 2, 5), (30, 2, 6), (33, 2, 7), (36, 2, 10), (40, 2, 8), (43, 2, 9), (75, 1, 1)]
theorem rg_F_E_ok : ∀ q ∈ rg_F_E, rg_FOk "ReadGraph$Edges" q :=
  List.forall_mem_cons.mpr ⟨⟨Rn_E, Tn_E, 11, rfl, by decide, Or.inl (rg_in rfl (by decide +kernel))⟩,
  List.forall_mem_cons.mpr ⟨⟨Rn_E, Tn_E, 11, rfl, by decide, Or.inl (rg_in rfl (by decide +kernel))⟩,
  List.forall_mem_cons.mpr ⟨⟨Rn_E, Tn_E, 11, rfl, by decide, Or.inl (rg_in rfl (by decide +kernel))⟩,
  List.forall_mem_cons.mpr ⟨⟨Rn_E, Tn_E, 11, rfl, by decide, Or.inl (rg_in rfl (by decide +kernel))⟩,
  List.forall_mem_cons.mpr ⟨⟨Rn_E, Tn_E, 11, rfl, by decide, Or.inl (rg_in rfl (by decide +kernel))⟩,
  List.forall_mem_cons.mpr ⟨⟨Rn_E, Tn_E, 11, rfl, by decide, Or.inl (rg_in rfl (by decide +kernel))⟩,
  List.forall_mem_cons.mpr ⟨⟨Rn_E, Tn_E, 11, rfl, by decide, Or.inl (rg_in rfl (by decide +kernel))⟩,
  List.forall_mem_cons.mpr ⟨⟨Rn_E, Tn_E, 11, rfl, by decide, Or.inl (rg_in rfl (by decide +kernel))⟩,
  List.forall_mem_cons.mpr ⟨⟨Rn_E, Tn_E, 11, rfl, by decide, Or.inl (rg_in rfl (by decide +kernel))⟩,
  List.forall_mem_cons.mpr ⟨⟨Rn_E, Tn_E, 11, rfl, by decide, Or.inl (rg_in rfl (by decide +kernel))⟩,
  List.forall_mem_cons.mpr ⟨⟨Rn_E, Tn_E, 11, rfl, by decide, Or.inl (rg_in rfl (by decide +kernel))⟩,
  List.forall_mem_cons.mpr ⟨⟨Rn_R, Tn_R, 3, rfl, by decide, Or.inr ⟨"ReadGraph", rg_inN rfl (by decide +kernel)⟩⟩,
  fun _ h => absurd h List.not_mem_nil⟩⟩⟩⟩⟩⟩⟩⟩⟩⟩⟩⟩
def rg_F_W : List (Nat × Nat × Nat) := [(9, 3, 1), (15, 3, 2), (18, 3, 4), (21, 3, 5), (24, 3, 0), (28, 3, 3), (33, 2, 10), (36, 3, 6), (58, 2, 4), (61, 2, 2), (72, 2, 1)]
theorem rg_F_W_ok : ∀ q ∈ rg_F_W, rg_FOk "ReadGraph$Walks" q :=
  List.forall_mem_cons.mpr ⟨⟨Rn_W, Tn_W, 7, rfl, by decide, Or.inl (rg_in rfl (by decide +kernel))⟩,
  List.forall_mem_cons.mpr ⟨⟨Rn_W, Tn_W, 7, rfl, by decide, Or.inl (rg_in rfl (by decide +kernel))⟩,
  List.forall_mem_cons.mpr ⟨⟨Rn_W, Tn_W, 7, rfl, by decide, Or.inl (rg_in rfl (by decide +kernel))⟩,
  List.forall_mem_cons.mpr ⟨⟨Rn_W, Tn_W, 7, rfl, by decide, Or.inl (rg_in rfl (by decide +kernel))⟩,
  List.forall_mem_cons.mpr ⟨⟨Rn_W, Tn_W, 7, rfl, by decide, Or.inl (rg_in rfl (by decide +kernel))⟩,
  List.forall_mem_cons.mpr ⟨⟨Rn_W, Tn_W, 7, rfl, by decide, Or.inl (rg_in rfl (by decide +kernel))⟩,
  List.forall_mem_cons.mpr ⟨⟨Rn_E, Tn_E, 11, rfl, by decide, Or.inr ⟨"ReadGraph", rg_inN rfl (by decide +kernel)⟩⟩,
  List.forall_mem_cons.mpr ⟨⟨Rn_W, Tn_W, 7, rfl, by decide, Or.inl (rg_in rfl (by decide +kernel))⟩,
  List.forall_mem_cons.mpr ⟨⟨Rn_E, Tn_E, 11, rfl, by decide, Or.inr ⟨"ReadGraph", rg_inN rfl (by decide +kernel)⟩⟩,
  List.forall_mem_cons.mpr ⟨⟨Rn_E, Tn_E, 11, rfl, by decide, Or.inr ⟨"ReadGraph", rg_inN rfl (by decide +kernel)⟩⟩,
  List.forall_mem_cons.mpr ⟨⟨Rn_E, Tn_E, 11, rfl, by decide, Or.inr ⟨"ReadGraph", rg_inN rfl (by decide +kernel)⟩⟩,
  fun _ h => absurd h List.not_mem_nil⟩⟩⟩⟩⟩⟩⟩⟩⟩⟩⟩
def rg_F_M : List (Nat × Nat × Nat) := [(7, 4, 2), (13, 4, 3), (16, 4, 4), (20, 4, 6), (23, 4, 7), (26, 4, 8), (29, 4, 10), (32, 4, 11), (35, 4, 12), (38, 4, 13), (41, 4, 14), (44, 4, 15), (47, 4, 16), (50, 4, 18), (53, 4, 19), (56, 4, 0), (60, 4, 5), (63, 4, 9), (66, 4, 17), (77, 4, 1)]
theorem rg_F_M_ok : ∀ q ∈ rg_F_M, rg_FOk "ReadGraphModel" q :=
  List.forall_mem_cons.mpr ⟨⟨Rn_M, Tn_M, 20, rfl, by decide, Or.inl (rg_in rfl (by decide +kernel))⟩,
  List.forall_mem_cons.mpr ⟨⟨Rn_M, Tn_M, 20, rfl, by decide, Or.inl (rg_in rfl (by decide +kernel))⟩,
  List.forall_mem_cons.mpr ⟨⟨Rn_M, Tn_M, 20, rfl, by decide, Or.inl (rg_in rfl (by decide +kernel))⟩,
  List.forall_mem_cons.mpr ⟨⟨Rn_M, Tn_M, 20, rfl, by decide, Or.inl (rg_in rfl (by decide +kernel))⟩,
  List.forall_mem_cons.mpr ⟨⟨Rn_M, Tn_M, 20, rfl, by decide, Or.inl (rg_in rfl (by decide +kernel))⟩,
  List.forall_mem_cons.mpr ⟨⟨Rn_M, Tn_M, 20, rfl, by decide, Or.inl (rg_in rfl (by decide +kernel))⟩,
  List.forall_mem_cons.mpr ⟨⟨Rn_M, Tn_M, 20, rfl, by decide, Or.inl (rg_in rfl (by decide +kernel))⟩,
  List.forall_mem_cons.mpr ⟨⟨Rn_M, Tn_M, 20, rfl, by decide, Or.inl (rg_in rfl (by decide +kernel))⟩,
  List.forall_mem_cons.mpr ⟨⟨Rn_M, Tn_M, 20, rfl, by decide, Or.inl (rg_in rfl (by decide +kernel))⟩,
  List.forall_mem_cons.mpr ⟨⟨Rn_M, Tn_M, 20, rfl, by decide, Or.inl (rg_in rfl (by decide +kernel))⟩,
  List.forall_mem_cons.mpr ⟨⟨Rn_M, Tn_M, 20, rfl, by decide, Or.inl (rg_in rfl (by decide +kernel))⟩,
  List.forall_mem_cons.mpr ⟨⟨Rn_M, Tn_M, 20, rfl, by decide, Or.inl (rg_in rfl (by decide +kernel))⟩,
  List.forall_mem_cons.mpr ⟨⟨Rn_M, Tn_M, 20, rfl, by decide, Or.inl (rg_in rfl (by decide +kernel))⟩,
  List.forall_mem_cons.mpr ⟨⟨Rn_M, Tn_M, 20, rfl, by decide, Or.inl (rg_in rfl (by decide +kernel))⟩,
  List.forall_mem_cons.mpr ⟨⟨Rn_M, Tn_M, 20, rfl, by decide, Or.inl (rg_in rfl (by decide +kernel))⟩,
  List.forall_mem_cons.mpr ⟨⟨Rn_M, Tn_M, 20, rfl, by decide, Or.inl (rg_in rfl (by decide +kernel))⟩,
  List.forall_mem_cons.mpr ⟨⟨Rn_M, Tn_M, 20, rfl, by decide, Or.inl (rg_in rfl (by decide +kernel))⟩,
  List.forall_mem_cons.mpr ⟨⟨Rn_M, Tn_M, 20, rfl, by decide, Or.inl (rg_in rfl (by decide +kernel))⟩,
  List.forall_mem_cons.mpr ⟨⟨Rn_M, Tn_M, 20, rfl, by decide, Or.inl (rg_in rfl (by decide +kernel))⟩,
  List.forall_mem_cons.mpr ⟨⟨Rn_M, Tn_M, 20, rfl, by decide, Or.inl (rg_in rfl (by decide +kernel))⟩,
  fun _ h => absurd h List.not_mem_nil⟩⟩⟩⟩⟩⟩⟩⟩⟩⟩⟩⟩⟩⟩⟩⟩⟩⟩⟩⟩
def rg_F_J : List (Nat × Nat × Nat) := []
def rg_F_L : List (Nat × Nat × Nat) := []
set_option maxRecDepth 20000 in
theorem cw_G_48 {l : Launch} {T : rg_T} {lv lv2 : Nat} (hG : rg_Good l y_G_forgetGraph c_G_forgetGraph 1 none lv2 T) (h : lv2 + 1 ≤ lv) (hr : ∀ as w K, T as w K → ∃ r, as = .ref 0 :: r) : rg_CallOk l "ReadGraph" lv (97, 1, 0, T) :=
  Or.inl ⟨y_G_forgetGraph, c_G_forgetGraph, 1, none, lv2, 48, 0, hG, rfl, h, by decide, rg_in rfl (List.mem_of_getElem? (i := 140) rfl), rg_in rfl (by decide +kernel), ⟨by decide, by decide, by decide +kernel⟩, Or.inl (rg_in rfl (by decide +kernel)), Or.inr ⟨rfl, rfl, rg_in rfl (by decide +kernel), rg_inS rfl (by decide +kernel), fun as w K h => by obtain ⟨r, rfl⟩ := hr as w K h; exact ⟨0, 0, _, Tn_G, 3, r, rfl, rfl, rfl⟩⟩⟩
set_option maxRecDepth 20000 in
theorem cw_G_51 {l : Launch} {T : rg_T} {lv lv2 : Nat} (hG : rg_Good l y_R_add c_R_add 3 (some .int) lv2 T) (h : lv2 + 1 ≤ lv) (hr : ∀ as w K, T as w K → ∃ r, as = .ref 1 :: r) : rg_CallOk l "ReadGraph" lv (103, 3, 0, T) :=
  Or.inl ⟨y_R_add, c_R_add, 3, (some .int), lv2, 51, 2, hG, rfl, h, by decide, rg_in rfl (List.mem_of_getElem? (i := 263) rfl), rg_in rfl (by decide +kernel), ⟨by decide, by decide, by decide +kernel⟩, Or.inr ⟨"ReadGraph", rg_inN rfl (by decide +kernel)⟩, Or.inr ⟨rfl, rfl, rg_in rfl (by decide +kernel), rg_inS rfl (by decide +kernel), fun as w K h => by obtain ⟨r, rfl⟩ := hr as w K h; exact ⟨1, 1, _, Tn_R, 3, r, rfl, rfl, rfl⟩⟩⟩
set_option maxRecDepth 20000 in
theorem cw_G_55 {l : Launch} {T : rg_T} {lv lv2 : Nat} (hG : rg_Good l y_R_has c_R_has 2 (some .boolean) lv2 T) (h : lv2 + 1 ≤ lv) (hr : ∀ as w K, T as w K → ∃ r, as = .ref 1 :: r) : rg_CallOk l "ReadGraph" lv (111, 2, 0, T) :=
  Or.inl ⟨y_R_has, c_R_has, 2, (some .boolean), lv2, 55, 1, hG, rfl, h, by decide, rg_in rfl (List.mem_of_getElem? (i := 278) rfl), rg_in rfl (by decide +kernel), ⟨by decide, by decide, by decide +kernel⟩, Or.inr ⟨"ReadGraph", rg_inN rfl (by decide +kernel)⟩, Or.inr ⟨rfl, rfl, rg_in rfl (by decide +kernel), rg_inS rfl (by decide +kernel), fun as w K h => by obtain ⟨r, rfl⟩ := hr as w K h; exact ⟨1, 1, _, Tn_R, 3, r, rfl, rfl, rfl⟩⟩⟩
set_option maxRecDepth 20000 in
theorem cw_G_70 {l : Launch} {T : rg_T} {lv lv2 : Nat} (hG : rg_Good l y_R_letterAt c_R_letterAt 3 (some .int) lv2 T) (h : lv2 + 1 ≤ lv) (hr : ∀ as w K, T as w K → ∃ r, as = .ref 1 :: r) : rg_CallOk l "ReadGraph" lv (141, 3, 0, T) :=
  Or.inl ⟨y_R_letterAt, c_R_letterAt, 3, (some .int), lv2, 70, 2, hG, rfl, h, by decide, rg_in rfl (List.mem_of_getElem? (i := 299) rfl), rg_in rfl (by decide +kernel), ⟨by decide, by decide, by decide +kernel⟩, Or.inr ⟨"ReadGraph", rg_inN rfl (by decide +kernel)⟩, Or.inr ⟨rfl, rfl, rg_in rfl (by decide +kernel), rg_inS rfl (by decide +kernel), fun as w K h => by obtain ⟨r, rfl⟩ := hr as w K h; exact ⟨1, 1, _, Tn_R, 3, r, rfl, rfl, rfl⟩⟩⟩
set_option maxRecDepth 20000 in
theorem cw_G_73 {l : Launch} {T : rg_T} {lv lv2 : Nat} (hG : rg_Good l y_R_isNode c_R_isNode 3 (some .boolean) lv2 T) (h : lv2 + 1 ≤ lv) (hr : ∀ as w K, T as w K → ∃ r, as = .ref 1 :: r) : rg_CallOk l "ReadGraph" lv (147, 2, 0, T) :=
  Or.inl ⟨y_R_isNode, c_R_isNode, 3, (some .boolean), lv2, 73, 1, hG, rfl, h, by decide, rg_in rfl (List.mem_of_getElem? (i := 310) rfl), rg_in rfl (by decide +kernel), ⟨by decide, by decide, by decide +kernel⟩, Or.inr ⟨"ReadGraph", rg_inN rfl (by decide +kernel)⟩, Or.inr ⟨rfl, rfl, rg_in rfl (by decide +kernel), rg_inS rfl (by decide +kernel), fun as w K h => by obtain ⟨r, rfl⟩ := hr as w K h; exact ⟨1, 1, _, Tn_R, 3, r, rfl, rfl, rfl⟩⟩⟩
set_option maxRecDepth 20000 in
theorem cw_G_78 {l : Launch} {T : rg_T} {lv lv2 : Nat} (hG : rg_Good l y_G_isLeast c_G_isLeast 1 (some .boolean) lv2 T) (h : lv2 + 1 ≤ lv) : rg_CallOk l "ReadGraph" lv (156, 1, 0, T) :=
  Or.inl ⟨y_G_isLeast, c_G_isLeast, 1, (some .boolean), lv2, 78, 1, hG, rfl, h, by decide, rg_in rfl (List.mem_of_getElem? (i := 326) rfl), rg_in rfl (by decide +kernel), ⟨by decide, by decide, by decide +kernel⟩, Or.inl (rg_in rfl (by decide +kernel)), Or.inl ⟨rfl, rfl, rg_in rfl (by decide +kernel)⟩⟩
set_option maxRecDepth 20000 in
theorem cw_G_83 {l : Launch} {T : rg_T} {lv lv2 : Nat} (hG : rg_Good l y_R_lettersShared c_R_lettersShared 5 (some .int) lv2 T) (h : lv2 + 1 ≤ lv) (hr : ∀ as w K, T as w K → ∃ r, as = .ref 1 :: r) : rg_CallOk l "ReadGraph" lv (167, 4, 0, T) :=
  Or.inl ⟨y_R_lettersShared, c_R_lettersShared, 5, (some .int), lv2, 83, 3, hG, rfl, h, by decide, rg_in rfl (List.mem_of_getElem? (i := 331) rfl), rg_in rfl (by decide +kernel), ⟨by decide, by decide, by decide +kernel⟩, Or.inr ⟨"ReadGraph", rg_inN rfl (by decide +kernel)⟩, Or.inr ⟨rfl, rfl, rg_in rfl (by decide +kernel), rg_inS rfl (by decide +kernel), fun as w K h => by obtain ⟨r, rfl⟩ := hr as w K h; exact ⟨1, 1, _, Tn_R, 3, r, rfl, rfl, rfl⟩⟩⟩
set_option maxRecDepth 20000 in
theorem cw_G_87 {l : Launch} {T : rg_T} {lv lv2 : Nat} (hG : rg_Good l y_E_make c_E_make 4 none lv2 T) (h : lv2 + 1 ≤ lv) (hr : ∀ as w K, T as w K → ∃ r, as = .ref 4 :: r) : rg_CallOk l "ReadGraph" lv (175, 3, 0, T) :=
  Or.inl ⟨y_E_make, c_E_make, 4, none, lv2, 87, 2, hG, rfl, h, by decide, rg_in rfl (List.mem_of_getElem? (i := 345) rfl), rg_in rfl (by decide +kernel), ⟨by decide, by decide, by decide +kernel⟩, Or.inr ⟨"ReadGraph", rg_inN rfl (by decide +kernel)⟩, Or.inr ⟨rfl, rfl, rg_in rfl (by decide +kernel), rg_inS rfl (by decide +kernel), fun as w K h => by obtain ⟨r, rfl⟩ := hr as w K h; exact ⟨4, 2, _, Tn_E, 11, r, rfl, rfl, rfl⟩⟩⟩
set_option maxRecDepth 20000 in
theorem cw_G_97 {l : Launch} {T : rg_T} {lv lv2 : Nat} (hG : rg_Good l y_E_has c_E_has 2 (some .boolean) lv2 T) (h : lv2 + 1 ≤ lv) (hr : ∀ as w K, T as w K → ∃ r, as = .ref 4 :: r) : rg_CallOk l "ReadGraph" lv (195, 2, 0, T) :=
  Or.inl ⟨y_E_has, c_E_has, 2, (some .boolean), lv2, 97, 1, hG, rfl, h, by decide, rg_in rfl (List.mem_of_getElem? (i := 380) rfl), rg_in rfl (by decide +kernel), ⟨by decide, by decide, by decide +kernel⟩, Or.inr ⟨"ReadGraph", rg_inN rfl (by decide +kernel)⟩, Or.inr ⟨rfl, rfl, rg_in rfl (by decide +kernel), rg_inS rfl (by decide +kernel), fun as w K h => by obtain ⟨r, rfl⟩ := hr as w K h; exact ⟨4, 2, _, Tn_E, 11, r, rfl, rfl, rfl⟩⟩⟩
set_option maxRecDepth 20000 in
theorem cw_G_117 {l : Launch} {T : rg_T} {lv lv2 : Nat} (hG : rg_Good l y_G_holds c_G_holds 2 (some .boolean) lv2 T) (h : lv2 + 1 ≤ lv) : rg_CallOk l "ReadGraph" lv (234, 2, 0, T) :=
  Or.inl ⟨y_G_holds, c_G_holds, 2, (some .boolean), lv2, 117, 2, hG, rfl, h, by decide, rg_in rfl (List.mem_of_getElem? (i := 159) rfl), rg_in rfl (by decide +kernel), ⟨by decide, by decide, by decide +kernel⟩, Or.inl (rg_in rfl (by decide +kernel)), Or.inl ⟨rfl, rfl, rg_in rfl (by decide +kernel)⟩⟩
set_option maxRecDepth 20000 in
theorem cw_G_121 {l : Launch} {T : rg_T} {lv lv2 : Nat} (hG : rg_Good l y_E_shape c_E_shape 2 (some .int) lv2 T) (h : lv2 + 1 ≤ lv) (hr : ∀ as w K, T as w K → ∃ r, as = .ref 4 :: r) : rg_CallOk l "ReadGraph" lv (243, 1, 0, T) :=
  Or.inl ⟨y_E_shape, c_E_shape, 2, (some .int), lv2, 121, 0, hG, rfl, h, by decide, rg_in rfl (List.mem_of_getElem? (i := 156) rfl), rg_in rfl (by decide +kernel), ⟨by decide, by decide, by decide +kernel⟩, Or.inr ⟨"ReadGraph", rg_inN rfl (by decide +kernel)⟩, Or.inr ⟨rfl, rfl, rg_in rfl (by decide +kernel), rg_inS rfl (by decide +kernel), fun as w K h => by obtain ⟨r, rfl⟩ := hr as w K h; exact ⟨4, 2, _, Tn_E, 11, r, rfl, rfl, rfl⟩⟩⟩
set_option maxRecDepth 20000 in
theorem cw_G_127 {l : Launch} {T : rg_T} {lv lv2 : Nat} (hG : rg_Good l y_G_isPackedWalk c_G_isPackedWalk 6 (some .boolean) lv2 T) (h : lv2 + 1 ≤ lv) (hr : ∀ as w K, T as w K → ∃ r, as = .ref 0 :: r) : rg_CallOk l "ReadGraph" lv (255, 3, 0, T) :=
  Or.inl ⟨y_G_isPackedWalk, c_G_isPackedWalk, 6, (some .boolean), lv2, 127, 2, hG, rfl, h, by decide, rg_in rfl (List.mem_of_getElem? (i := 417) rfl), rg_in rfl (by decide +kernel), ⟨by decide, by decide, by decide +kernel⟩, Or.inl (rg_in rfl (by decide +kernel)), Or.inr ⟨rfl, rfl, rg_in rfl (by decide +kernel), rg_inS rfl (by decide +kernel), fun as w K h => by obtain ⟨r, rfl⟩ := hr as w K h; exact ⟨0, 0, _, Tn_G, 3, r, rfl, rfl, rfl⟩⟩⟩
set_option maxRecDepth 20000 in
theorem cw_G_133 {l : Launch} {T : rg_T} {lv lv2 : Nat} (hG : rg_Good l y_G_isPackedWalkSafe c_G_isPackedWalkSafe 6 (some .boolean) lv2 T) (h : lv2 + 1 ≤ lv) (hr : ∀ as w K, T as w K → ∃ r, as = .ref 0 :: r) : rg_CallOk l "ReadGraph" lv (267, 3, 0, T) :=
  Or.inl ⟨y_G_isPackedWalkSafe, c_G_isPackedWalkSafe, 6, (some .boolean), lv2, 133, 2, hG, rfl, h, by decide, rg_in rfl (List.mem_of_getElem? (i := 425) rfl), rg_in rfl (by decide +kernel), ⟨by decide, by decide, by decide +kernel⟩, Or.inl (rg_in rfl (by decide +kernel)), Or.inr ⟨rfl, rfl, rg_in rfl (by decide +kernel), rg_inS rfl (by decide +kernel), fun as w K h => by obtain ⟨r, rfl⟩ := hr as w K h; exact ⟨0, 0, _, Tn_G, 3, r, rfl, rfl, rfl⟩⟩⟩
set_option maxRecDepth 20000 in
theorem cw_G_136 {l : Launch} {T : rg_T} {lv lv2 : Nat} (hG : rg_Good l y_W_find c_W_find 3 (some .boolean) lv2 T) (h : lv2 + 1 ≤ lv) (hr : ∀ as w K, T as w K → ∃ r, as = .ref 13 :: r) : rg_CallOk l "ReadGraph" lv (273, 1, 0, T) :=
  Or.inl ⟨y_W_find, c_W_find, 3, (some .boolean), lv2, 136, 0, hG, rfl, h, by decide, rg_in rfl (List.mem_of_getElem? (i := 440) rfl), rg_in rfl (by decide +kernel), ⟨by decide, by decide, by decide +kernel⟩, Or.inr ⟨"ReadGraph", rg_inN rfl (by decide +kernel)⟩, Or.inr ⟨rfl, rfl, rg_in rfl (by decide +kernel), rg_inS rfl (by decide +kernel), fun as w K h => by obtain ⟨r, rfl⟩ := hr as w K h; exact ⟨13, 3, _, Tn_W, 7, r, rfl, rfl, rfl⟩⟩⟩
set_option maxRecDepth 20000 in
theorem cw_G_143 {l : Launch} {T : rg_T} {lv lv2 : Nat} (hG : rg_Good l y_W_has c_W_has 2 (some .boolean) lv2 T) (h : lv2 + 1 ≤ lv) (hr : ∀ as w K, T as w K → ∃ r, as = .ref 13 :: r) : rg_CallOk l "ReadGraph" lv (287, 2, 0, T) :=
  Or.inl ⟨y_W_has, c_W_has, 2, (some .boolean), lv2, 143, 1, hG, rfl, h, by decide, rg_in rfl (List.mem_of_getElem? (i := 482) rfl), rg_in rfl (by decide +kernel), ⟨by decide, by decide, by decide +kernel⟩, Or.inr ⟨"ReadGraph", rg_inN rfl (by decide +kernel)⟩, Or.inr ⟨rfl, rfl, rg_in rfl (by decide +kernel), rg_inS rfl (by decide +kernel), fun as w K h => by obtain ⟨r, rfl⟩ := hr as w K h; exact ⟨13, 3, _, Tn_W, 7, r, rfl, rfl, rfl⟩⟩⟩
set_option maxRecDepth 20000 in
theorem cw_G_147 {l : Launch} {T : rg_T} {lv lv2 : Nat} (hG : rg_Good l y_W_edgeAt c_W_edgeAt 3 (some .int) lv2 T) (h : lv2 + 1 ≤ lv) (hr : ∀ as w K, T as w K → ∃ r, as = .ref 13 :: r) : rg_CallOk l "ReadGraph" lv (295, 3, 0, T) :=
  Or.inl ⟨y_W_edgeAt, c_W_edgeAt, 3, (some .int), lv2, 147, 2, hG, rfl, h, by decide, rg_in rfl (List.mem_of_getElem? (i := 487) rfl), rg_in rfl (by decide +kernel), ⟨by decide, by decide, by decide +kernel⟩, Or.inr ⟨"ReadGraph", rg_inN rfl (by decide +kernel)⟩, Or.inr ⟨rfl, rfl, rg_in rfl (by decide +kernel), rg_inS rfl (by decide +kernel), fun as w K h => by obtain ⟨r, rfl⟩ := hr as w K h; exact ⟨13, 3, _, Tn_W, 7, r, rfl, rfl, rfl⟩⟩⟩
set_option maxRecDepth 20000 in
theorem cw_G_150 {l : Launch} {T : rg_T} {lv lv2 : Nat} (hG : rg_Good l y_G_spelledLength c_G_spelledLength 4 (some .int) lv2 T) (h : lv2 + 1 ≤ lv) (hr : ∀ as w K, T as w K → ∃ r, as = .ref 0 :: r) : rg_CallOk l "ReadGraph" lv (301, 2, 0, T) :=
  Or.inl ⟨y_G_spelledLength, c_G_spelledLength, 4, (some .int), lv2, 150, 1, hG, rfl, h, by decide, rg_in rfl (List.mem_of_getElem? (i := 498) rfl), rg_in rfl (by decide +kernel), ⟨by decide, by decide, by decide +kernel⟩, Or.inl (rg_in rfl (by decide +kernel)), Or.inr ⟨rfl, rfl, rg_in rfl (by decide +kernel), rg_inS rfl (by decide +kernel), fun as w K h => by obtain ⟨r, rfl⟩ := hr as w K h; exact ⟨0, 0, _, Tn_G, 3, r, rfl, rfl, rfl⟩⟩⟩
set_option maxRecDepth 20000 in
theorem cw_G_154 {l : Launch} {T : rg_T} {lv lv2 : Nat} (hG : rg_Good l y_G_spelledLetter c_G_spelledLetter 8 (some .int) lv2 T) (h : lv2 + 1 ≤ lv) (hr : ∀ as w K, T as w K → ∃ r, as = .ref 0 :: r) : rg_CallOk l "ReadGraph" lv (309, 3, 0, T) :=
  Or.inl ⟨y_G_spelledLetter, c_G_spelledLetter, 8, (some .int), lv2, 154, 2, hG, rfl, h, by decide, rg_in rfl (List.mem_of_getElem? (i := 502) rfl), rg_in rfl (by decide +kernel), ⟨by decide, by decide, by decide +kernel⟩, Or.inl (rg_in rfl (by decide +kernel)), Or.inr ⟨rfl, rfl, rg_in rfl (by decide +kernel), rg_inS rfl (by decide +kernel), fun as w K h => by obtain ⟨r, rfl⟩ := hr as w K h; exact ⟨0, 0, _, Tn_G, 3, r, rfl, rfl, rfl⟩⟩⟩
set_option maxRecDepth 20000 in
theorem cw_G_157 {l : Launch} {T : rg_T} {lv lv2 : Nat} (hG : rg_Good l y_E_forget c_E_forget 2 none lv2 T) (h : lv2 + 1 ≤ lv) (hr : ∀ as w K, T as w K → ∃ r, as = .ref 4 :: r) : rg_CallOk l "ReadGraph" lv (315, 1, 0, T) :=
  Or.inl ⟨y_E_forget, c_E_forget, 2, none, lv2, 157, 0, hG, rfl, h, by decide, rg_in rfl (List.mem_of_getElem? (i := 144) rfl), rg_in rfl (by decide +kernel), ⟨by decide, by decide, by decide +kernel⟩, Or.inr ⟨"ReadGraph", rg_inN rfl (by decide +kernel)⟩, Or.inr ⟨rfl, rfl, rg_in rfl (by decide +kernel), rg_inS rfl (by decide +kernel), fun as w K h => by obtain ⟨r, rfl⟩ := hr as w K h; exact ⟨4, 2, _, Tn_E, 11, r, rfl, rfl, rfl⟩⟩⟩
set_option maxRecDepth 20000 in
theorem cw_G_160 {l : Launch} {T : rg_T} {lv lv2 : Nat} (hG : rg_Good l y_G_packedEdge c_G_packedEdge 4 (some .int) lv2 T) (h : lv2 + 1 ≤ lv) : rg_CallOk l "ReadGraph" lv (320, 3, 0, T) :=
  Or.inl ⟨y_G_packedEdge, c_G_packedEdge, 4, (some .int), lv2, 160, 3, hG, rfl, h, by decide, rg_in rfl (List.mem_of_getElem? (i := 420) rfl), rg_in rfl (by decide +kernel), ⟨by decide, by decide, by decide +kernel⟩, Or.inl (rg_in rfl (by decide +kernel)), Or.inl ⟨rfl, rfl, rg_in rfl (by decide +kernel)⟩⟩
set_option maxRecDepth 20000 in
theorem cw_G_164 {l : Launch} {T : rg_T} {lv lv2 : Nat} (hG : rg_Good l y_E_isPassedBy c_E_isPassedBy 6 (some .boolean) lv2 T) (h : lv2 + 1 ≤ lv) (hr : ∀ as w K, T as w K → ∃ r, as = .ref 4 :: r) : rg_CallOk l "ReadGraph" lv (329, 3, 0, T) :=
  Or.inl ⟨y_E_isPassedBy, c_E_isPassedBy, 6, (some .boolean), lv2, 164, 2, hG, rfl, h, by decide, rg_in rfl (List.mem_of_getElem? (i := 429) rfl), rg_in rfl (by decide +kernel), ⟨by decide, by decide, by decide +kernel⟩, Or.inr ⟨"ReadGraph", rg_inN rfl (by decide +kernel)⟩, Or.inr ⟨rfl, rfl, rg_in rfl (by decide +kernel), rg_inS rfl (by decide +kernel), fun as w K h => by obtain ⟨r, rfl⟩ := hr as w K h; exact ⟨4, 2, _, Tn_E, 11, r, rfl, rfl, rfl⟩⟩⟩
set_option maxRecDepth 20000 in
theorem cw_R_22 {l : Launch} {T : rg_T} {lv lv2 : Nat} (hG : rg_Good l y_R_lowest c_R_lowest 2 (some .int) lv2 T) (h : lv2 + 1 ≤ lv) : rg_CallOk l "ReadGraph$Reads" lv (44, 2, 0, T) :=
  Or.inl ⟨y_R_lowest, c_R_lowest, 2, (some .int), lv2, 22, 2, hG, rfl, h, by decide, rg_in rfl (List.mem_of_getElem? (i := 266) rfl), rg_in rfl (by decide +kernel), ⟨by decide, by decide, by decide +kernel⟩, Or.inl (rg_in rfl (by decide +kernel)), Or.inl ⟨rfl, rfl, rg_in rfl (by decide +kernel)⟩⟩
set_option maxRecDepth 20000 in
theorem cw_R_26 {l : Launch} {T : rg_T} {lv lv2 : Nat} (hG : rg_Good l y_R_has c_R_has 2 (some .boolean) lv2 T) (h : lv2 + 1 ≤ lv) (hr : ∀ as w K, T as w K → ∃ r, as = .ref 1 :: r) : rg_CallOk l "ReadGraph$Reads" lv (53, 2, 0, T) :=
  Or.inl ⟨y_R_has, c_R_has, 2, (some .boolean), lv2, 26, 1, hG, rfl, h, by decide, rg_in rfl (List.mem_of_getElem? (i := 278) rfl), rg_in rfl (by decide +kernel), ⟨by decide, by decide, by decide +kernel⟩, Or.inl (rg_in rfl (by decide +kernel)), Or.inr ⟨rfl, rfl, rg_in rfl (by decide +kernel), rg_inS rfl (by decide +kernel), fun as w K h => by obtain ⟨r, rfl⟩ := hr as w K h; exact ⟨1, 1, _, Tn_R, 3, r, rfl, rfl, rfl⟩⟩⟩
set_option maxRecDepth 20000 in
theorem cw_R_30 {l : Launch} {T : rg_T} {lv lv2 : Nat} (hG : rg_Good l y_R_isSaidBy c_R_isSaidBy 4 (some .boolean) lv2 T) (h : lv2 + 1 ≤ lv) (hr : ∀ as w K, T as w K → ∃ r, as = .ref 1 :: r) : rg_CallOk l "ReadGraph$Reads" lv (61, 3, 0, T) :=
  Or.inl ⟨y_R_isSaidBy, c_R_isSaidBy, 4, (some .boolean), lv2, 30, 2, hG, rfl, h, by decide, rg_in rfl (List.mem_of_getElem? (i := 315) rfl), rg_in rfl (by decide +kernel), ⟨by decide, by decide, by decide +kernel⟩, Or.inl (rg_in rfl (by decide +kernel)), Or.inr ⟨rfl, rfl, rg_in rfl (by decide +kernel), rg_inS rfl (by decide +kernel), fun as w K h => by obtain ⟨r, rfl⟩ := hr as w K h; exact ⟨1, 1, _, Tn_R, 3, r, rfl, rfl, rfl⟩⟩⟩
theorem cw_R_34 {l : Launch} {lv : Nat} (h : 1 ≤ lv) : rg_CallOk l "ReadGraph$Reads" lv (68, 2, 0, T_J_min) := Or.inr ⟨34, rfl, rfl, rfl, rfl, h, rg_in rfl (by decide +kernel), rg_in rfl (by decide +kernel), rg_in rfl (by decide +kernel), rg_in rfl (by decide +kernel)⟩
set_option maxRecDepth 20000 in
theorem cw_E_46 {l : Launch} {T : rg_T} {lv lv2 : Nat} (hG : rg_Good l y_E_findNodes c_E_findNodes 3 none lv2 T) (h : lv2 + 1 ≤ lv) (hr : ∀ as w K, T as w K → ∃ r, as = .ref 4 :: r) : rg_CallOk l "ReadGraph$Edges" lv (93, 2, 0, T) :=
  Or.inl ⟨y_E_findNodes, c_E_findNodes, 3, none, lv2, 46, 1, hG, rfl, h, by decide, rg_in rfl (List.mem_of_getElem? (i := 349) rfl), rg_in rfl (by decide +kernel), ⟨by decide, by decide, by decide +kernel⟩, Or.inl (rg_in rfl (by decide +kernel)), Or.inr ⟨rfl, rfl, rg_in rfl (by decide +kernel), rg_inS rfl (by decide +kernel), fun as w K h => by obtain ⟨r, rfl⟩ := hr as w K h; exact ⟨4, 2, _, Tn_E, 11, r, rfl, rfl, rfl⟩⟩⟩
set_option maxRecDepth 20000 in
theorem cw_E_50 {l : Launch} {T : rg_T} {lv lv2 : Nat} (hG : rg_Good l y_E_layAll c_E_layAll 6 none lv2 T) (h : lv2 + 1 ≤ lv) (hr : ∀ as w K, T as w K → ∃ r, as = .ref 4 :: r) : rg_CallOk l "ReadGraph$Edges" lv (101, 3, 0, T) :=
  Or.inl ⟨y_E_layAll, c_E_layAll, 6, none, lv2, 50, 2, hG, rfl, h, by decide, rg_in rfl (List.mem_of_getElem? (i := 354) rfl), rg_in rfl (by decide +kernel), ⟨by decide, by decide, by decide +kernel⟩, Or.inl (rg_in rfl (by decide +kernel)), Or.inr ⟨rfl, rfl, rg_in rfl (by decide +kernel), rg_inS rfl (by decide +kernel), fun as w K h => by obtain ⟨r, rfl⟩ := hr as w K h; exact ⟨4, 2, _, Tn_E, 11, r, rfl, rfl, rfl⟩⟩⟩
set_option maxRecDepth 20000 in
theorem cw_E_54 {l : Launch} {T : rg_T} {lv lv2 : Nat} (hG : rg_Good l y_E_keepUnsaid c_E_keepUnsaid 4 none lv2 T) (h : lv2 + 1 ≤ lv) (hr : ∀ as w K, T as w K → ∃ r, as = .ref 4 :: r) : rg_CallOk l "ReadGraph$Edges" lv (109, 2, 0, T) :=
  Or.inl ⟨y_E_keepUnsaid, c_E_keepUnsaid, 4, none, lv2, 54, 1, hG, rfl, h, by decide, rg_in rfl (List.mem_of_getElem? (i := 359) rfl), rg_in rfl (by decide +kernel), ⟨by decide, by decide, by decide +kernel⟩, Or.inl (rg_in rfl (by decide +kernel)), Or.inr ⟨rfl, rfl, rg_in rfl (by decide +kernel), rg_inS rfl (by decide +kernel), fun as w K h => by obtain ⟨r, rfl⟩ := hr as w K h; exact ⟨4, 2, _, Tn_E, 11, r, rfl, rfl, rfl⟩⟩⟩
set_option maxRecDepth 20000 in
theorem cw_E_58 {l : Launch} {T : rg_T} {lv lv2 : Nat} (hG : rg_Good l y_E_findReached c_E_findReached 3 none lv2 T) (h : lv2 + 1 ≤ lv) (hr : ∀ as w K, T as w K → ∃ r, as = .ref 4 :: r) : rg_CallOk l "ReadGraph$Edges" lv (117, 1, 0, T) :=
  Or.inl ⟨y_E_findReached, c_E_findReached, 3, none, lv2, 58, 0, hG, rfl, h, by decide, rg_in rfl (List.mem_of_getElem? (i := 367) rfl), rg_in rfl (by decide +kernel), ⟨by decide, by decide, by decide +kernel⟩, Or.inl (rg_in rfl (by decide +kernel)), Or.inr ⟨rfl, rfl, rg_in rfl (by decide +kernel), rg_inS rfl (by decide +kernel), fun as w K h => by obtain ⟨r, rfl⟩ := hr as w K h; exact ⟨4, 2, _, Tn_E, 11, r, rfl, rfl, rfl⟩⟩⟩
set_option maxRecDepth 20000 in
theorem cw_E_61 {l : Launch} {T : rg_T} {lv lv2 : Nat} (hG : rg_Good l y_R_isNode c_R_isNode 3 (some .boolean) lv2 T) (h : lv2 + 1 ≤ lv) (hr : ∀ as w K, T as w K → ∃ r, as = .ref 1 :: r) : rg_CallOk l "ReadGraph$Edges" lv (123, 2, 0, T) :=
  Or.inl ⟨y_R_isNode, c_R_isNode, 3, (some .boolean), lv2, 61, 1, hG, rfl, h, by decide, rg_in rfl (List.mem_of_getElem? (i := 310) rfl), rg_in rfl (by decide +kernel), ⟨by decide, by decide, by decide +kernel⟩, Or.inr ⟨"ReadGraph", rg_inN rfl (by decide +kernel)⟩, Or.inr ⟨rfl, rfl, rg_in rfl (by decide +kernel), rg_inS rfl (by decide +kernel), fun as w K h => by obtain ⟨r, rfl⟩ := hr as w K h; exact ⟨1, 1, _, Tn_R, 3, r, rfl, rfl, rfl⟩⟩⟩
set_option maxRecDepth 20000 in
theorem cw_E_67 {l : Launch} {T : rg_T} {lv lv2 : Nat} (hG : rg_Good l y_G_holds c_G_holds 2 (some .boolean) lv2 T) (h : lv2 + 1 ≤ lv) : rg_CallOk l "ReadGraph$Edges" lv (134, 2, 0, T) :=
  Or.inl ⟨y_G_holds, c_G_holds, 2, (some .boolean), lv2, 67, 2, hG, rfl, h, by decide, rg_in rfl (List.mem_of_getElem? (i := 159) rfl), rg_in rfl (by decide +kernel), ⟨by decide, by decide, by decide +kernel⟩, Or.inr ⟨"ReadGraph", rg_inN rfl (by decide +kernel)⟩, Or.inl ⟨rfl, rfl, rg_in rfl (by decide +kernel)⟩⟩
set_option maxRecDepth 20000 in
theorem cw_E_71 {l : Launch} {T : rg_T} {lv lv2 : Nat} (hG : rg_Good l y_R_lettersShared c_R_lettersShared 5 (some .int) lv2 T) (h : lv2 + 1 ≤ lv) (hr : ∀ as w K, T as w K → ∃ r, as = .ref 1 :: r) : rg_CallOk l "ReadGraph$Edges" lv (143, 4, 0, T) :=
  Or.inl ⟨y_R_lettersShared, c_R_lettersShared, 5, (some .int), lv2, 71, 3, hG, rfl, h, by decide, rg_in rfl (List.mem_of_getElem? (i := 331) rfl), rg_in rfl (by decide +kernel), ⟨by decide, by decide, by decide +kernel⟩, Or.inr ⟨"ReadGraph", rg_inN rfl (by decide +kernel)⟩, Or.inr ⟨rfl, rfl, rg_in rfl (by decide +kernel), rg_inS rfl (by decide +kernel), fun as w K h => by obtain ⟨r, rfl⟩ := hr as w K h; exact ⟨1, 1, _, Tn_R, 3, r, rfl, rfl, rfl⟩⟩⟩
set_option maxRecDepth 20000 in
theorem cw_E_78 {l : Launch} {T : rg_T} {lv lv2 : Nat} (hG : rg_Good l y_E_isSaid c_E_isSaid 7 (some .boolean) lv2 T) (h : lv2 + 1 ≤ lv) (hr : ∀ as w K, T as w K → ∃ r, as = .ref 4 :: r) : rg_CallOk l "ReadGraph$Edges" lv (157, 4, 0, T) :=
  Or.inl ⟨y_E_isSaid, c_E_isSaid, 7, (some .boolean), lv2, 78, 3, hG, rfl, h, by decide, rg_in rfl (List.mem_of_getElem? (i := 363) rfl), rg_in rfl (by decide +kernel), ⟨by decide, by decide, by decide +kernel⟩, Or.inl (rg_in rfl (by decide +kernel)), Or.inr ⟨rfl, rfl, rg_in rfl (by decide +kernel), rg_inS rfl (by decide +kernel), fun as w K h => by obtain ⟨r, rfl⟩ := hr as w K h; exact ⟨4, 2, _, Tn_E, 11, r, rfl, rfl, rfl⟩⟩⟩
set_option maxRecDepth 20000 in
theorem cw_E_82 {l : Launch} {T : rg_T} {lv lv2 : Nat} (hG : rg_Good l y_J_bitCount c_J_bitCount 1 (some .int) lv2 T) (h : lv2 + 1 ≤ lv) : rg_CallOk l "ReadGraph$Edges" lv (164, 1, 0, T) :=
  Or.inl ⟨y_J_bitCount, c_J_bitCount, 1, (some .int), lv2, 82, 1, hG, rfl, h, by decide, rg_in rfl (List.mem_of_getElem? (i := 162) rfl), rg_in rfl (by decide +kernel), ⟨by decide, by decide, by decide +kernel⟩, Or.inl (rg_in rfl (by decide +kernel)), Or.inl ⟨rfl, rfl, rg_in rfl (by decide +kernel)⟩⟩
set_option maxRecDepth 20000 in
theorem cw_W_39 {l : Launch} {T : rg_T} {lv lv2 : Nat} (hG : rg_Good l y_W_stepOn c_W_stepOn 2 none lv2 T) (h : lv2 + 1 ≤ lv) (hr : ∀ as w K, T as w K → ∃ r, as = .ref 13 :: r) : rg_CallOk l "ReadGraph$Walks" lv (79, 2, 0, T) :=
  Or.inl ⟨y_W_stepOn, c_W_stepOn, 2, none, lv2, 39, 1, hG, rfl, h, by decide, rg_in rfl (List.mem_of_getElem? (i := 445) rfl), rg_in rfl (by decide +kernel), ⟨by decide, by decide, by decide +kernel⟩, Or.inl (rg_in rfl (by decide +kernel)), Or.inr ⟨rfl, rfl, rg_in rfl (by decide +kernel), rg_inS rfl (by decide +kernel), fun as w K h => by obtain ⟨r, rfl⟩ := hr as w K h; exact ⟨13, 3, _, Tn_W, 7, r, rfl, rfl, rfl⟩⟩⟩
set_option maxRecDepth 20000 in
theorem cw_W_43 {l : Launch} {T : rg_T} {lv lv2 : Nat} (hG : rg_Good l y_W_findFrom c_W_findFrom 5 (some .int) lv2 T) (h : lv2 + 1 ≤ lv) (hr : ∀ as w K, T as w K → ∃ r, as = .ref 13 :: r) : rg_CallOk l "ReadGraph$Walks" lv (87, 2, 0, T) :=
  Or.inl ⟨y_W_findFrom, c_W_findFrom, 5, (some .int), lv2, 43, 1, hG, rfl, h, by decide, rg_in rfl (List.mem_of_getElem? (i := 449) rfl), rg_in rfl (by decide +kernel), ⟨by decide, by decide, by decide +kernel⟩, Or.inl (rg_in rfl (by decide +kernel)), Or.inr ⟨rfl, rfl, rg_in rfl (by decide +kernel), rg_inS rfl (by decide +kernel), fun as w K h => by obtain ⟨r, rfl⟩ := hr as w K h; exact ⟨13, 3, _, Tn_W, 7, r, rfl, rfl, rfl⟩⟩⟩
set_option maxRecDepth 20000 in
theorem cw_W_47 {l : Launch} {T : rg_T} {lv lv2 : Nat} (hG : rg_Good l y_W_nextBehind c_W_nextBehind 3 (some .int) lv2 T) (h : lv2 + 1 ≤ lv) (hr : ∀ as w K, T as w K → ∃ r, as = .ref 13 :: r) : rg_CallOk l "ReadGraph$Walks" lv (95, 1, 0, T) :=
  Or.inl ⟨y_W_nextBehind, c_W_nextBehind, 3, (some .int), lv2, 47, 0, hG, rfl, h, by decide, rg_in rfl (List.mem_of_getElem? (i := 453) rfl), rg_in rfl (by decide +kernel), ⟨by decide, by decide, by decide +kernel⟩, Or.inl (rg_in rfl (by decide +kernel)), Or.inr ⟨rfl, rfl, rg_in rfl (by decide +kernel), rg_inS rfl (by decide +kernel), fun as w K h => by obtain ⟨r, rfl⟩ := hr as w K h; exact ⟨13, 3, _, Tn_W, 7, r, rfl, rfl, rfl⟩⟩⟩
set_option maxRecDepth 20000 in
theorem cw_W_51 {l : Launch} {T : rg_T} {lv lv2 : Nat} (hG : rg_Good l y_W_hasBefore c_W_hasBefore 2 (some .boolean) lv2 T) (h : lv2 + 1 ≤ lv) (hr : ∀ as w K, T as w K → ∃ r, as = .ref 13 :: r) : rg_CallOk l "ReadGraph$Walks" lv (103, 1, 0, T) :=
  Or.inl ⟨y_W_hasBefore, c_W_hasBefore, 2, (some .boolean), lv2, 51, 0, hG, rfl, h, by decide, rg_in rfl (List.mem_of_getElem? (i := 462) rfl), rg_in rfl (by decide +kernel), ⟨by decide, by decide, by decide +kernel⟩, Or.inl (rg_in rfl (by decide +kernel)), Or.inr ⟨rfl, rfl, rg_in rfl (by decide +kernel), rg_inS rfl (by decide +kernel), fun as w K h => by obtain ⟨r, rfl⟩ := hr as w K h; exact ⟨13, 3, _, Tn_W, 7, r, rfl, rfl, rfl⟩⟩⟩
set_option maxRecDepth 20000 in
theorem cw_W_55 {l : Launch} {T : rg_T} {lv lv2 : Nat} (hG : rg_Good l y_W_keepTrail c_W_keepTrail 2 (some .boolean) lv2 T) (h : lv2 + 1 ≤ lv) (hr : ∀ as w K, T as w K → ∃ r, as = .ref 13 :: r) : rg_CallOk l "ReadGraph$Walks" lv (111, 1, 0, T) :=
  Or.inl ⟨y_W_keepTrail, c_W_keepTrail, 2, (some .boolean), lv2, 55, 0, hG, rfl, h, by decide, rg_in rfl (List.mem_of_getElem? (i := 470) rfl), rg_in rfl (by decide +kernel), ⟨by decide, by decide, by decide +kernel⟩, Or.inl (rg_in rfl (by decide +kernel)), Or.inr ⟨rfl, rfl, rg_in rfl (by decide +kernel), rg_inS rfl (by decide +kernel), fun as w K h => by obtain ⟨r, rfl⟩ := hr as w K h; exact ⟨13, 3, _, Tn_W, 7, r, rfl, rfl, rfl⟩⟩⟩
set_option maxRecDepth 20000 in
theorem cw_W_64 {l : Launch} {T : rg_T} {lv lv2 : Nat} (hG : rg_Good l y_W_staysSafeBehind c_W_staysSafeBehind 3 (some .boolean) lv2 T) (h : lv2 + 1 ≤ lv) (hr : ∀ as w K, T as w K → ∃ r, as = .ref 13 :: r) : rg_CallOk l "ReadGraph$Walks" lv (129, 2, 0, T) :=
  Or.inl ⟨y_W_staysSafeBehind, c_W_staysSafeBehind, 3, (some .boolean), lv2, 64, 1, hG, rfl, h, by decide, rg_in rfl (List.mem_of_getElem? (i := 457) rfl), rg_in rfl (by decide +kernel), ⟨by decide, by decide, by decide +kernel⟩, Or.inl (rg_in rfl (by decide +kernel)), Or.inr ⟨rfl, rfl, rg_in rfl (by decide +kernel), rg_inS rfl (by decide +kernel), fun as w K h => by obtain ⟨r, rfl⟩ := hr as w K h; exact ⟨13, 3, _, Tn_W, 7, r, rfl, rfl, rfl⟩⟩⟩
set_option maxRecDepth 20000 in
theorem cw_W_68 {l : Launch} {T : rg_T} {lv lv2 : Nat} (hG : rg_Good l y_E_isPassedBy c_E_isPassedBy 6 (some .boolean) lv2 T) (h : lv2 + 1 ≤ lv) (hr : ∀ as w K, T as w K → ∃ r, as = .ref 4 :: r) : rg_CallOk l "ReadGraph$Walks" lv (137, 3, 0, T) :=
  Or.inl ⟨y_E_isPassedBy, c_E_isPassedBy, 6, (some .boolean), lv2, 68, 2, hG, rfl, h, by decide, rg_in rfl (List.mem_of_getElem? (i := 429) rfl), rg_in rfl (by decide +kernel), ⟨by decide, by decide, by decide +kernel⟩, Or.inr ⟨"ReadGraph", rg_inN rfl (by decide +kernel)⟩, Or.inr ⟨rfl, rfl, rg_in rfl (by decide +kernel), rg_inS rfl (by decide +kernel), fun as w K h => by obtain ⟨r, rfl⟩ := hr as w K h; exact ⟨4, 2, _, Tn_E, 11, r, rfl, rfl, rfl⟩⟩⟩
set_option maxRecDepth 20000 in
theorem cw_W_75 {l : Launch} {T : rg_T} {lv lv2 : Nat} (hG : rg_Good l y_W_staysSafeBefore c_W_staysSafeBefore 3 (some .boolean) lv2 T) (h : lv2 + 1 ≤ lv) (hr : ∀ as w K, T as w K → ∃ r, as = .ref 13 :: r) : rg_CallOk l "ReadGraph$Walks" lv (151, 2, 0, T) :=
  Or.inl ⟨y_W_staysSafeBefore, c_W_staysSafeBefore, 3, (some .boolean), lv2, 75, 1, hG, rfl, h, by decide, rg_in rfl (List.mem_of_getElem? (i := 466) rfl), rg_in rfl (by decide +kernel), ⟨by decide, by decide, by decide +kernel⟩, Or.inl (rg_in rfl (by decide +kernel)), Or.inr ⟨rfl, rfl, rg_in rfl (by decide +kernel), rg_inS rfl (by decide +kernel), fun as w K h => by obtain ⟨r, rfl⟩ := hr as w K h; exact ⟨13, 3, _, Tn_W, 7, r, rfl, rfl, rfl⟩⟩⟩
set_option maxRecDepth 20000 in
theorem cw_M_69 {l : Launch} {T : rg_T} {lv lv2 : Nat} (hG : rg_Good l y_M_same c_M_same 8 (some .boolean) lv2 T) (h : lv2 + 1 ≤ lv) (hr : ∀ as w K, T as w K → ∃ r, as = .ref 18 :: r) : rg_CallOk l "ReadGraphModel" lv (139, 6, 0, T) :=
  Or.inl ⟨y_M_same, c_M_same, 8, (some .boolean), lv2, 69, 5, hG, rfl, h, by decide, rg_in rfl (List.mem_of_getElem? (i := 597) rfl), rg_in rfl (by decide +kernel), ⟨by decide, by decide, by decide +kernel⟩, Or.inl (rg_in rfl (by decide +kernel)), Or.inr ⟨rfl, rfl, rg_in rfl (by decide +kernel), rg_inS rfl (by decide +kernel), fun as w K h => by obtain ⟨r, rfl⟩ := hr as w K h; exact ⟨18, 4, _, Tn_M, 20, r, rfl, rfl, rfl⟩⟩⟩
set_option maxRecDepth 20000 in
theorem cw_M_73 {l : Launch} {T : rg_T} {lv lv2 : Nat} (hG : rg_Good l y_M_out c_M_out 2 (some .boolean) lv2 T) (h : lv2 + 1 ≤ lv) : rg_CallOk l "ReadGraphModel" lv (146, 2, 0, T) :=
  Or.inl ⟨y_M_out, c_M_out, 2, (some .boolean), lv2, 73, 2, hG, rfl, h, by decide, rg_in rfl (List.mem_of_getElem? (i := 581) rfl), rg_in rfl (by decide +kernel), ⟨by decide, by decide, by decide +kernel⟩, Or.inl (rg_in rfl (by decide +kernel)), Or.inl ⟨rfl, rfl, rg_in rfl (by decide +kernel)⟩⟩
set_option maxRecDepth 20000 in
theorem cw_M_80 {l : Launch} {T : rg_T} {lv lv2 : Nat} (hG : rg_Good l y_M_throwing c_M_throwing 3 (some .boolean) lv2 T) (h : lv2 + 1 ≤ lv) (hr : ∀ as w K, T as w K → ∃ r, as = .ref 18 :: r) : rg_CallOk l "ReadGraphModel" lv (161, 3, 0, T) :=
  Or.inl ⟨y_M_throwing, c_M_throwing, 3, (some .boolean), lv2, 80, 2, hG, rfl, h, by decide, rg_in rfl (List.mem_of_getElem? (i := 585) rfl), rg_in rfl (by decide +kernel), ⟨by decide, by decide, by decide +kernel⟩, Or.inl (rg_in rfl (by decide +kernel)), Or.inr ⟨rfl, rfl, rg_in rfl (by decide +kernel), rg_inS rfl (by decide +kernel), fun as w K h => by obtain ⟨r, rfl⟩ := hr as w K h; exact ⟨18, 4, _, Tn_M, 20, r, rfl, rfl, rfl⟩⟩⟩
set_option maxRecDepth 20000 in
theorem cw_M_84 {l : Launch} {T : rg_T} {lv lv2 : Nat} (hG : rg_Good l y_M_again c_M_again 2 none lv2 T) (h : lv2 + 1 ≤ lv) (hr : ∀ as w K, T as w K → ∃ r, as = .ref 18 :: r) : rg_CallOk l "ReadGraphModel" lv (169, 1, 0, T) :=
  Or.inl ⟨y_M_again, c_M_again, 2, none, lv2, 84, 0, hG, rfl, h, by decide, rg_in rfl (List.mem_of_getElem? (i := 589) rfl), rg_in rfl (by decide +kernel), ⟨by decide, by decide, by decide +kernel⟩, Or.inl (rg_in rfl (by decide +kernel)), Or.inr ⟨rfl, rfl, rg_in rfl (by decide +kernel), rg_inS rfl (by decide +kernel), fun as w K h => by obtain ⟨r, rfl⟩ := hr as w K h; exact ⟨18, 4, _, Tn_M, 20, r, rfl, rfl, rfl⟩⟩⟩
set_option maxRecDepth 20000 in
theorem cw_M_87 {l : Launch} {T : rg_T} {lv lv2 : Nat} (hG : rg_Good l y_M_isIn c_M_isIn 5 (some .boolean) lv2 T) (h : lv2 + 1 ≤ lv) (hr : ∀ as w K, T as w K → ∃ r, as = .ref 18 :: r) : rg_CallOk l "ReadGraphModel" lv (175, 3, 0, T) :=
  Or.inl ⟨y_M_isIn, c_M_isIn, 5, (some .boolean), lv2, 87, 2, hG, rfl, h, by decide, rg_in rfl (List.mem_of_getElem? (i := 593) rfl), rg_in rfl (by decide +kernel), ⟨by decide, by decide, by decide +kernel⟩, Or.inl (rg_in rfl (by decide +kernel)), Or.inr ⟨rfl, rfl, rg_in rfl (by decide +kernel), rg_inS rfl (by decide +kernel), fun as w K h => by obtain ⟨r, rfl⟩ := hr as w K h; exact ⟨18, 4, _, Tn_M, 20, r, rfl, rfl, rfl⟩⟩⟩
set_option maxRecDepth 20000 in
theorem cw_M_90 {l : Launch} {T : rg_T} {lv lv2 : Nat} (hG : rg_Good l y_M_isNode c_M_isNode 2 (some .boolean) lv2 T) (h : lv2 + 1 ≤ lv) (hr : ∀ as w K, T as w K → ∃ r, as = .ref 18 :: r) : rg_CallOk l "ReadGraphModel" lv (181, 2, 0, T) :=
  Or.inl ⟨y_M_isNode, c_M_isNode, 2, (some .boolean), lv2, 90, 1, hG, rfl, h, by decide, rg_in rfl (List.mem_of_getElem? (i := 617) rfl), rg_in rfl (by decide +kernel), ⟨by decide, by decide, by decide +kernel⟩, Or.inl (rg_in rfl (by decide +kernel)), Or.inr ⟨rfl, rfl, rg_in rfl (by decide +kernel), rg_inS rfl (by decide +kernel), fun as w K h => by obtain ⟨r, rfl⟩ := hr as w K h; exact ⟨18, 4, _, Tn_M, 20, r, rfl, rfl, rfl⟩⟩⟩
set_option maxRecDepth 20000 in
theorem cw_M_94 {l : Launch} {T : rg_T} {lv lv2 : Nat} (hG : rg_Good l y_M_overlapOf c_M_overlapOf 6 (some .int) lv2 T) (h : lv2 + 1 ≤ lv) (hr : ∀ as w K, T as w K → ∃ r, as = .ref 18 :: r) : rg_CallOk l "ReadGraphModel" lv (189, 4, 0, T) :=
  Or.inl ⟨y_M_overlapOf, c_M_overlapOf, 6, (some .int), lv2, 94, 3, hG, rfl, h, by decide, rg_in rfl (List.mem_of_getElem? (i := 621) rfl), rg_in rfl (by decide +kernel), ⟨by decide, by decide, by decide +kernel⟩, Or.inl (rg_in rfl (by decide +kernel)), Or.inr ⟨rfl, rfl, rg_in rfl (by decide +kernel), rg_inS rfl (by decide +kernel), fun as w K h => by obtain ⟨r, rfl⟩ := hr as w K h; exact ⟨18, 4, _, Tn_M, 20, r, rfl, rfl, rfl⟩⟩⟩
set_option maxRecDepth 20000 in
theorem cw_M_98 {l : Launch} {T : rg_T} {lv lv2 : Nat} (hG : rg_Good l y_M_between c_M_between 4 (some .int) lv2 T) (h : lv2 + 1 ≤ lv) (hr : ∀ as w K, T as w K → ∃ r, as = .ref 18 :: r) : rg_CallOk l "ReadGraphModel" lv (197, 3, 0, T) :=
  Or.inl ⟨y_M_between, c_M_between, 4, (some .int), lv2, 98, 2, hG, rfl, h, by decide, rg_in rfl (List.mem_of_getElem? (i := 633) rfl), rg_in rfl (by decide +kernel), ⟨by decide, by decide, by decide +kernel⟩, Or.inl (rg_in rfl (by decide +kernel)), Or.inr ⟨rfl, rfl, rg_in rfl (by decide +kernel), rg_inS rfl (by decide +kernel), fun as w K h => by obtain ⟨r, rfl⟩ := hr as w K h; exact ⟨18, 4, _, Tn_M, 20, r, rfl, rfl, rfl⟩⟩⟩
set_option maxRecDepth 20000 in
theorem cw_M_102 {l : Launch} {T : rg_T} {lv lv2 : Nat} (hG : rg_Good l y_M_isSaid c_M_isSaid 9 (some .boolean) lv2 T) (h : lv2 + 1 ≤ lv) (hr : ∀ as w K, T as w K → ∃ r, as = .ref 18 :: r) : rg_CallOk l "ReadGraphModel" lv (205, 2, 0, T) :=
  Or.inl ⟨y_M_isSaid, c_M_isSaid, 9, (some .boolean), lv2, 102, 1, hG, rfl, h, by decide, rg_in rfl (List.mem_of_getElem? (i := 629) rfl), rg_in rfl (by decide +kernel), ⟨by decide, by decide, by decide +kernel⟩, Or.inl (rg_in rfl (by decide +kernel)), Or.inr ⟨rfl, rfl, rg_in rfl (by decide +kernel), rg_inS rfl (by decide +kernel), fun as w K h => by obtain ⟨r, rfl⟩ := hr as w K h; exact ⟨18, 4, _, Tn_M, 20, r, rfl, rfl, rfl⟩⟩⟩
set_option maxRecDepth 20000 in
theorem cw_M_105 {l : Launch} {T : rg_T} {lv lv2 : Nat} (hG : rg_Good l y_M_spread c_M_spread 4 none lv2 T) (h : lv2 + 1 ≤ lv) (hr : ∀ as w K, T as w K → ∃ r, as = .ref 18 :: r) : rg_CallOk l "ReadGraphModel" lv (211, 1, 0, T) :=
  Or.inl ⟨y_M_spread, c_M_spread, 4, none, lv2, 105, 0, hG, rfl, h, by decide, rg_in rfl (List.mem_of_getElem? (i := 637) rfl), rg_in rfl (by decide +kernel), ⟨by decide, by decide, by decide +kernel⟩, Or.inl (rg_in rfl (by decide +kernel)), Or.inr ⟨rfl, rfl, rg_in rfl (by decide +kernel), rg_inS rfl (by decide +kernel), fun as w K h => by obtain ⟨r, rfl⟩ := hr as w K h; exact ⟨18, 4, _, Tn_M, 20, r, rfl, rfl, rfl⟩⟩⟩
set_option maxRecDepth 20000 in
theorem cw_M_108 {l : Launch} {T : rg_T} {lv lv2 : Nat} (hG : rg_Good l y_M_escapes c_M_escapes 7 (some .boolean) lv2 T) (h : lv2 + 1 ≤ lv) (hr : ∀ as w K, T as w K → ∃ r, as = .ref 18 :: r) : rg_CallOk l "ReadGraphModel" lv (217, 3, 0, T) :=
  Or.inl ⟨y_M_escapes, c_M_escapes, 7, (some .boolean), lv2, 108, 2, hG, rfl, h, by decide, rg_in rfl (List.mem_of_getElem? (i := 666) rfl), rg_in rfl (by decide +kernel), ⟨by decide, by decide, by decide +kernel⟩, Or.inl (rg_in rfl (by decide +kernel)), Or.inr ⟨rfl, rfl, rg_in rfl (by decide +kernel), rg_inS rfl (by decide +kernel), fun as w K h => by obtain ⟨r, rfl⟩ := hr as w K h; exact ⟨18, 4, _, Tn_M, 20, r, rfl, rfl, rfl⟩⟩⟩
set_option maxRecDepth 20000 in
theorem cw_M_113 {l : Launch} {T : rg_T} {lv lv2 : Nat} (hG : rg_Good l y_M_isSafe c_M_isSafe 5 (some .boolean) lv2 T) (h : lv2 + 1 ≤ lv) (hr : ∀ as w K, T as w K → ∃ r, as = .ref 18 :: r) : rg_CallOk l "ReadGraphModel" lv (227, 3, 0, T) :=
  Or.inl ⟨y_M_isSafe, c_M_isSafe, 5, (some .boolean), lv2, 113, 2, hG, rfl, h, by decide, rg_in rfl (List.mem_of_getElem? (i := 662) rfl), rg_in rfl (by decide +kernel), ⟨by decide, by decide, by decide +kernel⟩, Or.inl (rg_in rfl (by decide +kernel)), Or.inr ⟨rfl, rfl, rg_in rfl (by decide +kernel), rg_inS rfl (by decide +kernel), fun as w K h => by obtain ⟨r, rfl⟩ := hr as w K h; exact ⟨18, 4, _, Tn_M, 20, r, rfl, rfl, rfl⟩⟩⟩
set_option maxRecDepth 20000 in
theorem cw_M_116 {l : Launch} {T : rg_T} {lv lv2 : Nat} (hG : rg_Good l y_M_hasEnd c_M_hasEnd 3 (some .boolean) lv2 T) (h : lv2 + 1 ≤ lv) (hr : ∀ as w K, T as w K → ∃ r, as = .ref 18 :: r) : rg_CallOk l "ReadGraphModel" lv (233, 2, 0, T) :=
  Or.inl ⟨y_M_hasEnd, c_M_hasEnd, 3, (some .boolean), lv2, 116, 1, hG, rfl, h, by decide, rg_in rfl (List.mem_of_getElem? (i := 683) rfl), rg_in rfl (by decide +kernel), ⟨by decide, by decide, by decide +kernel⟩, Or.inl (rg_in rfl (by decide +kernel)), Or.inr ⟨rfl, rfl, rg_in rfl (by decide +kernel), rg_inS rfl (by decide +kernel), fun as w K h => by obtain ⟨r, rfl⟩ := hr as w K h; exact ⟨18, 4, _, Tn_M, 20, r, rfl, rfl, rfl⟩⟩⟩
set_option maxRecDepth 20000 in
theorem cw_M_119 {l : Launch} {T : rg_T} {lv lv2 : Nat} (hG : rg_Good l y_M_hasBeginning c_M_hasBeginning 3 (some .boolean) lv2 T) (h : lv2 + 1 ≤ lv) (hr : ∀ as w K, T as w K → ∃ r, as = .ref 18 :: r) : rg_CallOk l "ReadGraphModel" lv (239, 2, 0, T) :=
  Or.inl ⟨y_M_hasBeginning, c_M_hasBeginning, 3, (some .boolean), lv2, 119, 1, hG, rfl, h, by decide, rg_in rfl (List.mem_of_getElem? (i := 687) rfl), rg_in rfl (by decide +kernel), ⟨by decide, by decide, by decide +kernel⟩, Or.inl (rg_in rfl (by decide +kernel)), Or.inr ⟨rfl, rfl, rg_in rfl (by decide +kernel), rg_inS rfl (by decide +kernel), fun as w K h => by obtain ⟨r, rfl⟩ := hr as w K h; exact ⟨18, 4, _, Tn_M, 20, r, rfl, rfl, rfl⟩⟩⟩
set_option maxRecDepth 20000 in
theorem cw_M_122 {l : Launch} {T : rg_T} {lv lv2 : Nat} (hG : rg_Good l y_M_keep c_M_keep 3 (some .boolean) lv2 T) (h : lv2 + 1 ≤ lv) (hr : ∀ as w K, T as w K → ∃ r, as = .ref 18 :: r) : rg_CallOk l "ReadGraphModel" lv (245, 2, 0, T) :=
  Or.inl ⟨y_M_keep, c_M_keep, 3, (some .boolean), lv2, 122, 1, hG, rfl, h, by decide, rg_in rfl (List.mem_of_getElem? (i := 679) rfl), rg_in rfl (by decide +kernel), ⟨by decide, by decide, by decide +kernel⟩, Or.inl (rg_in rfl (by decide +kernel)), Or.inr ⟨rfl, rfl, rg_in rfl (by decide +kernel), rg_inS rfl (by decide +kernel), fun as w K h => by obtain ⟨r, rfl⟩ := hr as w K h; exact ⟨18, 4, _, Tn_M, 20, r, rfl, rfl, rfl⟩⟩⟩
set_option maxRecDepth 20000 in
theorem cw_M_125 {l : Launch} {T : rg_T} {lv lv2 : Nat} (hG : rg_Good l y_M_kind c_M_kind 5 (some .int) lv2 T) (h : lv2 + 1 ≤ lv) (hr : ∀ as w K, T as w K → ∃ r, as = .ref 18 :: r) : rg_CallOk l "ReadGraphModel" lv (251, 1, 0, T) :=
  Or.inl ⟨y_M_kind, c_M_kind, 5, (some .int), lv2, 125, 0, hG, rfl, h, by decide, rg_in rfl (List.mem_of_getElem? (i := 653) rfl), rg_in rfl (by decide +kernel), ⟨by decide, by decide, by decide +kernel⟩, Or.inl (rg_in rfl (by decide +kernel)), Or.inr ⟨rfl, rfl, rg_in rfl (by decide +kernel), rg_in rfl (by decide +kernel), fun as w K h => by obtain ⟨r, rfl⟩ := hr as w K h; exact ⟨18, 4, _, Tn_M, 20, r, rfl, rfl, rfl⟩⟩⟩
set_option maxRecDepth 20000 in
theorem cw_M_129 {l : Launch} {T : rg_T} {lv lv2 : Nat} (hG : rg_Good l y_M_find c_M_find 3 (some .boolean) lv2 T) (h : lv2 + 1 ≤ lv) (hr : ∀ as w K, T as w K → ∃ r, as = .ref 18 :: r) : rg_CallOk l "ReadGraphModel" lv (259, 1, 0, T) :=
  Or.inl ⟨y_M_find, c_M_find, 3, (some .boolean), lv2, 129, 0, hG, rfl, h, by decide, rg_in rfl (List.mem_of_getElem? (i := 675) rfl), rg_in rfl (by decide +kernel), ⟨by decide, by decide, by decide +kernel⟩, Or.inl (rg_in rfl (by decide +kernel)), Or.inr ⟨rfl, rfl, rg_in rfl (by decide +kernel), rg_inS rfl (by decide +kernel), fun as w K h => by obtain ⟨r, rfl⟩ := hr as w K h; exact ⟨18, 4, _, Tn_M, 20, r, rfl, rfl, rfl⟩⟩⟩
set_option maxRecDepth 20000 in
theorem cw_M_133 {l : Launch} {T : rg_T} {lv lv2 : Nat} (hG : rg_Good l y_M_spell c_M_spell 8 (some .int) lv2 T) (h : lv2 + 1 ≤ lv) (hr : ∀ as w K, T as w K → ∃ r, as = .ref 18 :: r) : rg_CallOk l "ReadGraphModel" lv (267, 3, 0, T) :=
  Or.inl ⟨y_M_spell, c_M_spell, 8, (some .int), lv2, 133, 2, hG, rfl, h, by decide, rg_in rfl (List.mem_of_getElem? (i := 699) rfl), rg_in rfl (by decide +kernel), ⟨by decide, by decide, by decide +kernel⟩, Or.inl (rg_in rfl (by decide +kernel)), Or.inr ⟨rfl, rfl, rg_in rfl (by decide +kernel), rg_inS rfl (by decide +kernel), fun as w K h => by obtain ⟨r, rfl⟩ := hr as w K h; exact ⟨18, 4, _, Tn_M, 20, r, rfl, rfl, rfl⟩⟩⟩
theorem rg_kb_8 : (Int8.ofInt 8).toInt32 = (nI 8) := by decide +kernel
theorem rg_kb_9 : (Int8.ofInt 9).toInt32 = (nI 9) := by decide +kernel
theorem rg_kb_10 : (Int8.ofInt 10).toInt32 = (nI 10) := by decide +kernel
theorem rg_kb_12 : (Int8.ofInt 12).toInt32 = (nI 12) := by decide +kernel
theorem rg_kb_15 : (Int8.ofInt 15).toInt32 = (nI 15) := by decide +kernel
theorem rg_kb_16 : (Int8.ofInt 16).toInt32 = (nI 16) := by decide +kernel
theorem rg_kb_32 : (Int8.ofInt 32).toInt32 = (nI 32) := by decide +kernel
theorem rg_kb_40 : (Int8.ofInt 40).toInt32 = (nI 40) := by decide +kernel
theorem rg_kb_44 : (Int8.ofInt 44).toInt32 = (nI 44) := by decide +kernel
theorem rg_kb_50 : (Int8.ofInt 50).toInt32 = (nI 50) := by decide +kernel
theorem rg_kb_63 : (Int8.ofInt 63).toInt32 = (nI 63) := by decide +kernel
theorem rg_kb_72 : (Int8.ofInt 72).toInt32 = (nI 72) := by decide +kernel
theorem rg_kb_81 : (Int8.ofInt 81).toInt32 = (nI 81) := by decide +kernel
theorem rg_kb_108 : (Int8.ofInt 108).toInt32 = (nI 108) := by decide +kernel
theorem rg_ki_m1 : Int32.ofInt (-1) = (-1) := by decide +kernel
theorem rg_ki_0 : Int32.ofInt 0 = (nI 0) := by decide +kernel
theorem rg_ki_1 : Int32.ofInt 1 = (nI 1) := by decide +kernel
theorem rg_ki_2 : Int32.ofInt 2 = (nI 2) := by decide +kernel
theorem rg_ki_3 : Int32.ofInt 3 = (nI 3) := by decide +kernel
theorem rg_ki_4 : Int32.ofInt 4 = (nI 4) := by decide +kernel
theorem rg_ks_255 : (Int16.ofInt 255).toInt32 = (nI 255) := by decide +kernel
theorem rg_ks_2000 : (Int16.ofInt 2000).toInt32 = (nI 2000) := by decide +kernel
theorem rg_ks_6561 : (Int16.ofInt 6561).toInt32 = (nI 6561) := by decide +kernel
end
section
/-! booleans as ints; leaf methods -/
def zI (b : Bool) : Int32 := if b then nI 1 else nI 0
theorem zI_t : zI true = nI 1 := rfl
theorem zI_f : zI false = nI 0 := rfl
theorem zI_eq (b : Bool) : (zI b = 0) = (b = false) := by cases b <;> decide +kernel
theorem rg_fit_b (b : Bool) : rg_fit (some .boolean) (some (.int (zI b))) := by
  refine rg_fit_z ?_
  cases b
  · left; decide +kernel
  · right; decide +kernel
theorem rg_fit_1 : rg_fit (some .boolean) (some (.int (nI 1))) := rg_fit_b true
theorem rg_fit_0 : rg_fit (some .boolean) (some (.int (nI 0))) := rg_fit_b false
theorem rg_rt_e (ret : Option FieldType) (K : Option Value → rg_W → Prop) (r : Option Value) (w : rg_W) (b : Nat) : rg_rt ret K r w b = (rg_fit ret r ∧ K r w) := rfl
theorem rg_fit_ie (v : Int32) : rg_fit (some .int) (some (.int v)) = True := propext ⟨fun _ => trivial, fun _ => rg_fit_i v⟩
theorem rg_fit_ve : rg_fit none none = True := propext ⟨fun _ => trivial, fun _ => rfl⟩
theorem rg_fit_1e : rg_fit (some .boolean) (some (.int (nI 1))) = True := propext ⟨fun _ => trivial, fun _ => rg_fit_1⟩
theorem rg_fit_0e : rg_fit (some .boolean) (some (.int (nI 0))) = True := propext ⟨fun _ => trivial, fun _ => rg_fit_0⟩
theorem rg_fit_be (b : Bool) : rg_fit (some .boolean) (some (.int (zI b))) = True := propext ⟨fun _ => trivial, fun _ => rg_fit_b b⟩
theorem rg_pok {l : Launch} {own : String} {lv : Nat} {F : List (Nat × Nat × Nat)} {C : List (Nat × Nat × Nat × rg_T)} (hF : ∀ q ∈ F, rg_FOk own q) (hC : ∀ q ∈ C, rg_CallOk l own lv q) : rg_POk l own lv (F, C, [], [], [], [], 0) :=
  ⟨hF, hC, fun _ h => absurd h List.not_mem_nil, fun _ h => absurd h List.not_mem_nil, rfl⟩
theorem rg_nil {l : Launch} {own : String} {lv : Nat} : ∀ q ∈ ([] : List (Nat × Nat × Nat × rg_T)), rg_CallOk l own lv q := fun _ h => absurd h List.not_mem_nil
theorem rg_cons {l : Launch} {own : String} {lv : Nat} {q0 : Nat × Nat × Nat × rg_T} {C : List (Nat × Nat × Nat × rg_T)} (h : rg_CallOk l own lv q0) (t : ∀ q ∈ C, rg_CallOk l own lv q) : ∀ q ∈ q0 :: C, rg_CallOk l own lv q := List.forall_mem_cons.mpr ⟨h, t⟩
theorem rg_lp1 {A : Type} (Zh : A → Prop) (I : A → Prop) (μ : A → Nat) (step : ∀ a, I a → (∀ a', I a' → μ a' < μ a → Zh a') → Zh a) : ∀ a, I a → Zh a := by
  have key : ∀ (n : Nat) (a : A), μ a < n → I a → Zh a := by
    intro n
    induction n with
    | zero => intro a h; omega
    | succ n ih => intro a h hI; exact step a hI (fun a' h1 h2 => ih a' (by omega) h1)
  exact fun a h => key (μ a + 1) a (by omega) h
theorem rg_lp2 {A B : Type} (Zh : A → B → Prop) (I : A → B → Prop) (μ : A → B → Nat) (step : ∀ a b, I a b → (∀ a' b', I a' b' → μ a' b' < μ a b → Zh a' b') → Zh a b) : ∀ a b, I a b → Zh a b := by
  have key : ∀ (n : Nat) (a : A) (b : B), μ a b < n → I a b → Zh a b := by
    intro n
    induction n with
    | zero => intro a b h; omega
    | succ n ih => intro a b h hI; exact step a b hI (fun a' b' h1 h2 => ih a' b' (by omega) h1)
  exact fun a b h => key (μ a b + 1) a b (by omega) h
theorem rg_lp3 {A B C : Type} (Zh : A → B → C → Prop) (I : A → B → C → Prop) (μ : A → B → C → Nat) (step : ∀ a b c, I a b c → (∀ a' b' c', I a' b' c' → μ a' b' c' < μ a b c → Zh a' b' c') → Zh a b c) : ∀ a b c, I a b c → Zh a b c := by
  have key : ∀ (n : Nat) (a : A) (b : B) (c : C), μ a b c < n → I a b c → Zh a b c := by
    intro n
    induction n with
    | zero => intro a b c h; omega
    | succ n ih => intro a b c h hI; exact step a b c hI (fun a' b' c' h1 h2 => ih a' b' c' (by omega) h1)
  exact fun a b c h => key (μ a b c + 1) a b c (by omega) h
theorem rg_lp4 {A B C D : Type} (Zh : A → B → C → D → Prop) (I : A → B → C → D → Prop) (μ : A → B → C → D → Nat) (step : ∀ a b c d, I a b c d → (∀ a' b' c' d', I a' b' c' d' → μ a' b' c' d' < μ a b c d → Zh a' b' c' d') → Zh a b c d) : ∀ a b c d, I a b c d → Zh a b c d := by
  have key : ∀ (n : Nat) (a : A) (b : B) (c : C) (d : D), μ a b c d < n → I a b c d → Zh a b c d := by
    intro n
    induction n with
    | zero => intro a b c d h; omega
    | succ n ih => intro a b c d h hI; exact step a b c d hI (fun a' b' c' d' h1 h2 => ih a' b' c' d' (by omega) h1)
  exact fun a b c d h => key (μ a b c d + 1) a b c d (by omega) h
theorem rg_lp5 {A B C D E : Type} (Zh : A → B → C → D → E → Prop) (I : A → B → C → D → E → Prop) (μ : A → B → C → D → E → Nat) (step : ∀ a b c d e, I a b c d e → (∀ a' b' c' d' e', I a' b' c' d' e' → μ a' b' c' d' e' < μ a b c d e → Zh a' b' c' d' e') → Zh a b c d e) : ∀ a b c d e, I a b c d e → Zh a b c d e := by
  have key : ∀ (n : Nat) (a : A) (b : B) (c : C) (d : D) (e : E), μ a b c d e < n → I a b c d e → Zh a b c d e := by
    intro n
    induction n with
    | zero => intro a b c d e h; omega
    | succ n ih => intro a b c d e h hI; exact step a b c d e hI (fun a' b' c' d' e' h1 h2 => ih a' b' c' d' e' (by omega) h1)
  exact fun a b c d e h => key (μ a b c d e + 1) a b c d e (by omega) h
theorem rg_up_ss (w : rg_W) (k j : Nat) (x : Int32) : (rg_up w k j x).1 k j = x := by rw [rg_up_s]; exact if_pos rfl

def hbt (a b : Int32) : Bool := !decide ((a >>> (b &&& 31)) &&& nI 1 = 0)
def lowI (x n : Int32) : Int32 := x &&& ((nI 1 <<< ((nI 2 * n) &&& 31)) - nI 1)
-- R.has
def P_R_has : rg_P := (rg_F_R, [], [], [], [], [], 0)
def T_R_has : rg_T := fun as w K => match as with
  | [.ref 1, .int x] => K (some (.int (zI (!decide (x < 0) && !decide (w.1 1 2 ≤ x))))) w
  | _ => False
theorem Te_R_has (x : Int32) (w : rg_W) (K : Option Value → rg_W → Prop) : T_R_has [.ref 1, .int x] w K = (K (some (.int (zI (!decide (x < 0) && !decide (w.1 1 2 ≤ x))))) w) := rfl
theorem r_R_has : ∀ as w K, T_R_has as w K → ∃ r, as = .ref 1 :: r := by
  intro as w K h
  unfold T_R_has at h
  split at h
  · exact ⟨_, rfl⟩
  · exact h.elim
theorem G_R_has (l : Launch) : rg_Good l y_R_has c_R_has 2 (some .boolean) 0 T_R_has := by
  refine rg_good_of (P := P_R_has) (by decide) (rg_pok rg_F_R_ok rg_nil) ?_
  intro as w K Z hT hZ
  unfold T_R_has at hT
  split at hT
  rotate_left
  · exact hT.elim
  rename_i x
  refine ⟨Nat.le_of_ble_eq_true rfl, ?_⟩
  show Z 0 [.ref 1, .int x] [] w 0
  refine hZ (rg_cut []) 400 0 _ _ _ ?_; simp only [rg_e_iload_1 (cut := rg_cut []) (f := true) d_R_has_0 rfl 1 rfl, rg_e_if_lt (cut := rg_cut []) (f := false) d_R_has_1 rfl 4 rfl 16 rfl, rg_e_iload_1 (cut := rg_cut []) (f := false) d_R_has_4 rfl 5 rfl, rg_e_aload_0 (cut := rg_cut []) (f := false) d_R_has_5 rfl 6 rfl, rg_e_geti (P := P_R_has) (cut := rg_cut []) (f := false) d_R_has_6 rfl 9 rfl 1 1 2 rfl (fun _ => rfl), rg_e_icmp_ge (cut := rg_cut []) (f := false) d_R_has_9 rfl 12 rfl 16 rfl, rg_e_iconst (cut := rg_cut []) (f := false) d_R_has_12 rfl 13 rfl (nI 1) rg_ki_1, rg_e_goto (cut := rg_cut []) (f := false) d_R_has_13 rfl 17 rfl, rg_e_iconst (cut := rg_cut []) (f := false) d_R_has_16 rfl 17 rfl (nI 0) rg_ki_0, rg_e_iret (cut := rg_cut []) (f := false) d_R_has_17 rfl, rg_nx_i, rg_nx_v, rg_wd_n, rg_wd_i, rg_wd_l, rg_wd_r, rg_clr_i, rg_clr_l, rg_clr_r, rg_clr_a, rg_clr_n, true_and, and_true, Nat.reduceAdd, Nat.reduceLeDiff, rg_rt_e, rg_fit_ie, rg_fit_ve, rg_fit_1e, rg_fit_0e, rg_fit_be]
  refine ⟨fun h1 => ?_, fun h1 => ⟨fun h2 => ?_, fun h2 => ?_⟩⟩ <;> simpa [zI, h1, *] using hT
-- E.has
def P_E_has : rg_P := (rg_F_E, [], [], [], [], [], 0)
def T_E_has : rg_T := fun as w K => match as with
  | [.ref 4, .int x] => K (some (.int (zI (!decide (x < 0) && !decide (w.1 4 10 ≤ x))))) w
  | _ => False
theorem Te_E_has (x : Int32) (w : rg_W) (K : Option Value → rg_W → Prop) : T_E_has [.ref 4, .int x] w K = (K (some (.int (zI (!decide (x < 0) && !decide (w.1 4 10 ≤ x))))) w) := rfl
theorem r_E_has : ∀ as w K, T_E_has as w K → ∃ r, as = .ref 4 :: r := by
  intro as w K h
  unfold T_E_has at h
  split at h
  · exact ⟨_, rfl⟩
  · exact h.elim
theorem G_E_has (l : Launch) : rg_Good l y_E_has c_E_has 2 (some .boolean) 0 T_E_has := by
  refine rg_good_of (P := P_E_has) (by decide) (rg_pok rg_F_E_ok rg_nil) ?_
  intro as w K Z hT hZ
  unfold T_E_has at hT
  split at hT
  rotate_left
  · exact hT.elim
  rename_i x
  refine ⟨Nat.le_of_ble_eq_true rfl, ?_⟩
  show Z 0 [.ref 4, .int x] [] w 0
  refine hZ (rg_cut []) 400 0 _ _ _ ?_; simp only [rg_e_iload_1 (cut := rg_cut []) (f := true) d_E_has_0 rfl 1 rfl, rg_e_if_lt (cut := rg_cut []) (f := false) d_E_has_1 rfl 4 rfl 16 rfl, rg_e_iload_1 (cut := rg_cut []) (f := false) d_E_has_4 rfl 5 rfl, rg_e_aload_0 (cut := rg_cut []) (f := false) d_E_has_5 rfl 6 rfl, rg_e_geti (P := P_E_has) (cut := rg_cut []) (f := false) d_E_has_6 rfl 9 rfl 4 2 10 rfl (fun _ => rfl), rg_e_icmp_ge (cut := rg_cut []) (f := false) d_E_has_9 rfl 12 rfl 16 rfl, rg_e_iconst (cut := rg_cut []) (f := false) d_E_has_12 rfl 13 rfl (nI 1) rg_ki_1, rg_e_goto (cut := rg_cut []) (f := false) d_E_has_13 rfl 17 rfl, rg_e_iconst (cut := rg_cut []) (f := false) d_E_has_16 rfl 17 rfl (nI 0) rg_ki_0, rg_e_iret (cut := rg_cut []) (f := false) d_E_has_17 rfl, rg_nx_i, rg_nx_v, rg_wd_n, rg_wd_i, rg_wd_l, rg_wd_r, rg_clr_i, rg_clr_l, rg_clr_r, rg_clr_a, rg_clr_n, true_and, and_true, Nat.reduceAdd, Nat.reduceLeDiff, rg_rt_e, rg_fit_ie, rg_fit_ve, rg_fit_1e, rg_fit_0e, rg_fit_be]
  refine ⟨fun h1 => ?_, fun h1 => ⟨fun h2 => ?_, fun h2 => ?_⟩⟩ <;> simpa [zI, h1, *] using hT
-- W.has
def P_W_has : rg_P := (rg_F_W, [], [], [], [], [], 0)
def T_W_has : rg_T := fun as w K => match as with
  | [.ref 13, .int x] => K (some (.int (zI (!decide (x < 0) && !decide (w.1 13 3 ≤ x))))) w
  | _ => False
theorem Te_W_has (x : Int32) (w : rg_W) (K : Option Value → rg_W → Prop) : T_W_has [.ref 13, .int x] w K = (K (some (.int (zI (!decide (x < 0) && !decide (w.1 13 3 ≤ x))))) w) := rfl
theorem r_W_has : ∀ as w K, T_W_has as w K → ∃ r, as = .ref 13 :: r := by
  intro as w K h
  unfold T_W_has at h
  split at h
  · exact ⟨_, rfl⟩
  · exact h.elim
theorem G_W_has (l : Launch) : rg_Good l y_W_has c_W_has 2 (some .boolean) 0 T_W_has := by
  refine rg_good_of (P := P_W_has) (by decide) (rg_pok rg_F_W_ok rg_nil) ?_
  intro as w K Z hT hZ
  unfold T_W_has at hT
  split at hT
  rotate_left
  · exact hT.elim
  rename_i x
  refine ⟨Nat.le_of_ble_eq_true rfl, ?_⟩
  show Z 0 [.ref 13, .int x] [] w 0
  refine hZ (rg_cut []) 400 0 _ _ _ ?_; simp only [rg_e_iload_1 (cut := rg_cut []) (f := true) d_W_has_0 rfl 1 rfl, rg_e_if_lt (cut := rg_cut []) (f := false) d_W_has_1 rfl 4 rfl 16 rfl, rg_e_iload_1 (cut := rg_cut []) (f := false) d_W_has_4 rfl 5 rfl, rg_e_aload_0 (cut := rg_cut []) (f := false) d_W_has_5 rfl 6 rfl, rg_e_geti (P := P_W_has) (cut := rg_cut []) (f := false) d_W_has_6 rfl 9 rfl 13 3 3 rfl (fun _ => rfl), rg_e_icmp_ge (cut := rg_cut []) (f := false) d_W_has_9 rfl 12 rfl 16 rfl, rg_e_iconst (cut := rg_cut []) (f := false) d_W_has_12 rfl 13 rfl (nI 1) rg_ki_1, rg_e_goto (cut := rg_cut []) (f := false) d_W_has_13 rfl 17 rfl, rg_e_iconst (cut := rg_cut []) (f := false) d_W_has_16 rfl 17 rfl (nI 0) rg_ki_0, rg_e_iret (cut := rg_cut []) (f := false) d_W_has_17 rfl, rg_nx_i, rg_nx_v, rg_wd_n, rg_wd_i, rg_wd_l, rg_wd_r, rg_clr_i, rg_clr_l, rg_clr_r, rg_clr_a, rg_clr_n, true_and, and_true, Nat.reduceAdd, Nat.reduceLeDiff, rg_rt_e, rg_fit_ie, rg_fit_ve, rg_fit_1e, rg_fit_0e, rg_fit_be]
  refine ⟨fun h1 => ?_, fun h1 => ⟨fun h2 => ?_, fun h2 => ?_⟩⟩ <;> simpa [zI, h1, *] using hT
-- W.edgeAt
def P_W_edgeAt : rg_P := (rg_F_W, [], [], [], [], [], 0)
def T_W_edgeAt : rg_T := fun as w K => match as with
  | [.ref 13, .int k, .int i] => vp_in (k * nI 40 + i) 2000 ∧ K (some (.int (w.1 14 (k * nI 40 + i).toNatClampNeg))) w
  | _ => False
theorem Te_W_edgeAt (k : Int32) (i : Int32) (w : rg_W) (K : Option Value → rg_W → Prop) : T_W_edgeAt [.ref 13, .int k, .int i] w K = (vp_in (k * nI 40 + i) 2000 ∧ K (some (.int (w.1 14 (k * nI 40 + i).toNatClampNeg))) w) := rfl
theorem r_W_edgeAt : ∀ as w K, T_W_edgeAt as w K → ∃ r, as = .ref 13 :: r := by
  intro as w K h
  unfold T_W_edgeAt at h
  split at h
  · exact ⟨_, rfl⟩
  · exact h.elim
theorem G_W_edgeAt (l : Launch) : rg_Good l y_W_edgeAt c_W_edgeAt 3 (some .int) 0 T_W_edgeAt := by
  refine rg_good_of (P := P_W_edgeAt) (by decide) (rg_pok rg_F_W_ok rg_nil) ?_
  intro as w K Z hT hZ
  unfold T_W_edgeAt at hT
  split at hT
  rotate_left
  · exact hT.elim
  rename_i k i
  refine ⟨Nat.le_of_ble_eq_true rfl, ?_⟩
  show Z 0 [.ref 13, .int k, .int i] [] w 0
  refine hZ (rg_cut []) 400 0 _ _ _ ?_; simp only [rg_e_aload_0 (cut := rg_cut []) (f := true) d_W_edgeAt_0 rfl 1 rfl, rg_e_getr (P := P_W_edgeAt) (cut := rg_cut []) (f := false) d_W_edgeAt_1 rfl 4 rfl 13 3 1 14 rfl (fun _ => rfl), rg_e_iload_1 (cut := rg_cut []) (f := false) d_W_edgeAt_4 rfl 5 rfl, rg_e_bipush (cut := rg_cut []) (f := false) d_W_edgeAt_5 rfl 7 rfl (nI 40) rg_kb_40, rg_e_imul (cut := rg_cut []) (f := false) d_W_edgeAt_7 rfl 8 rfl, rg_e_iload_2 (cut := rg_cut []) (f := false) d_W_edgeAt_8 rfl 9 rfl, rg_e_iadd (cut := rg_cut []) (f := false) d_W_edgeAt_9 rfl 10 rfl, rg_e_iald (cut := rg_cut []) (f := false) d_W_edgeAt_10 rfl 11 rfl 14 2000 rfl, rg_e_iret (cut := rg_cut []) (f := false) d_W_edgeAt_11 rfl, rg_nx_i, rg_nx_v, rg_wd_n, rg_wd_i, rg_wd_l, rg_wd_r, rg_clr_i, rg_clr_l, rg_clr_r, rg_clr_a, rg_clr_n, true_and, and_true, Nat.reduceAdd, Nat.reduceLeDiff, rg_rt_e, rg_fit_ie, rg_fit_ve, rg_fit_1e, rg_fit_0e, rg_fit_be]
  exact hT
-- G.holds
def P_G_holds : rg_P := (rg_F_G, [], [], [], [], [], 0)
def T_G_holds : rg_T := fun as w K => match as with
  | [.int a, .int b] => K (some (.int (zI (hbt a b)))) w
  | _ => False
theorem Te_G_holds (a : Int32) (b : Int32) (w : rg_W) (K : Option Value → rg_W → Prop) : T_G_holds [.int a, .int b] w K = (K (some (.int (zI (hbt a b)))) w) := rfl
theorem G_G_holds (l : Launch) : rg_Good l y_G_holds c_G_holds 2 (some .boolean) 0 T_G_holds := by
  refine rg_good_of (P := P_G_holds) (by decide) (rg_pok rg_F_G_ok rg_nil) ?_
  intro as w K Z hT hZ
  unfold T_G_holds at hT
  split at hT
  rotate_left
  · exact hT.elim
  rename_i a b
  refine ⟨Nat.le_of_ble_eq_true rfl, ?_⟩
  show Z 0 [.int a, .int b] [] w 0
  refine hZ (rg_cut []) 400 0 _ _ _ ?_; simp only [rg_e_iload_0 (cut := rg_cut []) (f := true) d_G_holds_0 rfl 1 rfl, rg_e_iload_1 (cut := rg_cut []) (f := false) d_G_holds_1 rfl 2 rfl, rg_e_ishr (cut := rg_cut []) (f := false) d_G_holds_2 rfl 3 rfl, rg_e_iconst (cut := rg_cut []) (f := false) d_G_holds_3 rfl 4 rfl (nI 1) rg_ki_1, rg_e_iand (cut := rg_cut []) (f := false) d_G_holds_4 rfl 5 rfl, rg_e_if_eq (cut := rg_cut []) (f := false) d_G_holds_5 rfl 8 rfl 12 rfl, rg_e_iconst (cut := rg_cut []) (f := false) d_G_holds_8 rfl 9 rfl (nI 1) rg_ki_1, rg_e_goto (cut := rg_cut []) (f := false) d_G_holds_9 rfl 13 rfl, rg_e_iconst (cut := rg_cut []) (f := false) d_G_holds_12 rfl 13 rfl (nI 0) rg_ki_0, rg_e_iret (cut := rg_cut []) (f := false) d_G_holds_13 rfl, rg_nx_i, rg_nx_v, rg_wd_n, rg_wd_i, rg_wd_l, rg_wd_r, rg_clr_i, rg_clr_l, rg_clr_r, rg_clr_a, rg_clr_n, true_and, and_true, Nat.reduceAdd, Nat.reduceLeDiff, rg_rt_e, rg_fit_ie, rg_fit_ve, rg_fit_1e, rg_fit_0e, rg_fit_be]
  refine ⟨fun h1 => ?_, fun h1 => ?_⟩ <;> simpa [zI, hbt, h1] using hT
-- G.isLeast
def P_G_isLeast : rg_P := (rg_F_G, [], [], [], [], [], 0)
def T_G_isLeast : rg_T := fun as w K => match as with
  | [.int x] => K (some (.int (zI (!decide (x < nI 1) && !decide (nI 12 < x))))) w
  | _ => False
theorem Te_G_isLeast (x : Int32) (w : rg_W) (K : Option Value → rg_W → Prop) : T_G_isLeast [.int x] w K = (K (some (.int (zI (!decide (x < nI 1) && !decide (nI 12 < x))))) w) := rfl
theorem G_G_isLeast (l : Launch) : rg_Good l y_G_isLeast c_G_isLeast 1 (some .boolean) 0 T_G_isLeast := by
  refine rg_good_of (P := P_G_isLeast) (by decide) (rg_pok rg_F_G_ok rg_nil) ?_
  intro as w K Z hT hZ
  unfold T_G_isLeast at hT
  split at hT
  rotate_left
  · exact hT.elim
  rename_i x
  refine ⟨Nat.le_of_ble_eq_true rfl, ?_⟩
  show Z 0 [.int x] [] w 0
  refine hZ (rg_cut []) 400 0 _ _ _ ?_; simp only [rg_e_iload_0 (cut := rg_cut []) (f := true) d_G_isLeast_0 rfl 1 rfl, rg_e_iconst (cut := rg_cut []) (f := false) d_G_isLeast_1 rfl 2 rfl (nI 1) rg_ki_1, rg_e_icmp_lt (cut := rg_cut []) (f := false) d_G_isLeast_2 rfl 5 rfl 15 rfl, rg_e_iload_0 (cut := rg_cut []) (f := false) d_G_isLeast_5 rfl 6 rfl, rg_e_bipush (cut := rg_cut []) (f := false) d_G_isLeast_6 rfl 8 rfl (nI 12) rg_kb_12, rg_e_icmp_gt (cut := rg_cut []) (f := false) d_G_isLeast_8 rfl 11 rfl 15 rfl, rg_e_iconst (cut := rg_cut []) (f := false) d_G_isLeast_11 rfl 12 rfl (nI 1) rg_ki_1, rg_e_goto (cut := rg_cut []) (f := false) d_G_isLeast_12 rfl 16 rfl, rg_e_iconst (cut := rg_cut []) (f := false) d_G_isLeast_15 rfl 16 rfl (nI 0) rg_ki_0, rg_e_iret (cut := rg_cut []) (f := false) d_G_isLeast_16 rfl, rg_nx_i, rg_nx_v, rg_wd_n, rg_wd_i, rg_wd_l, rg_wd_r, rg_clr_i, rg_clr_l, rg_clr_r, rg_clr_a, rg_clr_n, true_and, and_true, Nat.reduceAdd, Nat.reduceLeDiff, rg_rt_e, rg_fit_ie, rg_fit_ve, rg_fit_1e, rg_fit_0e, rg_fit_be]
  refine ⟨fun h1 => ?_, fun h1 => ⟨fun h2 => ?_, fun h2 => ?_⟩⟩ <;> simpa [zI, h1, *] using hT
-- G.packedEdge
def P_G_packedEdge : rg_P := (rg_F_G, [], [], [], [], [], 0)
def T_G_packedEdge : rg_T := fun as w K => match as with
  | [.long p, .int n, .int i] => K (some (.int ((p.toUInt64 >>> ((nI 8 * (n - nI 1 - i)).toInt64.toUInt64 &&& Int64.toUInt64 63)).toInt64.toInt32 &&& nI 255))) w
  | _ => False
theorem Te_G_packedEdge (p : Int64) (n : Int32) (i : Int32) (w : rg_W) (K : Option Value → rg_W → Prop) : T_G_packedEdge [.long p, .int n, .int i] w K = (K (some (.int ((p.toUInt64 >>> ((nI 8 * (n - nI 1 - i)).toInt64.toUInt64 &&& Int64.toUInt64 63)).toInt64.toInt32 &&& nI 255))) w) := rfl
theorem G_G_packedEdge (l : Launch) : rg_Good l y_G_packedEdge c_G_packedEdge 4 (some .int) 0 T_G_packedEdge := by
  refine rg_good_of (P := P_G_packedEdge) (by decide) (rg_pok rg_F_G_ok rg_nil) ?_
  intro as w K Z hT hZ
  unfold T_G_packedEdge at hT
  split at hT
  rotate_left
  · exact hT.elim
  rename_i p n i
  refine ⟨Nat.le_of_ble_eq_true rfl, ?_⟩
  show Z 0 [.long p, .null, .int n, .int i] [] w 0
  refine hZ (rg_cut []) 400 0 _ _ _ ?_; simp only [rg_e_lload_0 (cut := rg_cut []) (f := true) d_G_packedEdge_0 rfl 1 rfl, rg_e_bipush (cut := rg_cut []) (f := false) d_G_packedEdge_1 rfl 3 rfl (nI 8) rg_kb_8, rg_e_iload_2 (cut := rg_cut []) (f := false) d_G_packedEdge_3 rfl 4 rfl, rg_e_iconst (cut := rg_cut []) (f := false) d_G_packedEdge_4 rfl 5 rfl (nI 1) rg_ki_1, rg_e_isub (cut := rg_cut []) (f := false) d_G_packedEdge_5 rfl 6 rfl, rg_e_iload_3 (cut := rg_cut []) (f := false) d_G_packedEdge_6 rfl 7 rfl, rg_e_isub (cut := rg_cut []) (f := false) d_G_packedEdge_7 rfl 8 rfl, rg_e_imul (cut := rg_cut []) (f := false) d_G_packedEdge_8 rfl 9 rfl, rg_e_lushr (cut := rg_cut []) (f := false) d_G_packedEdge_9 rfl 10 rfl, rg_e_l2i (cut := rg_cut []) (f := false) d_G_packedEdge_10 rfl 11 rfl, rg_e_sipush (cut := rg_cut []) (f := false) d_G_packedEdge_11 rfl 14 rfl (nI 255) rg_ks_255, rg_e_iand (cut := rg_cut []) (f := false) d_G_packedEdge_14 rfl 15 rfl, rg_e_iret (cut := rg_cut []) (f := false) d_G_packedEdge_15 rfl, rg_nx_i, rg_nx_v, rg_wd_n, rg_wd_i, rg_wd_l, rg_wd_r, rg_clr_i, rg_clr_l, rg_clr_r, rg_clr_a, rg_clr_n, true_and, and_true, Nat.reduceAdd, Nat.reduceLeDiff, rg_rt_e, rg_fit_ie, rg_fit_ve, rg_fit_1e, rg_fit_0e, rg_fit_be]
  exact hT
-- R.lowest
def P_R_lowest : rg_P := (rg_F_R, [], [], [], [], [], 0)
def T_R_lowest : rg_T := fun as w K => match as with
  | [.int x, .int n] => K (some (.int (lowI x n))) w
  | _ => False
theorem Te_R_lowest (x : Int32) (n : Int32) (w : rg_W) (K : Option Value → rg_W → Prop) : T_R_lowest [.int x, .int n] w K = (K (some (.int (lowI x n))) w) := rfl
theorem G_R_lowest (l : Launch) : rg_Good l y_R_lowest c_R_lowest 2 (some .int) 0 T_R_lowest := by
  refine rg_good_of (P := P_R_lowest) (by decide) (rg_pok rg_F_R_ok rg_nil) ?_
  intro as w K Z hT hZ
  unfold T_R_lowest at hT
  split at hT
  rotate_left
  · exact hT.elim
  rename_i x n
  refine ⟨Nat.le_of_ble_eq_true rfl, ?_⟩
  show Z 0 [.int x, .int n] [] w 0
  refine hZ (rg_cut []) 400 0 _ _ _ ?_; simp only [rg_e_iload_0 (cut := rg_cut []) (f := true) d_R_lowest_0 rfl 1 rfl, rg_e_iconst (cut := rg_cut []) (f := false) d_R_lowest_1 rfl 2 rfl (nI 1) rg_ki_1, rg_e_iconst (cut := rg_cut []) (f := false) d_R_lowest_2 rfl 3 rfl (nI 2) rg_ki_2, rg_e_iload_1 (cut := rg_cut []) (f := false) d_R_lowest_3 rfl 4 rfl, rg_e_imul (cut := rg_cut []) (f := false) d_R_lowest_4 rfl 5 rfl, rg_e_ishl (cut := rg_cut []) (f := false) d_R_lowest_5 rfl 6 rfl, rg_e_iconst (cut := rg_cut []) (f := false) d_R_lowest_6 rfl 7 rfl (nI 1) rg_ki_1, rg_e_isub (cut := rg_cut []) (f := false) d_R_lowest_7 rfl 8 rfl, rg_e_iand (cut := rg_cut []) (f := false) d_R_lowest_8 rfl 9 rfl, rg_e_iret (cut := rg_cut []) (f := false) d_R_lowest_9 rfl, rg_nx_i, rg_nx_v, rg_wd_n, rg_wd_i, rg_wd_l, rg_wd_r, rg_clr_i, rg_clr_l, rg_clr_r, rg_clr_a, rg_clr_n, true_and, and_true, Nat.reduceAdd, Nat.reduceLeDiff, rg_rt_e, rg_fit_ie, rg_fit_ve, rg_fit_1e, rg_fit_0e, rg_fit_be]
  exact hT
-- R.letterAt
def P_R_letterAt : rg_P := (rg_F_R, [], [], [], [], [], 0)
def T_R_letterAt : rg_T := fun as w K => match as with
  | [.ref 1, .int r, .int k] => vp_in r 9 ∧ K (some (.int ((w.1 2 r.toNatClampNeg >>> ((nI 2 * (w.1 3 r.toNatClampNeg - nI 1 - k)) &&& 31)) &&& nI 3))) w
  | _ => False
theorem Te_R_letterAt (r : Int32) (k : Int32) (w : rg_W) (K : Option Value → rg_W → Prop) : T_R_letterAt [.ref 1, .int r, .int k] w K = (vp_in r 9 ∧ K (some (.int ((w.1 2 r.toNatClampNeg >>> ((nI 2 * (w.1 3 r.toNatClampNeg - nI 1 - k)) &&& 31)) &&& nI 3))) w) := rfl
theorem r_R_letterAt : ∀ as w K, T_R_letterAt as w K → ∃ r, as = .ref 1 :: r := by
  intro as w K h
  unfold T_R_letterAt at h
  split at h
  · exact ⟨_, rfl⟩
  · exact h.elim
theorem G_R_letterAt (l : Launch) : rg_Good l y_R_letterAt c_R_letterAt 3 (some .int) 0 T_R_letterAt := by
  refine rg_good_of (P := P_R_letterAt) (by decide) (rg_pok rg_F_R_ok rg_nil) ?_
  intro as w K Z hT hZ
  unfold T_R_letterAt at hT
  split at hT
  rotate_left
  · exact hT.elim
  rename_i r k
  refine ⟨Nat.le_of_ble_eq_true rfl, ?_⟩
  show Z 0 [.ref 1, .int r, .int k] [] w 0
  refine hZ (rg_cut []) 400 0 _ _ _ ?_; simp only [rg_e_aload_0 (cut := rg_cut []) (f := true) d_R_letterAt_0 rfl 1 rfl, rg_e_getr (P := P_R_letterAt) (cut := rg_cut []) (f := false) d_R_letterAt_1 rfl 4 rfl 1 1 0 2 rfl (fun _ => rfl), rg_e_iload_1 (cut := rg_cut []) (f := false) d_R_letterAt_4 rfl 5 rfl, rg_e_iald (cut := rg_cut []) (f := false) d_R_letterAt_5 rfl 6 rfl 2 9 rfl, rg_e_iconst (cut := rg_cut []) (f := false) d_R_letterAt_6 rfl 7 rfl (nI 2) rg_ki_2, rg_e_aload_0 (cut := rg_cut []) (f := false) d_R_letterAt_7 rfl 8 rfl, rg_e_getr (P := P_R_letterAt) (cut := rg_cut []) (f := false) d_R_letterAt_8 rfl 11 rfl 1 1 1 3 rfl (fun _ => rfl), rg_e_iload_1 (cut := rg_cut []) (f := false) d_R_letterAt_11 rfl 12 rfl, rg_e_iald (cut := rg_cut []) (f := false) d_R_letterAt_12 rfl 13 rfl 3 9 rfl, rg_e_iconst (cut := rg_cut []) (f := false) d_R_letterAt_13 rfl 14 rfl (nI 1) rg_ki_1, rg_e_isub (cut := rg_cut []) (f := false) d_R_letterAt_14 rfl 15 rfl, rg_e_iload_2 (cut := rg_cut []) (f := false) d_R_letterAt_15 rfl 16 rfl, rg_e_isub (cut := rg_cut []) (f := false) d_R_letterAt_16 rfl 17 rfl, rg_e_imul (cut := rg_cut []) (f := false) d_R_letterAt_17 rfl 18 rfl, rg_e_ishr (cut := rg_cut []) (f := false) d_R_letterAt_18 rfl 19 rfl, rg_e_iconst (cut := rg_cut []) (f := false) d_R_letterAt_19 rfl 20 rfl (nI 3) rg_ki_3, rg_e_iand (cut := rg_cut []) (f := false) d_R_letterAt_20 rfl 21 rfl, rg_e_iret (cut := rg_cut []) (f := false) d_R_letterAt_21 rfl, rg_nx_i, rg_nx_v, rg_wd_n, rg_wd_i, rg_wd_l, rg_wd_r, rg_clr_i, rg_clr_l, rg_clr_r, rg_clr_a, rg_clr_n, true_and, and_true, Nat.reduceAdd, Nat.reduceLeDiff, rg_rt_e, rg_fit_ie, rg_fit_ve, rg_fit_1e, rg_fit_0e, rg_fit_be]
  exact ⟨hT.1, hT.1, hT.2⟩
-- R.add
def P_R_add : rg_P := (rg_F_R, [(44, 2, 0, T_R_lowest)], [], [], [], [], 0)
def T_R_add : rg_T := fun as w K => match as with
  | [.ref 1, .int x, .int n] => vp_in (w.1 1 2) 9 ∧ K (some (.int (w.1 1 2 + nI 1 - nI 1))) (rg_up (rg_up (rg_up w 2 (w.1 1 2).toNatClampNeg (lowI x n)) 3 (w.1 1 2).toNatClampNeg n) 1 2 (w.1 1 2 + nI 1))
  | _ => False
theorem Te_R_add (x : Int32) (n : Int32) (w : rg_W) (K : Option Value → rg_W → Prop) : T_R_add [.ref 1, .int x, .int n] w K = (vp_in (w.1 1 2) 9 ∧ K (some (.int (w.1 1 2 + nI 1 - nI 1))) (rg_up (rg_up (rg_up w 2 (w.1 1 2).toNatClampNeg (lowI x n)) 3 (w.1 1 2).toNatClampNeg n) 1 2 (w.1 1 2 + nI 1))) := rfl
theorem r_R_add : ∀ as w K, T_R_add as w K → ∃ r, as = .ref 1 :: r := by
  intro as w K h
  unfold T_R_add at h
  split at h
  · exact ⟨_, rfl⟩
  · exact h.elim
theorem G_R_add (l : Launch) : rg_Good l y_R_add c_R_add 3 (some .int) 1 T_R_add := by
  refine rg_good_of (P := P_R_add) (by decide) (rg_pok rg_F_R_ok (rg_cons (cw_R_22 (G_R_lowest l) (by decide)) rg_nil)) ?_
  intro as w K Z hT hZ
  unfold T_R_add at hT
  split at hT
  rotate_left
  · exact hT.elim
  rename_i x n
  refine ⟨Nat.le_of_ble_eq_true rfl, ?_⟩
  show Z 0 [.ref 1, .int x, .int n] [] w 0
  refine hZ (rg_cut []) 400 0 _ _ _ ?_; simp only [rg_e_aload_0 (cut := rg_cut []) (f := true) d_R_add_0 rfl 1 rfl, rg_e_getr (P := P_R_add) (cut := rg_cut []) (f := false) d_R_add_1 rfl 4 rfl 1 1 0 2 rfl (fun _ => rfl), rg_e_aload_0 (cut := rg_cut []) (f := false) d_R_add_4 rfl 5 rfl, rg_e_geti (P := P_R_add) (cut := rg_cut []) (f := false) d_R_add_5 rfl 8 rfl 1 1 2 rfl (fun _ => rfl), rg_e_iload_1 (cut := rg_cut []) (f := false) d_R_add_8 rfl 9 rfl, rg_e_iload_2 (cut := rg_cut []) (f := false) d_R_add_9 rfl 10 rfl, rg_e_cs2 (P := P_R_add) (cut := rg_cut []) (f := false) d_R_add_10 rfl T_R_lowest rfl, rg_e_iast (cut := rg_cut []) (f := false) d_R_add_13 rfl 14 rfl 2 9 rfl, rg_e_aload_0 (cut := rg_cut []) (f := false) d_R_add_14 rfl 15 rfl, rg_e_getr (P := P_R_add) (cut := rg_cut []) (f := false) d_R_add_15 rfl 18 rfl 1 1 1 3 rfl (fun _ => rfl), rg_e_aload_0 (cut := rg_cut []) (f := false) d_R_add_18 rfl 19 rfl, rg_e_geti (P := P_R_add) (cut := rg_cut []) (f := false) d_R_add_19 rfl 22 rfl 1 1 2 rfl (fun _ => rfl), rg_e_iload_2 (cut := rg_cut []) (f := false) d_R_add_22 rfl 23 rfl, rg_e_iast (cut := rg_cut []) (f := false) d_R_add_23 rfl 24 rfl 3 9 rfl, rg_e_aload_0 (cut := rg_cut []) (f := false) d_R_add_24 rfl 25 rfl, rg_e_dupr (cut := rg_cut []) (f := false) d_R_add_25 rfl 26 rfl, rg_e_geti (P := P_R_add) (cut := rg_cut []) (f := false) d_R_add_26 rfl 29 rfl 1 1 2 rfl (fun _ => rfl), rg_e_iconst (cut := rg_cut []) (f := false) d_R_add_29 rfl 30 rfl (nI 1) rg_ki_1, rg_e_iadd (cut := rg_cut []) (f := false) d_R_add_30 rfl 31 rfl, rg_e_put (P := P_R_add) (cut := rg_cut []) (f := false) d_R_add_31 rfl 34 rfl 1 1 2 rfl rfl, rg_e_aload_0 (cut := rg_cut []) (f := false) d_R_add_34 rfl 35 rfl, rg_e_geti (P := P_R_add) (cut := rg_cut []) (f := false) d_R_add_35 rfl 38 rfl 1 1 2 rfl (fun _ => rfl), rg_e_iconst (cut := rg_cut []) (f := false) d_R_add_38 rfl 39 rfl (nI 1) rg_ki_1, rg_e_isub (cut := rg_cut []) (f := false) d_R_add_39 rfl 40 rfl, rg_e_iret (cut := rg_cut []) (f := false) d_R_add_40 rfl, rg_nx_i, rg_nx_v, rg_wd_n, rg_wd_i, rg_wd_l, rg_wd_r, rg_clr_i, rg_clr_l, rg_clr_r, rg_clr_a, rg_clr_n, true_and, and_true, Nat.reduceAdd, Nat.reduceLeDiff, ↓Te_R_lowest, rg_rt_e, rg_fit_ie, rg_fit_ve, rg_fit_1e, rg_fit_0e, rg_fit_be]
  refine ⟨hT.1, hT.1, ?_⟩
  exact hT.2
-- M.thrown
def P_M_thrown : rg_P := (rg_F_M, [], [], [], [], [], 0)
def T_M_thrown : rg_T := fun as w K => match as with
  | [.ref 18] => K (some (.int (w.1 18 0))) w
  | _ => False
theorem Te_M_thrown  (w : rg_W) (K : Option Value → rg_W → Prop) : T_M_thrown [.ref 18] w K = (K (some (.int (w.1 18 0))) w) := rfl
theorem r_M_thrown : ∀ as w K, T_M_thrown as w K → ∃ r, as = .ref 18 :: r := by
  intro as w K h
  unfold T_M_thrown at h
  split at h
  · exact ⟨_, rfl⟩
  · exact h.elim
theorem G_M_thrown (l : Launch) : rg_Good l y_M_thrown c_M_thrown 1 (some .int) 0 T_M_thrown := by
  refine rg_good_of (P := P_M_thrown) (by decide) (rg_pok rg_F_M_ok rg_nil) ?_
  intro as w K Z hT hZ
  unfold T_M_thrown at hT
  split at hT
  rotate_left
  · exact hT.elim
  refine ⟨Nat.le_of_ble_eq_true rfl, ?_⟩
  show Z 0 [.ref 18] [] w 0
  refine hZ (rg_cut []) 400 0 _ _ _ ?_; simp only [rg_e_aload_0 (cut := rg_cut []) (f := true) d_M_thrown_0 rfl 1 rfl, rg_e_geti (P := P_M_thrown) (cut := rg_cut []) (f := false) d_M_thrown_1 rfl 4 rfl 18 4 0 rfl (fun _ => rfl), rg_e_iret (cut := rg_cut []) (f := false) d_M_thrown_4 rfl, rg_nx_i, rg_nx_v, rg_wd_n, rg_wd_i, rg_wd_l, rg_wd_r, rg_clr_i, rg_clr_l, rg_clr_r, rg_clr_a, rg_clr_n, true_and, and_true, Nat.reduceAdd, Nat.reduceLeDiff, rg_rt_e, rg_fit_ie, rg_fit_ve, rg_fit_1e, rg_fit_0e, rg_fit_be]
  exact hT
-- M.throwing
def P_M_throwing : rg_P := (rg_F_M, [], [], [], [], [], 0)
def T_M_throwing : rg_T := fun as w K => match as with
  | [.ref 18, .int a, .int b] => K (some (.int (zI (!decide (a = 0) || !decide (b = 0))))) (rg_up w 18 0 (if a = 0 then (if b = 0 then nI 0 else nI 2) else nI 1))
  | _ => False
theorem Te_M_throwing (a : Int32) (b : Int32) (w : rg_W) (K : Option Value → rg_W → Prop) : T_M_throwing [.ref 18, .int a, .int b] w K = (K (some (.int (zI (!decide (a = 0) || !decide (b = 0))))) (rg_up w 18 0 (if a = 0 then (if b = 0 then nI 0 else nI 2) else nI 1))) := rfl
theorem r_M_throwing : ∀ as w K, T_M_throwing as w K → ∃ r, as = .ref 18 :: r := by
  intro as w K h
  unfold T_M_throwing at h
  split at h
  · exact ⟨_, rfl⟩
  · exact h.elim
theorem G_M_throwing (l : Launch) : rg_Good l y_M_throwing c_M_throwing 3 (some .boolean) 0 T_M_throwing := by
  refine rg_good_of (P := P_M_throwing) (by decide) (rg_pok rg_F_M_ok rg_nil) ?_
  intro as w K Z hT hZ
  unfold T_M_throwing at hT
  split at hT
  rotate_left
  · exact hT.elim
  rename_i a b
  refine ⟨Nat.le_of_ble_eq_true rfl, ?_⟩
  show Z 0 [.ref 18, .int a, .int b] [] w 0
  refine hZ (rg_cut []) 400 0 _ _ _ ?_; simp only [rg_e_aload_0 (cut := rg_cut []) (f := true) d_M_throwing_0 rfl 1 rfl, rg_e_iload_1 (cut := rg_cut []) (f := false) d_M_throwing_1 rfl 2 rfl, rg_e_if_eq (cut := rg_cut []) (f := false) d_M_throwing_2 rfl 5 rfl 9 rfl, rg_e_iconst (cut := rg_cut []) (f := false) d_M_throwing_5 rfl 6 rfl (nI 1) rg_ki_1, rg_e_goto (cut := rg_cut []) (f := false) d_M_throwing_6 rfl 18 rfl, rg_e_iload_2 (cut := rg_cut []) (f := false) d_M_throwing_9 rfl 10 rfl, rg_e_if_eq (cut := rg_cut []) (f := false) d_M_throwing_10 rfl 13 rfl 17 rfl, rg_e_iconst (cut := rg_cut []) (f := false) d_M_throwing_13 rfl 14 rfl (nI 2) rg_ki_2, rg_e_goto (cut := rg_cut []) (f := false) d_M_throwing_14 rfl 18 rfl, rg_e_iconst (cut := rg_cut []) (f := false) d_M_throwing_17 rfl 18 rfl (nI 0) rg_ki_0, rg_e_put (P := P_M_throwing) (cut := rg_cut []) (f := false) d_M_throwing_18 rfl 21 rfl 18 4 0 rfl rfl, rg_e_aload_0 (cut := rg_cut []) (f := false) d_M_throwing_21 rfl 22 rfl, rg_e_geti (P := P_M_throwing) (cut := rg_cut []) (f := false) d_M_throwing_22 rfl 25 rfl 18 4 0 rfl (fun _ => rfl), rg_e_if_le (cut := rg_cut []) (f := false) d_M_throwing_25 rfl 28 rfl 32 rfl, rg_e_iconst (cut := rg_cut []) (f := false) d_M_throwing_28 rfl 29 rfl (nI 1) rg_ki_1, rg_e_goto (cut := rg_cut []) (f := false) d_M_throwing_29 rfl 33 rfl, rg_e_iconst (cut := rg_cut []) (f := false) d_M_throwing_32 rfl 33 rfl (nI 0) rg_ki_0, rg_e_iret (cut := rg_cut []) (f := false) d_M_throwing_33 rfl, rg_nx_i, rg_nx_v, rg_wd_n, rg_wd_i, rg_wd_l, rg_wd_r, rg_clr_i, rg_clr_l, rg_clr_r, rg_clr_a, rg_clr_n, true_and, and_true, Nat.reduceAdd, Nat.reduceLeDiff, rg_rt_e, rg_fit_ie, rg_fit_ve, rg_fit_1e, rg_fit_0e, rg_fit_be, rg_up_ss]
  refine ⟨fun h1 => ⟨fun h2 => ⟨fun h3 => ?_, fun h3 => absurd (by decide +kernel) h3⟩, fun h2 => ⟨fun h3 => absurd h3 (by decide +kernel), fun h3 => ?_⟩⟩, fun h1 => ⟨fun h3 => absurd h3 (by decide +kernel), fun h3 => ?_⟩⟩
  · simpa [zI, h1, h2] using hT
  · simpa [zI, h1, h2] using hT
  · simpa [zI, h1] using hT
-- M.out
def P_M_out : rg_P := (rg_F_M, [], [], [], [], [], 0)
def T_M_out : rg_T := fun as w K => match as with
  | [.int k, .int n] => K (some (.int (zI (decide (k < 0) || !decide (k < n))))) w
  | _ => False
theorem Te_M_out (k : Int32) (n : Int32) (w : rg_W) (K : Option Value → rg_W → Prop) : T_M_out [.int k, .int n] w K = (K (some (.int (zI (decide (k < 0) || !decide (k < n))))) w) := rfl
theorem G_M_out (l : Launch) : rg_Good l y_M_out c_M_out 2 (some .boolean) 0 T_M_out := by
  refine rg_good_of (P := P_M_out) (by decide) (rg_pok rg_F_M_ok rg_nil) ?_
  intro as w K Z hT hZ
  unfold T_M_out at hT
  split at hT
  rotate_left
  · exact hT.elim
  rename_i k n
  refine ⟨Nat.le_of_ble_eq_true rfl, ?_⟩
  show Z 0 [.int k, .int n] [] w 0
  refine hZ (rg_cut []) 400 0 _ _ _ ?_; simp only [rg_e_iload_0 (cut := rg_cut []) (f := true) d_M_out_0 rfl 1 rfl, rg_e_if_lt (cut := rg_cut []) (f := false) d_M_out_1 rfl 4 rfl 9 rfl, rg_e_iload_0 (cut := rg_cut []) (f := false) d_M_out_4 rfl 5 rfl, rg_e_iload_1 (cut := rg_cut []) (f := false) d_M_out_5 rfl 6 rfl, rg_e_icmp_lt (cut := rg_cut []) (f := false) d_M_out_6 rfl 9 rfl 13 rfl, rg_e_iconst (cut := rg_cut []) (f := false) d_M_out_9 rfl 10 rfl (nI 1) rg_ki_1, rg_e_goto (cut := rg_cut []) (f := false) d_M_out_10 rfl 14 rfl, rg_e_iconst (cut := rg_cut []) (f := false) d_M_out_13 rfl 14 rfl (nI 0) rg_ki_0, rg_e_iret (cut := rg_cut []) (f := false) d_M_out_14 rfl, rg_nx_i, rg_nx_v, rg_wd_n, rg_wd_i, rg_wd_l, rg_wd_r, rg_clr_i, rg_clr_l, rg_clr_r, rg_clr_a, rg_clr_n, true_and, and_true, Nat.reduceAdd, Nat.reduceLeDiff, rg_rt_e, rg_fit_ie, rg_fit_ve, rg_fit_1e, rg_fit_0e, rg_fit_be]
  refine ⟨fun h1 => ?_, fun h1 => ⟨fun h2 => ?_, fun h2 => ?_⟩⟩
  · rw [decide_eq_true h1] at hT; exact hT
  · rw [decide_eq_false h1, decide_eq_true h2] at hT; exact hT
  · rw [decide_eq_false h1, decide_eq_false h2] at hT; exact hT
/-- only the cells ks changed -/
def rg_fr (ks : List Nat) (w w' : rg_W) : Prop := (∀ k, k ∉ ks → w'.1 k = w.1 k) ∧ w'.2 = w.2
theorem rg_fr_rf (ks : List Nat) (w : rg_W) : rg_fr ks w w := ⟨fun _ _ => rfl, rfl⟩
theorem rg_fr_up {ks : List Nat} {w w' : rg_W} (h : rg_fr ks w w') {k : Nat} (hk : k ∈ ks) (j : Nat) (x : Int32) : rg_fr ks w (rg_up w' k j x) :=
  ⟨fun a ha => by rw [rg_up_n (fun e : a = k => ha (by rw [e]; exact hk))]; exact h.1 a ha, h.2⟩
theorem rg_fr_tr {ks : List Nat} {w w1 w2 : rg_W} (h : rg_fr ks w w1) (h2 : rg_fr ks w1 w2) : rg_fr ks w w2 := ⟨fun a ha => (h2.1 a ha).trans (h.1 a ha), h2.2.trans h.2⟩
theorem rg_fr_sub {ks js : List Nat} {w w1 : rg_W} (h : rg_fr js w w1) (hs : ∀ k ∈ js, k ∈ ks) : rg_fr ks w w1 := ⟨fun a ha => h.1 a (fun z => ha (hs a z)), h.2⟩
theorem upd_s (f : Nat → Int32) (k : Nat) (x : Int32) : upd f k x k = x := if_pos rfl
theorem upd_n {f : Nat → Int32} {k j : Nat} {x : Int32} (h : j ≠ k) : upd f k x j = f j := if_neg h
/-- Edges.forget -/
def FgR (w w' : rg_W) : Prop := rg_fr [4, 10, 11, 12] w w' ∧ (∀ i, i < 9 → w'.1 10 i = nI 0 ∧ w'.1 11 i = nI 0 ∧ w'.1 12 i = nI 0) ∧ w'.1 4 8 = nI 0 ∧ w'.1 4 9 = nI 0 ∧ w'.1 4 10 = nI 0
-- E.forget
def P_E_forget : rg_P := (rg_F_E, [], [], [], [], [], 0)
def T_E_forget : rg_T := fun as w K => match as with
  | [.ref 4] => ∀ w', FgR w w' → K none w'
  | _ => False
theorem Te_E_forget  (w : rg_W) (K : Option Value → rg_W → Prop) : T_E_forget [.ref 4] w K = (∀ w', FgR w w' → K none w') := rfl
theorem r_E_forget : ∀ as w K, T_E_forget as w K → ∃ r, as = .ref 4 :: r := by
  intro as w K h
  unfold T_E_forget at h
  split at h
  · exact ⟨_, rfl⟩
  · exact h.elim
theorem G_E_forget (l : Launch) : rg_Good l y_E_forget c_E_forget 2 none 0 T_E_forget := by
  refine rg_good_of (P := P_E_forget) (by decide) (rg_pok rg_F_E_ok rg_nil) ?_
  intro as w K Z hT hZ
  unfold T_E_forget at hT
  split at hT
  rotate_left
  · exact hT.elim
  refine ⟨Nat.le_of_ble_eq_true rfl, ?_⟩
  show Z 0 [.ref 4, .null] [] w 0
  have loop : ∀ (i : Nat) (w1 : rg_W), (i ≤ 9 ∧ rg_fr [4, 10, 11, 12] w w1 ∧ ∀ j, j < i → w1.1 10 j = nI 0 ∧ w1.1 11 j = nI 0 ∧ w1.1 12 j = nI 0) → Z 2 [.ref 4, .int (nI i)] [] w1 0 := by
    refine rg_lp2 _ _ (fun i _ => 9 - i) ?_
    intro i w1 ⟨hi, hf, hj⟩ ih
    refine hZ (rg_cut [2]) 400 2 _ _ _ ?_; simp only [rg_e_iload_1 (cut := rg_cut [2]) (f := true) d_E_forget_2 rfl 3 rfl, rg_e_bipush (cut := rg_cut [2]) (f := false) d_E_forget_3 rfl 5 rfl (nI 9) rg_kb_9, rg_e_icmp_ge (cut := rg_cut [2]) (f := false) d_E_forget_5 rfl 8 rfl 35 rfl, rg_e_aload_0 (cut := rg_cut [2]) (f := false) d_E_forget_8 rfl 9 rfl, rg_e_getr (P := P_E_forget) (cut := rg_cut [2]) (f := false) d_E_forget_9 rfl 12 rfl 4 2 5 10 rfl (fun _ => rfl), rg_e_iload_1 (cut := rg_cut [2]) (f := false) d_E_forget_12 rfl 13 rfl, rg_e_iconst (cut := rg_cut [2]) (f := false) d_E_forget_13 rfl 14 rfl (nI 0) rg_ki_0, rg_e_iast (cut := rg_cut [2]) (f := false) d_E_forget_14 rfl 15 rfl 10 9 rfl, rg_e_aload_0 (cut := rg_cut [2]) (f := false) d_E_forget_15 rfl 16 rfl, rg_e_getr (P := P_E_forget) (cut := rg_cut [2]) (f := false) d_E_forget_16 rfl 19 rfl 4 2 6 11 rfl (fun _ => rfl), rg_e_iload_1 (cut := rg_cut [2]) (f := false) d_E_forget_19 rfl 20 rfl, rg_e_iconst (cut := rg_cut [2]) (f := false) d_E_forget_20 rfl 21 rfl (nI 0) rg_ki_0, rg_e_iast (cut := rg_cut [2]) (f := false) d_E_forget_21 rfl 22 rfl 11 9 rfl, rg_e_aload_0 (cut := rg_cut [2]) (f := false) d_E_forget_22 rfl 23 rfl, rg_e_getr (P := P_E_forget) (cut := rg_cut [2]) (f := false) d_E_forget_23 rfl 26 rfl 4 2 7 12 rfl (fun _ => rfl), rg_e_iload_1 (cut := rg_cut [2]) (f := false) d_E_forget_26 rfl 27 rfl, rg_e_iconst (cut := rg_cut [2]) (f := false) d_E_forget_27 rfl 28 rfl (nI 0) rg_ki_0, rg_e_iast (cut := rg_cut [2]) (f := false) d_E_forget_28 rfl 29 rfl 12 9 rfl, rg_e_iinc_1 (cut := rg_cut [2]) (f := false) d_E_forget_29 rfl 32 rfl (nI 1) rg_ki_1, rg_e_goto (cut := rg_cut [2]) (f := false) d_E_forget_32 rfl 2 rfl, rg_e_aload_0 (cut := rg_cut [2]) (f := false) d_E_forget_35 rfl 36 rfl, rg_e_iconst (cut := rg_cut [2]) (f := false) d_E_forget_36 rfl 37 rfl (nI 0) rg_ki_0, rg_e_put (P := P_E_forget) (cut := rg_cut [2]) (f := false) d_E_forget_37 rfl 40 rfl 4 2 8 rfl rfl, rg_e_aload_0 (cut := rg_cut [2]) (f := false) d_E_forget_40 rfl 41 rfl, rg_e_iconst (cut := rg_cut [2]) (f := false) d_E_forget_41 rfl 42 rfl (nI 0) rg_ki_0, rg_e_put (P := P_E_forget) (cut := rg_cut [2]) (f := false) d_E_forget_42 rfl 45 rfl 4 2 9 rfl rfl, rg_e_aload_0 (cut := rg_cut [2]) (f := false) d_E_forget_45 rfl 46 rfl, rg_e_iconst (cut := rg_cut [2]) (f := false) d_E_forget_46 rfl 47 rfl (nI 0) rg_ki_0, rg_e_put (P := P_E_forget) (cut := rg_cut [2]) (f := false) d_E_forget_47 rfl 50 rfl 4 2 10 rfl rfl, rg_e_vret (cut := rg_cut [2]) (f := false) d_E_forget_50 rfl, rg_e_cut (cut := rg_cut [2]) 2 rfl, rg_nx_i, rg_nx_v, rg_wd_n, rg_wd_i, rg_wd_l, rg_wd_r, rg_clr_i, rg_clr_l, rg_clr_r, rg_clr_a, rg_clr_n, true_and, and_true, Nat.reduceAdd, Nat.reduceLeDiff, rg_rt_e, rg_fit_ie, rg_fit_ve, rg_fit_1e, rg_fit_0e, rg_fit_be]
    refine ⟨fun h => ?_, fun h => ?_⟩
    · have hi9 : i = 9 := by
        have := (nI_leI (a := 9) (b := i) (by omega) (by omega)).mp h
        omega
      subst hi9
      refine hT _ ⟨rg_fr_up (rg_fr_up (rg_fr_up hf (by decide) _ _) (by decide) _ _) (by decide) _ _, fun j hj9 => ?_, ?_, ?_, ?_⟩
      · simpa [rg_up_n] using hj j hj9
      · simp [rg_up_s, upd]
      · simp [rg_up_s, upd]
      · simp [rg_up_s, upd]
    · have hi9 : i < 9 := by
        rcases Nat.lt_or_ge i 9 with q | q
        · exact q
        · exact absurd (nI_le q (by omega)) h
      have hv : vp_in (nI i) 9 := vp_in_nI hi9 (by omega)
      have hc : (nI i).toNatClampNeg = i := nI_clamp (by omega)
      refine ⟨hv, hv, hv, ?_⟩
      rw [nI_add, hc]
      refine ih (i + 1) _ ⟨by omega, rg_fr_up (rg_fr_up (rg_fr_up hf (by decide) _ _) (by decide) _ _) (by decide) _ _, fun j hj1 => ?_⟩ (by omega)
      by_cases hji : j = i
      · subst hji
        simp [rg_up_s, rg_up_n, upd]
      · have := hj j (by omega)
        simpa [rg_up_s, rg_up_n, upd, hji] using this
  refine hZ (rg_cut [2]) 400 0 _ _ _ ?_; simp only [rg_e_iconst (cut := rg_cut [2]) (f := true) d_E_forget_0 rfl 1 rfl (nI 0) rg_ki_0, rg_e_istore_1 (cut := rg_cut [2]) (f := false) d_E_forget_1 rfl 2 rfl, rg_e_cut (cut := rg_cut [2]) 2 rfl, rg_nx_i, rg_nx_v, rg_wd_n, rg_wd_i, rg_wd_l, rg_wd_r, rg_clr_i, rg_clr_l, rg_clr_r, rg_clr_a, rg_clr_n, true_and, and_true, Nat.reduceAdd, Nat.reduceLeDiff, rg_rt_e, rg_fit_ie, rg_fit_ve, rg_fit_1e, rg_fit_0e, rg_fit_be]
  exact loop 0 w ⟨by omega, rg_fr_rf _ _, fun j hj => absurd hj (by omega)⟩
end
section
/-! bits (out of laws/BITS.to-paste), digits, packed letters -/
def bt (x : Int32) (i : Nat) : Bool := x.toBitVec.getLsbD i
theorem b_ext {x y : Int32} (h : ∀ i, i < 32 → bt x i = bt y i) : x = y := Int32.toBitVec_inj.mp (BitVec.eq_of_getLsbD_eq (fun i hi => h i hi))
theorem b_or (x y : Int32) (i : Nat) : bt (x ||| y) i = (bt x i || bt y i) := by unfold bt; rw [Int32.toBitVec_or, BitVec.getLsbD_or]
theorem b_and (x y : Int32) (i : Nat) : bt (x &&& y) i = (bt x i && bt y i) := by unfold bt; rw [Int32.toBitVec_and, BitVec.getLsbD_and]
theorem b_xor (x y : Int32) (i : Nat) : bt (x ^^^ y) i = (bt x i ^^ bt y i) := by unfold bt; rw [Int32.toBitVec_xor, BitVec.getLsbD_xor]
theorem b_big {x : Int32} {i : Nat} (h : 32 ≤ i) : bt x i = false := BitVec.getLsbD_of_ge _ _ h
theorem b_255 (i : Nat) : bt 255 i = decide (i < 8) := by
  rcases Nat.lt_or_ge i 32 with h | h
  · exact (by decide +kernel : ∀ i, i < 32 → bt 255 i = decide (i < 8)) i h
  · rw [b_big h, decide_eq_false (by omega)]
theorem b_65535 (i : Nat) : bt 65535 i = decide (i < 16) := by
  rcases Nat.lt_or_ge i 32 with h | h
  · exact (by decide +kernel : ∀ i, i < 32 → bt 65535 i = decide (i < 16)) i h
  · rw [b_big h, decide_eq_false (by omega)]
theorem b_m1 : ∀ i, i < 32 → bt (-1) i = true := by decide +kernel
theorem b_0 (i : Nat) : bt 0 i = false := BitVec.getLsbD_zero
theorem s_l : ∀ n, n < 32 → ((nI n &&& 31).toBitVec.smod 32).toNat = n := by decide +kernel
theorem s_u : ∀ n, n < 32 → (((nI n).toUInt32 &&& Int32.toUInt32 31).toBitVec % 32).toNat = n := by decide +kernel
theorem b_shl (n : Nat) (hn : n < 32) (x : Int32) {i : Nat} (hi : i < 32) : bt (x <<< (nI n &&& 31)) i = (decide (n ≤ i) && bt x (i - n)) := by
  unfold bt
  rw [Int32.toBitVec_shiftLeft]
  show (x.toBitVec <<< ((nI n &&& 31).toBitVec.smod 32).toNat).getLsbD i = _
  rw [s_l n hn, BitVec.getLsbD_shiftLeft]
  rcases Nat.lt_or_ge i n with h | h
  · simp [h, Nat.not_le.mpr h]
  · simp [hi, h, Nat.not_lt.mpr h]
theorem b_ushr (n : Nat) (hn : n < 32) (x : Int32) (i : Nat) : bt ((x.toUInt32 >>> ((nI n).toUInt32 &&& Int32.toUInt32 31)).toInt32) i = bt x (n + i) := by
  show (x.toUInt32 >>> ((nI n).toUInt32 &&& Int32.toUInt32 31)).toBitVec.getLsbD i = x.toUInt32.toBitVec.getLsbD (n + i)
  rw [UInt32.toBitVec_shiftRight]
  show (x.toUInt32.toBitVec >>> (((nI n).toUInt32 &&& Int32.toUInt32 31).toBitVec % 32).toNat).getLsbD i = _
  rw [s_u n hn, BitVec.getLsbD_ushiftRight]
theorem b_sshr (n : Nat) (hn : n < 32) (x : Int32) {i : Nat} (hi : i < 32) : bt (x >>> (nI n &&& 31)) i = if n + i < 32 then bt x (n + i) else bt x 31 := by
  unfold bt
  rw [Int32.toBitVec_shiftRight]
  show (x.toBitVec.sshiftRight ((nI n &&& 31).toBitVec.smod 32).toNat).getLsbD i = _
  rw [s_l n hn, BitVec.getLsbD_sshiftRight, BitVec.msb_eq_getLsbD_last]
  simp [hi]
/-! numbers by their digits to base four -/
theorem dg_s (x m : Nat) : x / 4 ^ (m + 1) = x / 4 / 4 ^ m := by
  rw [Nat.pow_succ, Nat.mul_comm, Nat.div_div_eq_div_mul]
theorem dg_ext (n : Nat) : ∀ x y : Nat, x < 4 ^ n → y < 4 ^ n → (∀ m, m < n → x / 4 ^ m % 4 = y / 4 ^ m % 4) → x = y := by
  induction n with
  | zero =>
    intro x y hx hy _
    rw [Nat.pow_zero] at hx hy
    omega
  | succ n ih =>
    intro x y hx hy h
    rw [Nat.pow_succ] at hx hy
    have h0 := h 0 (by omega)
    rw [Nat.pow_zero, Nat.div_one, Nat.div_one] at h0
    have h1 : x / 4 = y / 4 := ih _ _ (by omega) (by omega) (fun m hm => by
      have := h (m + 1) (by omega)
      rw [dg_s, dg_s] at this
      exact this)
    omega
theorem dg_add (x a b : Nat) : x / 4 ^ (a + b) = x / 4 ^ a / 4 ^ b := by
  rw [Nat.pow_add, Nat.div_div_eq_div_mul]
/-- a digit of the lowest n digits -/
theorem dg_mod (x n : Nat) : ∀ m, m < n → x % 4 ^ n / 4 ^ m % 4 = x / 4 ^ m % 4 := by
  induction n generalizing x with
  | zero => intro m hm; omega
  | succ n ih =>
    intro m hm
    cases m with
    | zero =>
      rw [Nat.pow_zero, Nat.div_one, Nat.div_one, Nat.pow_succ]
      rw [Nat.mod_mul_left_mod]
    | succ m =>
      rw [dg_s, dg_s]
      have e : x % 4 ^ (n + 1) / 4 = x / 4 % 4 ^ n := by
        rw [Nat.pow_succ, Nat.mul_comm, Nat.mod_mul_right_div_self]
      rw [e]
      exact ih (x / 4) m (by omega)
/-- letter k of a read of L letters packed as p -/
def lt4 (L p k : Nat) : Nat := p / 4 ^ (L - 1 - k) % 4
/-- two parts of n letters, b and d letters from the ends, are the same -/
theorem lt4_seg {L p M q n b d : Nat} (hb : n + b ≤ L) (hd : n + d ≤ M) :
    (p / 4 ^ b % 4 ^ n = q / 4 ^ d % 4 ^ n) ↔ ∀ k, k < n → lt4 L p (L - n - b + k) = lt4 M q (M - n - d + k) := by
  have key : ∀ {L p b k : Nat}, n + b ≤ L → k < n → lt4 L p (L - n - b + k) = p / 4 ^ b % 4 ^ n / 4 ^ (n - 1 - k) % 4 := by
    intro L p b k hb hk
    rw [dg_mod _ _ _ (by omega), ← dg_add]
    unfold lt4
    rw [show L - 1 - (L - n - b + k) = b + (n - 1 - k) by omega]
  constructor
  · intro h k hk
    rw [key hb hk, key hd hk, h]
  · intro h
    refine dg_ext n _ _ (Nat.mod_lt _ (Nat.pow_pos (by decide))) (Nat.mod_lt _ (Nat.pow_pos (by decide))) (fun m hm => ?_)
    have := h (n - 1 - m) (by omega)
    rw [key hb (by omega), key hd (by omega), show n - 1 - (n - 1 - m) = m by omega] at this
    exact this

theorem lw_m : ∀ n, n < 13 → ((nI 1 <<< ((nI 2 * nI n) &&& 31)) - nI 1).toBitVec.toNat = 2 ^ (2 * n) - 1 := by decide +kernel
theorem lw_s : ∀ n, n < 13 → (((nI 2 * nI n) &&& 31).toBitVec.smod 32).toNat = 2 * n := by decide +kernel
theorem p4 (n : Nat) : 2 ^ (2 * n) = 4 ^ n := by rw [Nat.pow_mul]
theorem lowI_raw (x : Int32) {n : Nat} (hn : n ≤ 12) : lowI x (nI n) = nI (x.toBitVec.toNat % 4 ^ n) := by
  unfold lowI
  rw [pk_and x (2 * n) (lw_m n (by omega)), p4]
theorem lowI_n {p n : Nat} (hp : p < 2 ^ 32) (hn : n ≤ 12) : lowI (nI p) (nI n) = nI (p % 4 ^ n) := by
  rw [lowI_raw _ hn, pk_tn hp]
theorem shr_n {p b : Nat} (hp : p < 2 ^ 31) (hb : b ≤ 12) : nI p >>> ((nI 2 * nI b) &&& 31) = nI (p / 4 ^ b) := by
  rw [pk_shrN hp _ (2 * b) (lw_s b (by omega)), p4]
theorem bt_nI (a i : Nat) (hi : i < 32) : bt (nI a) i = a.testBit i := by
  unfold bt nI
  show (BitVec.ofNat 32 a).getLsbD i = _
  rw [BitVec.getLsbD_ofNat]
  simp [hi]
theorem bt_toNat (x : Int32) (i : Nat) : bt x i = x.toBitVec.toNat.testBit i := rfl
theorem lt_raw (x : Int32) {m : Nat} (hm : m ≤ 11) : (x >>> ((nI 2 * nI m) &&& 31)) &&& nI 3 = nI (x.toBitVec.toNat / 4 ^ m % 4) := by
  apply b_ext
  intro i hi
  have e2 : nI 2 * nI m = nI (2 * m) := by rw [pk_mul]
  rw [b_and, e2, b_sshr (2 * m) (by omega) x hi, bt_nI _ i hi, bt_nI _ i hi, ← p4, show (4 : Nat) = 2 ^ 2 from rfl, Nat.testBit_mod_two_pow, ← Nat.shiftRight_eq_div_pow, Nat.testBit_shiftRight]
  have h3 : ∀ i, i < 32 → Nat.testBit 3 i = decide (i < 2) := by decide +kernel
  rw [h3 i hi]
  by_cases h : i < 2
  · rw [if_pos (by omega), bt_toNat, decide_eq_true h]
    simp
  · rw [decide_eq_false h]
    simp
theorem p4_le {n : Nat} (h : n ≤ 12) : 4 ^ n ≤ 16777216 := by
  have := Nat.pow_le_pow_right (n := 4) (by decide) h
  omega
end
section
/-! Reads: which reads are said by others, what two share -/
theorem i_m1 (x : Int32) : x + (-1) = x - nI 1 := by
  rw [Int32.sub_eq_add_neg]
  rfl
theorem nI_eqp {a b : Nat} (ha : a < 2 ^ 31) (hb : b < 2 ^ 31) : (nI a = nI b) = (a = b) := propext (nI_eq ha hb)
theorem nI_lep {a b : Nat} (ha : a < 2 ^ 31) (hb : b < 2 ^ 31) : (nI a ≤ nI b) = (a ≤ b) := propext (nI_leI ha hb)
theorem nI_ltp {a b : Nat} (ha : a < 2 ^ 31) (hb : b < 2 ^ 31) : (nI a < nI b) = (a < b) := propext (nI_ltI ha hb)
theorem nI_lt0 {a : Nat} (ha : a < 2 ^ 31) : (nI a < 0) = False := eq_false (nI_pos ha)
theorem nI_eq0 {a : Nat} (ha : a < 2 ^ 31) : (nI a = 0) = (a = 0) := by
  rw [← nI_0]
  exact nI_eqp ha (by decide)
/-- the reads as numbers: how many, their lengths, their letters packed -/
def Rd (nr : Nat) (ln pk : Nat → Nat) (w : rg_W) : Prop := nr ≤ 9 ∧ w.1 1 2 = nI nr ∧ ∀ i, i < nr → 3 ≤ ln i ∧ ln i ≤ 12 ∧ pk i < 4 ^ ln i ∧ w.1 3 i = nI (ln i) ∧ w.1 2 i = nI (pk i)
theorem Rd.fr {nr : Nat} {ln pk : Nat → Nat} {w w' : rg_W} (h : Rd nr ln pk w) (h1 : w'.1 1 = w.1 1) (h2 : w'.1 2 = w.1 2) (h3 : w'.1 3 = w.1 3) : Rd nr ln pk w' := by
  unfold Rd at h ⊢
  rw [h1, h2, h3]
  exact h
theorem Rd.pk_lt {nr : Nat} {ln pk : Nat → Nat} {w : rg_W} (h : Rd nr ln pk w) {i : Nat} (hi : i < nr) : pk i < 16777216 := by
  obtain ⟨a, b, c, -⟩ := h.2.2 i hi
  have := p4_le b
  omega
/-- the letters of r stand in o at b letters from its end -/
def mtB (ln pk : Nat → Nat) (r o b : Nat) : Bool := decide (pk o / 4 ^ b % 4 ^ ln r = pk r)
def sdB (ln pk : Nat → Nat) (r o : Nat) : Bool := if ln o = ln r then decide (o < r) && decide (pk o = pk r) else decide (ln r < ln o) && (List.range (ln o - ln r + 1)).any (mtB ln pk r o)
-- R.isSaidBy
def P_R_isSaidBy : rg_P := (rg_F_R, [(44, 2, 0, T_R_lowest)], [], [], [], [], 0)
def T_R_isSaidBy : rg_T := fun as w K => match as with
  | [.ref 1, .int r, .int o] => ∃ nr ln pk r' o', Rd nr ln pk w ∧ r = nI r' ∧ o = nI o' ∧ r' < nr ∧ o' < nr ∧ K (some (.int (zI (sdB ln pk r' o')))) w
  | _ => False
theorem Te_R_isSaidBy (r : Int32) (o : Int32) (w : rg_W) (K : Option Value → rg_W → Prop) : T_R_isSaidBy [.ref 1, .int r, .int o] w K = (∃ nr ln pk r' o', Rd nr ln pk w ∧ r = nI r' ∧ o = nI o' ∧ r' < nr ∧ o' < nr ∧ K (some (.int (zI (sdB ln pk r' o')))) w) := rfl
theorem r_R_isSaidBy : ∀ as w K, T_R_isSaidBy as w K → ∃ r, as = .ref 1 :: r := by
  intro as w K h
  unfold T_R_isSaidBy at h
  split at h
  · exact ⟨_, rfl⟩
  · exact h.elim
theorem G_R_isSaidBy (l : Launch) : rg_Good l y_R_isSaidBy c_R_isSaidBy 4 (some .boolean) 1 T_R_isSaidBy := by
  refine rg_good_of (P := P_R_isSaidBy) (by decide) (rg_pok rg_F_R_ok (rg_cons (cw_R_22 (G_R_lowest l) (by decide)) rg_nil)) ?_
  intro as w K Z hT hZ
  unfold T_R_isSaidBy at hT
  split at hT
  rotate_left
  · exact hT.elim
  rename_i r o
  refine ⟨Nat.le_of_ble_eq_true rfl, ?_⟩
  show Z 0 [.ref 1, .int r, .int o, .null] [] w 0
  obtain ⟨nr, ln, pk, r', o', hR, rfl, rfl, hr, ho, hK⟩ := hT
  obtain ⟨hn9, -, hall⟩ := id hR
  obtain ⟨a1, a2, a3, a4, a5⟩ := hall r' hr
  obtain ⟨b1, b2, b3, b4, b5⟩ := hall o' ho
  have pr := hR.pk_lt hr
  have po := hR.pk_lt ho
  have vr : vp_in (nI r') 9 := vp_in_nI (by omega) (by omega)
  have vo : vp_in (nI o') 9 := vp_in_nI (by omega) (by omega)
  have cr : (nI r').toNatClampNeg = r' := nI_clamp (by omega)
  have co : (nI o').toNatClampNeg = o' := nI_clamp (by omega)
  have e1 : (nI (ln o') = nI (ln r')) = (ln o' = ln r') := nI_eqp (by omega) (by omega)
  have e2 : (nI r' ≤ nI o') = (r' ≤ o') := nI_lep (by omega) (by omega)
  have e3 : (nI (pk o') = nI (pk r')) = (pk o' = pk r') := nI_eqp (by omega) (by omega)
  have loop : ln r' < ln o' → ∀ m, (m ≤ ln o' - ln r' + 1 ∧ ∀ b, m ≤ b → b ≤ ln o' - ln r' → mtB ln pk r' o' b = false) → Z 55 [.ref 1, .int (nI r'), .int (nI o'), .int (nI m - nI 1)] [] w 0 := by
    intro hlt
    refine rg_lp1 _ _ (fun m => m) ?_
    intro m ⟨hm, hno⟩ ih
    refine hZ (rg_cut [55]) 400 55 _ _ _ ?_; simp only [rg_e_iload_3 (cut := rg_cut [55]) (f := true) d_R_isSaidBy_55 rfl 56 rfl, rg_e_if_lt (cut := rg_cut [55]) (f := false) d_R_isSaidBy_56 rfl 59 rfl 95 rfl, rg_e_aload_0 (cut := rg_cut [55]) (f := false) d_R_isSaidBy_59 rfl 60 rfl, rg_e_getr (P := P_R_isSaidBy) (cut := rg_cut [55]) (f := false) d_R_isSaidBy_60 rfl 63 rfl 1 1 0 2 rfl (fun _ => rfl), rg_e_iload_2 (cut := rg_cut [55]) (f := false) d_R_isSaidBy_63 rfl 64 rfl, rg_e_iald (cut := rg_cut [55]) (f := false) d_R_isSaidBy_64 rfl 65 rfl 2 9 rfl, rg_e_iconst (cut := rg_cut [55]) (f := false) d_R_isSaidBy_65 rfl 66 rfl (nI 2) rg_ki_2, rg_e_iload_3 (cut := rg_cut [55]) (f := false) d_R_isSaidBy_66 rfl 67 rfl, rg_e_imul (cut := rg_cut [55]) (f := false) d_R_isSaidBy_67 rfl 68 rfl, rg_e_ishr (cut := rg_cut [55]) (f := false) d_R_isSaidBy_68 rfl 69 rfl, rg_e_aload_0 (cut := rg_cut [55]) (f := false) d_R_isSaidBy_69 rfl 70 rfl, rg_e_getr (P := P_R_isSaidBy) (cut := rg_cut [55]) (f := false) d_R_isSaidBy_70 rfl 73 rfl 1 1 1 3 rfl (fun _ => rfl), rg_e_iload_1 (cut := rg_cut [55]) (f := false) d_R_isSaidBy_73 rfl 74 rfl, rg_e_iald (cut := rg_cut [55]) (f := false) d_R_isSaidBy_74 rfl 75 rfl 3 9 rfl, rg_e_cs2 (P := P_R_isSaidBy) (cut := rg_cut [55]) (f := false) d_R_isSaidBy_75 rfl T_R_lowest rfl, rg_e_aload_0 (cut := rg_cut [55]) (f := false) d_R_isSaidBy_78 rfl 79 rfl, rg_e_getr (P := P_R_isSaidBy) (cut := rg_cut [55]) (f := false) d_R_isSaidBy_79 rfl 82 rfl 1 1 0 2 rfl (fun _ => rfl), rg_e_iload_1 (cut := rg_cut [55]) (f := false) d_R_isSaidBy_82 rfl 83 rfl, rg_e_iald (cut := rg_cut [55]) (f := false) d_R_isSaidBy_83 rfl 84 rfl 2 9 rfl, rg_e_icmp_ne (cut := rg_cut [55]) (f := false) d_R_isSaidBy_84 rfl 87 rfl 89 rfl, rg_e_iconst (cut := rg_cut [55]) (f := false) d_R_isSaidBy_87 rfl 88 rfl (nI 1) rg_ki_1, rg_e_iret (cut := rg_cut [55]) (f := false) d_R_isSaidBy_88 rfl, rg_e_iinc_3 (cut := rg_cut [55]) (f := false) d_R_isSaidBy_89 rfl 92 rfl (-1) rg_ki_m1, rg_e_goto (cut := rg_cut [55]) (f := false) d_R_isSaidBy_92 rfl 55 rfl, rg_e_iconst (cut := rg_cut [55]) (f := false) d_R_isSaidBy_95 rfl 96 rfl (nI 0) rg_ki_0, rg_e_iret (cut := rg_cut [55]) (f := false) d_R_isSaidBy_96 rfl, rg_e_cut (cut := rg_cut [55]) 55 rfl, rg_nx_i, rg_nx_v, rg_wd_n, rg_wd_i, rg_wd_l, rg_wd_r, rg_clr_i, rg_clr_l, rg_clr_r, rg_clr_a, rg_clr_n, true_and, and_true, Nat.reduceAdd, Nat.reduceLeDiff, ↓Te_R_lowest, rg_rt_e, rg_fit_ie, rg_fit_ve, rg_fit_1e, rg_fit_0e, rg_fit_be, vr, vo, cr, co, a4, a5, b4, b5]
    refine ⟨fun h => ?_, fun h => ?_⟩
    · have hm0 : m = 0 := by
        rcases Nat.eq_zero_or_pos m with q | q
        · exact q
        · rw [pk_sub q] at h
          exact absurd h (nI_pos (by omega))
      subst hm0
      have : sdB ln pk r' o' = false := by
        unfold sdB
        rw [if_neg (by omega)]
        have : (List.range (ln o' - ln r' + 1)).any (mtB ln pk r' o') = false := by
          rw [List.any_eq_false]
          intro b hb
          rw [hno b (by omega) (by have := List.mem_range.mp hb; omega)]
          decide
        rw [this, Bool.and_false]
      rw [this] at hK
      exact hK
    · have hm1 : 1 ≤ m := by
        rcases Nat.eq_zero_or_pos m with q | q
        · subst q
          exact absurd (pk_sneg (by omega) (by omega)) h
        · exact q
      rw [pk_sub hm1, shr_n (by omega) (by omega), lowI_n (by have := Nat.div_le_self (pk o') (4 ^ (m - 1)); omega) (by omega)]
      have hlt4 : pk o' / 4 ^ (m - 1) % 4 ^ ln r' < 16777216 := by
        have := Nat.mod_lt (pk o' / 4 ^ (m - 1)) (Nat.pow_pos (n := ln r') (by decide : 0 < 4))
        have := p4_le a2
        omega
      rw [nI_eqp (by omega) (by omega)]
      refine ⟨fun h1 => ?_, fun h1 => ?_⟩
      · rw [i_m1]
        refine ih (m - 1) ⟨by omega, fun b h2 h3 => ?_⟩ (by omega)
        by_cases hb : b = m - 1
        · subst hb
          exact decide_eq_false h1
        · exact hno b (by omega) h3
      · have h1 := Classical.not_not.mp h1
        have : sdB ln pk r' o' = true := by
          unfold sdB
          rw [if_neg (by omega), decide_eq_true hlt, Bool.true_and, List.any_eq_true]
          exact ⟨m - 1, List.mem_range.mpr (by omega), decide_eq_true h1⟩
        rw [this] at hK
        exact hK
  refine hZ (rg_cut [55]) 400 0 _ _ _ ?_; simp only [rg_e_aload_0 (cut := rg_cut [55]) (f := true) d_R_isSaidBy_0 rfl 1 rfl, rg_e_getr (P := P_R_isSaidBy) (cut := rg_cut [55]) (f := false) d_R_isSaidBy_1 rfl 4 rfl 1 1 1 3 rfl (fun _ => rfl), rg_e_iload_2 (cut := rg_cut [55]) (f := false) d_R_isSaidBy_4 rfl 5 rfl, rg_e_iald (cut := rg_cut [55]) (f := false) d_R_isSaidBy_5 rfl 6 rfl 3 9 rfl, rg_e_aload_0 (cut := rg_cut [55]) (f := false) d_R_isSaidBy_6 rfl 7 rfl, rg_e_getr (P := P_R_isSaidBy) (cut := rg_cut [55]) (f := false) d_R_isSaidBy_7 rfl 10 rfl 1 1 1 3 rfl (fun _ => rfl), rg_e_iload_1 (cut := rg_cut [55]) (f := false) d_R_isSaidBy_10 rfl 11 rfl, rg_e_iald (cut := rg_cut [55]) (f := false) d_R_isSaidBy_11 rfl 12 rfl 3 9 rfl, rg_e_icmp_ne (cut := rg_cut [55]) (f := false) d_R_isSaidBy_12 rfl 15 rfl 41 rfl, rg_e_iload_2 (cut := rg_cut [55]) (f := false) d_R_isSaidBy_15 rfl 16 rfl, rg_e_iload_1 (cut := rg_cut [55]) (f := false) d_R_isSaidBy_16 rfl 17 rfl, rg_e_icmp_ge (cut := rg_cut [55]) (f := false) d_R_isSaidBy_17 rfl 20 rfl 39 rfl, rg_e_aload_0 (cut := rg_cut [55]) (f := false) d_R_isSaidBy_20 rfl 21 rfl, rg_e_getr (P := P_R_isSaidBy) (cut := rg_cut [55]) (f := false) d_R_isSaidBy_21 rfl 24 rfl 1 1 0 2 rfl (fun _ => rfl), rg_e_iload_2 (cut := rg_cut [55]) (f := false) d_R_isSaidBy_24 rfl 25 rfl, rg_e_iald (cut := rg_cut [55]) (f := false) d_R_isSaidBy_25 rfl 26 rfl 2 9 rfl, rg_e_aload_0 (cut := rg_cut [55]) (f := false) d_R_isSaidBy_26 rfl 27 rfl, rg_e_getr (P := P_R_isSaidBy) (cut := rg_cut [55]) (f := false) d_R_isSaidBy_27 rfl 30 rfl 1 1 0 2 rfl (fun _ => rfl), rg_e_iload_1 (cut := rg_cut [55]) (f := false) d_R_isSaidBy_30 rfl 31 rfl, rg_e_iald (cut := rg_cut [55]) (f := false) d_R_isSaidBy_31 rfl 32 rfl 2 9 rfl, rg_e_icmp_ne (cut := rg_cut [55]) (f := false) d_R_isSaidBy_32 rfl 35 rfl 39 rfl, rg_e_iconst (cut := rg_cut [55]) (f := false) d_R_isSaidBy_35 rfl 36 rfl (nI 1) rg_ki_1, rg_e_goto (cut := rg_cut [55]) (f := false) d_R_isSaidBy_36 rfl 40 rfl, rg_e_iconst (cut := rg_cut [55]) (f := false) d_R_isSaidBy_39 rfl 40 rfl (nI 0) rg_ki_0, rg_e_iret (cut := rg_cut [55]) (f := false) d_R_isSaidBy_40 rfl, rg_e_aload_0 (cut := rg_cut [55]) (f := false) d_R_isSaidBy_41 rfl 42 rfl, rg_e_getr (P := P_R_isSaidBy) (cut := rg_cut [55]) (f := false) d_R_isSaidBy_42 rfl 45 rfl 1 1 1 3 rfl (fun _ => rfl), rg_e_iload_2 (cut := rg_cut [55]) (f := false) d_R_isSaidBy_45 rfl 46 rfl, rg_e_iald (cut := rg_cut [55]) (f := false) d_R_isSaidBy_46 rfl 47 rfl 3 9 rfl, rg_e_aload_0 (cut := rg_cut [55]) (f := false) d_R_isSaidBy_47 rfl 48 rfl, rg_e_getr (P := P_R_isSaidBy) (cut := rg_cut [55]) (f := false) d_R_isSaidBy_48 rfl 51 rfl 1 1 1 3 rfl (fun _ => rfl), rg_e_iload_1 (cut := rg_cut [55]) (f := false) d_R_isSaidBy_51 rfl 52 rfl, rg_e_iald (cut := rg_cut [55]) (f := false) d_R_isSaidBy_52 rfl 53 rfl 3 9 rfl, rg_e_isub (cut := rg_cut [55]) (f := false) d_R_isSaidBy_53 rfl 54 rfl, rg_e_istore_3 (cut := rg_cut [55]) (f := false) d_R_isSaidBy_54 rfl 55 rfl, rg_e_cut (cut := rg_cut [55]) 55 rfl, rg_nx_i, rg_nx_v, rg_wd_n, rg_wd_i, rg_wd_l, rg_wd_r, rg_clr_i, rg_clr_l, rg_clr_r, rg_clr_a, rg_clr_n, true_and, and_true, Nat.reduceAdd, Nat.reduceLeDiff, ↓Te_R_lowest, rg_rt_e, rg_fit_ie, rg_fit_ve, rg_fit_1e, rg_fit_0e, rg_fit_be, vr, vo, cr, co, a4, a5, b4, b5, e1, e2, e3]
  refine ⟨fun h => ?_, fun h => ⟨fun h2 => ?_, fun h2 => ⟨fun h3 => ?_, fun h3 => ?_⟩⟩⟩
  · by_cases hlt : ln r' < ln o'
    · rw [pk_sub (by omega)]
      have := loop hlt (ln o' - ln r' + 1) ⟨by omega, fun b h1 h2 => by omega⟩
      rw [pk_sub (by omega), Nat.add_sub_cancel] at this
      exact this
    · refine hZ (rg_cut [55]) 400 55 _ _ _ ?_; simp only [rg_e_iload_3 (cut := rg_cut [55]) (f := true) d_R_isSaidBy_55 rfl 56 rfl, rg_e_if_lt (cut := rg_cut [55]) (f := false) d_R_isSaidBy_56 rfl 59 rfl 95 rfl, rg_e_aload_0 (cut := rg_cut [55]) (f := false) d_R_isSaidBy_59 rfl 60 rfl, rg_e_getr (P := P_R_isSaidBy) (cut := rg_cut [55]) (f := false) d_R_isSaidBy_60 rfl 63 rfl 1 1 0 2 rfl (fun _ => rfl), rg_e_iload_2 (cut := rg_cut [55]) (f := false) d_R_isSaidBy_63 rfl 64 rfl, rg_e_iald (cut := rg_cut [55]) (f := false) d_R_isSaidBy_64 rfl 65 rfl 2 9 rfl, rg_e_iconst (cut := rg_cut [55]) (f := false) d_R_isSaidBy_65 rfl 66 rfl (nI 2) rg_ki_2, rg_e_iload_3 (cut := rg_cut [55]) (f := false) d_R_isSaidBy_66 rfl 67 rfl, rg_e_imul (cut := rg_cut [55]) (f := false) d_R_isSaidBy_67 rfl 68 rfl, rg_e_ishr (cut := rg_cut [55]) (f := false) d_R_isSaidBy_68 rfl 69 rfl, rg_e_aload_0 (cut := rg_cut [55]) (f := false) d_R_isSaidBy_69 rfl 70 rfl, rg_e_getr (P := P_R_isSaidBy) (cut := rg_cut [55]) (f := false) d_R_isSaidBy_70 rfl 73 rfl 1 1 1 3 rfl (fun _ => rfl), rg_e_iload_1 (cut := rg_cut [55]) (f := false) d_R_isSaidBy_73 rfl 74 rfl, rg_e_iald (cut := rg_cut [55]) (f := false) d_R_isSaidBy_74 rfl 75 rfl 3 9 rfl, rg_e_cs2 (P := P_R_isSaidBy) (cut := rg_cut [55]) (f := false) d_R_isSaidBy_75 rfl T_R_lowest rfl, rg_e_aload_0 (cut := rg_cut [55]) (f := false) d_R_isSaidBy_78 rfl 79 rfl, rg_e_getr (P := P_R_isSaidBy) (cut := rg_cut [55]) (f := false) d_R_isSaidBy_79 rfl 82 rfl 1 1 0 2 rfl (fun _ => rfl), rg_e_iload_1 (cut := rg_cut [55]) (f := false) d_R_isSaidBy_82 rfl 83 rfl, rg_e_iald (cut := rg_cut [55]) (f := false) d_R_isSaidBy_83 rfl 84 rfl 2 9 rfl, rg_e_icmp_ne (cut := rg_cut [55]) (f := false) d_R_isSaidBy_84 rfl 87 rfl 89 rfl, rg_e_iconst (cut := rg_cut [55]) (f := false) d_R_isSaidBy_87 rfl 88 rfl (nI 1) rg_ki_1, rg_e_iret (cut := rg_cut [55]) (f := false) d_R_isSaidBy_88 rfl, rg_e_iinc_3 (cut := rg_cut [55]) (f := false) d_R_isSaidBy_89 rfl 92 rfl (-1) rg_ki_m1, rg_e_goto (cut := rg_cut [55]) (f := false) d_R_isSaidBy_92 rfl 55 rfl, rg_e_iconst (cut := rg_cut [55]) (f := false) d_R_isSaidBy_95 rfl 96 rfl (nI 0) rg_ki_0, rg_e_iret (cut := rg_cut [55]) (f := false) d_R_isSaidBy_96 rfl, rg_e_cut (cut := rg_cut [55]) 55 rfl, rg_nx_i, rg_nx_v, rg_wd_n, rg_wd_i, rg_wd_l, rg_wd_r, rg_clr_i, rg_clr_l, rg_clr_r, rg_clr_a, rg_clr_n, true_and, and_true, Nat.reduceAdd, Nat.reduceLeDiff, ↓Te_R_lowest, rg_rt_e, rg_fit_ie, rg_fit_ve, rg_fit_1e, rg_fit_0e, rg_fit_be, vr, vo, cr, co, a4, a5, b4, b5]
      refine ⟨fun _ => ?_, fun h9 => absurd (pk_sneg (by omega) (by omega)) h9⟩
      have : sdB ln pk r' o' = false := by
        unfold sdB
        rw [if_neg h, decide_eq_false hlt, Bool.false_and]
      rw [this] at hK
      exact hK
  all_goals have h := Classical.not_not.mp h
  · have : sdB ln pk r' o' = false := by
      unfold sdB
      rw [if_pos h, decide_eq_false (by omega), Bool.false_and]
    rw [this] at hK
    exact hK
  · have : sdB ln pk r' o' = false := by
      unfold sdB
      rw [if_pos h, decide_eq_false h3, Bool.and_false]
    rw [this] at hK
    exact hK
  · have h3 := Classical.not_not.mp h3
    have : sdB ln pk r' o' = true := by
      unfold sdB
      rw [if_pos h, decide_eq_true (by omega), decide_eq_true h3]
      rfl
    rw [this] at hK
    exact hK
/-- a node -/
def ndB (nr : Nat) (ln pk : Nat → Nat) (x : Int32) : Bool := !decide (x < 0) && !decide (nI nr ≤ x) && !(List.range nr).any (fun o => sdB ln pk x.toNatClampNeg o)
-- R.isNode
def P_R_isNode : rg_P := (rg_F_R, [(53, 2, 0, T_R_has), (61, 3, 0, T_R_isSaidBy)], [], [], [], [], 0)
def T_R_isNode : rg_T := fun as w K => match as with
  | [.ref 1, .int x] => ∃ nr ln pk, Rd nr ln pk w ∧ K (some (.int (zI (ndB nr ln pk x)))) w
  | _ => False
theorem Te_R_isNode (x : Int32) (w : rg_W) (K : Option Value → rg_W → Prop) : T_R_isNode [.ref 1, .int x] w K = (∃ nr ln pk, Rd nr ln pk w ∧ K (some (.int (zI (ndB nr ln pk x)))) w) := rfl
theorem r_R_isNode : ∀ as w K, T_R_isNode as w K → ∃ r, as = .ref 1 :: r := by
  intro as w K h
  unfold T_R_isNode at h
  split at h
  · exact ⟨_, rfl⟩
  · exact h.elim
theorem G_R_isNode (l : Launch) : rg_Good l y_R_isNode c_R_isNode 3 (some .boolean) 2 T_R_isNode := by
  refine rg_good_of (P := P_R_isNode) (by decide) (rg_pok rg_F_R_ok (rg_cons (cw_R_26 (G_R_has l) (by decide) r_R_has) (rg_cons (cw_R_30 (G_R_isSaidBy l) (by decide) r_R_isSaidBy) rg_nil))) ?_
  intro as w K Z hT hZ
  unfold T_R_isNode at hT
  split at hT
  rotate_left
  · exact hT.elim
  rename_i x
  refine ⟨Nat.le_of_ble_eq_true rfl, ?_⟩
  show Z 0 [.ref 1, .int x, .null] [] w 0
  obtain ⟨nr, ln, pk, hR, hK⟩ := hT
  obtain ⟨hn9, hc, hall⟩ := id hR
  have loop : ∀ (r o : Nat), x = nI r → (r < nr ∧ o ≤ nr ∧ ∀ b, b < o → sdB ln pk r b = false) → Z 12 [.ref 1, .int x, .int (nI o)] [] w 0 := by
    rintro r o rfl
    revert o
    refine rg_lp1 _ _ (fun o => nr - o) ?_
    intro o ⟨hr, ho, hno⟩ ih
    have cr : (nI r).toNatClampNeg = r := nI_clamp (by omega)
    refine hZ (rg_cut [12]) 400 12 _ _ _ ?_; simp only [rg_e_iload_2 (cut := rg_cut [12]) (f := true) d_R_isNode_12 rfl 13 rfl, rg_e_aload_0 (cut := rg_cut [12]) (f := false) d_R_isNode_13 rfl 14 rfl, rg_e_geti (P := P_R_isNode) (cut := rg_cut [12]) (f := false) d_R_isNode_14 rfl 17 rfl 1 1 2 rfl (fun _ => rfl), rg_e_icmp_ge (cut := rg_cut [12]) (f := false) d_R_isNode_17 rfl 20 rfl 37 rfl, rg_e_aload_0 (cut := rg_cut [12]) (f := false) d_R_isNode_20 rfl 21 rfl, rg_e_iload_1 (cut := rg_cut [12]) (f := false) d_R_isNode_21 rfl 22 rfl, rg_e_iload_2 (cut := rg_cut [12]) (f := false) d_R_isNode_22 rfl 23 rfl, rg_e_cv3 (P := P_R_isNode) (cut := rg_cut [12]) (f := false) d_R_isNode_23 rfl T_R_isSaidBy rfl, rg_e_if_eq (cut := rg_cut [12]) (f := false) d_R_isNode_26 rfl 29 rfl 31 rfl, rg_e_iconst (cut := rg_cut [12]) (f := false) d_R_isNode_29 rfl 30 rfl (nI 0) rg_ki_0, rg_e_iret (cut := rg_cut [12]) (f := false) d_R_isNode_30 rfl, rg_e_iinc_2 (cut := rg_cut [12]) (f := false) d_R_isNode_31 rfl 34 rfl (nI 1) rg_ki_1, rg_e_goto (cut := rg_cut [12]) (f := false) d_R_isNode_34 rfl 12 rfl, rg_e_iconst (cut := rg_cut [12]) (f := false) d_R_isNode_37 rfl 38 rfl (nI 1) rg_ki_1, rg_e_iret (cut := rg_cut [12]) (f := false) d_R_isNode_38 rfl, rg_e_cut (cut := rg_cut [12]) 12 rfl, rg_nx_i, rg_nx_v, rg_wd_n, rg_wd_i, rg_wd_l, rg_wd_r, rg_clr_i, rg_clr_l, rg_clr_r, rg_clr_a, rg_clr_n, true_and, and_true, Nat.reduceAdd, Nat.reduceLeDiff, ↓Te_R_has, ↓Te_R_isSaidBy, rg_rt_e, rg_fit_ie, rg_fit_ve, rg_fit_1e, rg_fit_0e, rg_fit_be, hc, zI_eq]
    rw [nI_lep (by omega) (by omega)]
    refine ⟨fun h => ?_, fun h => ⟨nr, ln, pk, r, o, hR, rfl, rfl, hr, by omega, fun h1 => ?_, fun h1 => ?_⟩⟩
    · have : ndB nr ln pk (nI r) = true := by
        unfold ndB
        rw [cr, decide_eq_false (nI_pos (by omega)), decide_eq_false (nI_ge hr (by omega)), List.any_eq_false.mpr (fun b hb => by rw [hno b (by have := List.mem_range.mp hb; omega)]; decide)]
        rfl
      rw [this] at hK
      exact hK
    · rw [nI_add]
      refine ih (o + 1) ⟨hr, by omega, fun b hb => ?_⟩ (by omega)
      by_cases hbo : b = o
      · subst hbo
        exact h1
      · exact hno b (by omega)
    · have : ndB nr ln pk (nI r) = false := by
        unfold ndB
        rw [cr, List.any_eq_true.mpr ⟨o, List.mem_range.mpr (by omega), by simpa using h1⟩]
        simp
      rw [this] at hK
      exact hK
  refine hZ (rg_cut [12]) 400 0 _ _ _ ?_; simp only [rg_e_aload_0 (cut := rg_cut [12]) (f := true) d_R_isNode_0 rfl 1 rfl, rg_e_iload_1 (cut := rg_cut [12]) (f := false) d_R_isNode_1 rfl 2 rfl, rg_e_cv2 (P := P_R_isNode) (cut := rg_cut [12]) (f := false) d_R_isNode_2 rfl T_R_has rfl, rg_e_if_ne (cut := rg_cut [12]) (f := false) d_R_isNode_5 rfl 8 rfl 10 rfl, rg_e_iconst (cut := rg_cut [12]) (f := false) d_R_isNode_8 rfl 9 rfl (nI 0) rg_ki_0, rg_e_iret (cut := rg_cut [12]) (f := false) d_R_isNode_9 rfl, rg_e_iconst (cut := rg_cut [12]) (f := false) d_R_isNode_10 rfl 11 rfl (nI 0) rg_ki_0, rg_e_istore_2 (cut := rg_cut [12]) (f := false) d_R_isNode_11 rfl 12 rfl, rg_e_cut (cut := rg_cut [12]) 12 rfl, rg_nx_i, rg_nx_v, rg_wd_n, rg_wd_i, rg_wd_l, rg_wd_r, rg_clr_i, rg_clr_l, rg_clr_r, rg_clr_a, rg_clr_n, true_and, and_true, Nat.reduceAdd, Nat.reduceLeDiff, ↓Te_R_has, ↓Te_R_isSaidBy, rg_rt_e, rg_fit_ie, rg_fit_ve, rg_fit_1e, rg_fit_0e, rg_fit_be, hc, zI_eq]
  refine ⟨fun h => ?_, fun h => ?_⟩
  · simp only [Bool.and_eq_false_imp, Bool.not_eq_true', decide_eq_false_iff_not, Bool.not_eq_false', decide_eq_true_eq, Classical.not_imp] at h
    have hx : ¬ x < 0 ∧ ¬ nI nr ≤ x := by simpa using h
    obtain ⟨r, hr, rfl⟩ := pk_ix x (n := nr) (by omega) |>.resolve_left hx.1 |>.resolve_left hx.2
    exact loop r 0 rfl ⟨hr, by omega, fun b hb => absurd hb (by omega)⟩
  · have : ndB nr ln pk x = false := by
      unfold ndB
      have h := Classical.not_not.mp h
      rw [h, Bool.false_and]
    rw [this] at hK
    exact hK
/-- the greatest n from least to m with p n, or 0 -/
def gtF (p : Nat → Bool) (least : Nat) : Nat → Nat
  | 0 => 0
  | m + 1 => if least ≤ m + 1 ∧ p (m + 1) = true then m + 1 else gtF p least m
def shB (ln pk : Nat → Nat) (i j n : Nat) : Bool := decide (pk i % 4 ^ n = pk j / 4 ^ (ln j - n))
def ovN (ln pk : Nat → Nat) (i j least : Nat) : Nat := gtF (shB ln pk i j) least (min (ln i) (ln j) - 1)
theorem gtF_lo {p : Nat → Bool} {least : Nat} : ∀ m, m < least → gtF p least m = 0
  | 0, _ => rfl
  | m + 1, h => by
    rw [gtF, if_neg (by omega)]
    exact gtF_lo m (by omega)
-- R.lettersShared
def P_R_lettersShared : rg_P := (rg_F_R, [(68, 2, 0, T_J_min), (44, 2, 0, T_R_lowest)], [], [], [], [], 0)
def T_R_lettersShared : rg_T := fun as w K => match as with
  | [.ref 1, .int i, .int j, .int least] => ∃ nr ln pk i' j' least', Rd nr ln pk w ∧ i = nI i' ∧ j = nI j' ∧ i' < nr ∧ j' < nr ∧ least = nI least' ∧ 1 ≤ least' ∧ least' ≤ 12 ∧ K (some (.int (nI (ovN ln pk i' j' least')))) w
  | _ => False
theorem Te_R_lettersShared (i : Int32) (j : Int32) (least : Int32) (w : rg_W) (K : Option Value → rg_W → Prop) : T_R_lettersShared [.ref 1, .int i, .int j, .int least] w K = (∃ nr ln pk i' j' least', Rd nr ln pk w ∧ i = nI i' ∧ j = nI j' ∧ i' < nr ∧ j' < nr ∧ least = nI least' ∧ 1 ≤ least' ∧ least' ≤ 12 ∧ K (some (.int (nI (ovN ln pk i' j' least')))) w) := rfl
theorem r_R_lettersShared : ∀ as w K, T_R_lettersShared as w K → ∃ r, as = .ref 1 :: r := by
  intro as w K h
  unfold T_R_lettersShared at h
  split at h
  · exact ⟨_, rfl⟩
  · exact h.elim
theorem G_R_lettersShared (l : Launch) : rg_Good l y_R_lettersShared c_R_lettersShared 5 (some .int) 1 T_R_lettersShared := by
  refine rg_good_of (P := P_R_lettersShared) (by decide) (rg_pok rg_F_R_ok (rg_cons (cw_R_34 (by decide)) (rg_cons (cw_R_22 (G_R_lowest l) (by decide)) rg_nil))) ?_
  intro as w K Z hT hZ
  unfold T_R_lettersShared at hT
  split at hT
  rotate_left
  · exact hT.elim
  rename_i i j least
  refine ⟨Nat.le_of_ble_eq_true rfl, ?_⟩
  show Z 0 [.ref 1, .int i, .int j, .int least, .null] [] w 0
  obtain ⟨nr, ln, pk, i', j', least', hR, rfl, rfl, hi, hj, rfl, l1, l2, hK⟩ := hT
  obtain ⟨hn9, -, hall⟩ := id hR
  obtain ⟨a1, a2, a3, a4, a5⟩ := hall i' hi
  obtain ⟨b1, b2, b3, b4, b5⟩ := hall j' hj
  have pi := hR.pk_lt hi
  have pj := hR.pk_lt hj
  have vi : vp_in (nI i') 9 := vp_in_nI (by omega) (by omega)
  have vj : vp_in (nI j') 9 := vp_in_nI (by omega) (by omega)
  have ci : (nI i').toNatClampNeg = i' := nI_clamp (by omega)
  have cj : (nI j').toNatClampNeg = j' := nI_clamp (by omega)
  have loop : ∀ m, (m + 1 ≤ ln i' ∧ m + 1 ≤ ln j' ∧ gtF (shB ln pk i' j') least' m = ovN ln pk i' j' least') → Z 19 [.ref 1, .int (nI i'), .int (nI j'), .int (nI least'), .int (nI m)] [] w 0 := by
    refine rg_lp1 _ _ (fun m => m) ?_
    intro m ⟨h1, h2, h3⟩ ih
    refine hZ (rg_cut [19]) 400 19 _ _ _ ?_; simp only [rg_e_iload_4 (cut := rg_cut [19]) (f := true) d_R_lettersShared_19 rfl 21 rfl, rg_e_iload_3 (cut := rg_cut [19]) (f := false) d_R_lettersShared_21 rfl 22 rfl, rg_e_icmp_lt (cut := rg_cut [19]) (f := false) d_R_lettersShared_22 rfl 25 rfl 66 rfl, rg_e_aload_0 (cut := rg_cut [19]) (f := false) d_R_lettersShared_25 rfl 26 rfl, rg_e_getr (P := P_R_lettersShared) (cut := rg_cut [19]) (f := false) d_R_lettersShared_26 rfl 29 rfl 1 1 0 2 rfl (fun _ => rfl), rg_e_iload_1 (cut := rg_cut [19]) (f := false) d_R_lettersShared_29 rfl 30 rfl, rg_e_iald (cut := rg_cut [19]) (f := false) d_R_lettersShared_30 rfl 31 rfl 2 9 rfl, rg_e_iload_4 (cut := rg_cut [19]) (f := false) d_R_lettersShared_31 rfl 33 rfl, rg_e_cs2 (P := P_R_lettersShared) (cut := rg_cut [19]) (f := false) d_R_lettersShared_33 rfl T_R_lowest rfl, rg_e_aload_0 (cut := rg_cut [19]) (f := false) d_R_lettersShared_36 rfl 37 rfl, rg_e_getr (P := P_R_lettersShared) (cut := rg_cut [19]) (f := false) d_R_lettersShared_37 rfl 40 rfl 1 1 0 2 rfl (fun _ => rfl), rg_e_iload_2 (cut := rg_cut [19]) (f := false) d_R_lettersShared_40 rfl 41 rfl, rg_e_iald (cut := rg_cut [19]) (f := false) d_R_lettersShared_41 rfl 42 rfl 2 9 rfl, rg_e_iconst (cut := rg_cut [19]) (f := false) d_R_lettersShared_42 rfl 43 rfl (nI 2) rg_ki_2, rg_e_aload_0 (cut := rg_cut [19]) (f := false) d_R_lettersShared_43 rfl 44 rfl, rg_e_getr (P := P_R_lettersShared) (cut := rg_cut [19]) (f := false) d_R_lettersShared_44 rfl 47 rfl 1 1 1 3 rfl (fun _ => rfl), rg_e_iload_2 (cut := rg_cut [19]) (f := false) d_R_lettersShared_47 rfl 48 rfl, rg_e_iald (cut := rg_cut [19]) (f := false) d_R_lettersShared_48 rfl 49 rfl 3 9 rfl, rg_e_iload_4 (cut := rg_cut [19]) (f := false) d_R_lettersShared_49 rfl 51 rfl, rg_e_isub (cut := rg_cut [19]) (f := false) d_R_lettersShared_51 rfl 52 rfl, rg_e_imul (cut := rg_cut [19]) (f := false) d_R_lettersShared_52 rfl 53 rfl, rg_e_ishr (cut := rg_cut [19]) (f := false) d_R_lettersShared_53 rfl 54 rfl, rg_e_icmp_ne (cut := rg_cut [19]) (f := false) d_R_lettersShared_54 rfl 57 rfl 60 rfl, rg_e_iload_4 (cut := rg_cut [19]) (f := false) d_R_lettersShared_57 rfl 59 rfl, rg_e_iret (cut := rg_cut [19]) (f := false) d_R_lettersShared_59 rfl, rg_e_iinc_4 (cut := rg_cut [19]) (f := false) d_R_lettersShared_60 rfl 63 rfl (-1) rg_ki_m1, rg_e_goto (cut := rg_cut [19]) (f := false) d_R_lettersShared_63 rfl 19 rfl, rg_e_iconst (cut := rg_cut [19]) (f := false) d_R_lettersShared_66 rfl 67 rfl (nI 0) rg_ki_0, rg_e_iret (cut := rg_cut [19]) (f := false) d_R_lettersShared_67 rfl, rg_e_cut (cut := rg_cut [19]) 19 rfl, rg_nx_i, rg_nx_v, rg_wd_n, rg_wd_i, rg_wd_l, rg_wd_r, rg_clr_i, rg_clr_l, rg_clr_r, rg_clr_a, rg_clr_n, true_and, and_true, Nat.reduceAdd, Nat.reduceLeDiff, ↓Te_J_min, ↓Te_R_lowest, rg_rt_e, rg_fit_ie, rg_fit_ve, rg_fit_1e, rg_fit_0e, rg_fit_be, vi, vj, ci, cj, a4, a5, b4, b5]
    rw [nI_ltp (by omega) (by omega)]
    refine ⟨fun h => ?_, fun h => ?_⟩
    · rw [gtF_lo m h] at h3
      rw [← h3] at hK
      exact hK
    · have hm : m = (m - 1) + 1 := by omega
      rw [lowI_n (by omega) (by omega), pk_sub (by omega), shr_n (by omega) (by omega)]
      have q1 : pk i' % 4 ^ m ≤ pk i' := Nat.mod_le _ _
      have q2 : pk j' / 4 ^ (ln j' - m) ≤ pk j' := Nat.div_le_self _ _
      rw [nI_eqp (by omega) (by omega)]
      refine ⟨fun h4 => ?_, fun h4 => ?_⟩
      · rw [i_m1, pk_sub (by omega)]
        refine ih (m - 1) ⟨by omega, by omega, ?_⟩ (by omega)
        rw [← h3]
        rw [hm, gtF, if_neg, Nat.add_sub_cancel]
        rw [← hm]
        rintro ⟨-, q⟩
        exact h4 (of_decide_eq_true q)
      · have h4 := Classical.not_not.mp h4
        have : gtF (shB ln pk i' j') least' m = m := by
          rw [hm, gtF, if_pos]
          rw [← hm]
          exact ⟨by omega, decide_eq_true h4⟩
        rw [← h3, this] at hK
        exact hK
  refine hZ (rg_cut [19]) 400 0 _ _ _ ?_; simp only [rg_e_aload_0 (cut := rg_cut [19]) (f := true) d_R_lettersShared_0 rfl 1 rfl, rg_e_getr (P := P_R_lettersShared) (cut := rg_cut [19]) (f := false) d_R_lettersShared_1 rfl 4 rfl 1 1 1 3 rfl (fun _ => rfl), rg_e_iload_1 (cut := rg_cut [19]) (f := false) d_R_lettersShared_4 rfl 5 rfl, rg_e_iald (cut := rg_cut [19]) (f := false) d_R_lettersShared_5 rfl 6 rfl 3 9 rfl, rg_e_aload_0 (cut := rg_cut [19]) (f := false) d_R_lettersShared_6 rfl 7 rfl, rg_e_getr (P := P_R_lettersShared) (cut := rg_cut [19]) (f := false) d_R_lettersShared_7 rfl 10 rfl 1 1 1 3 rfl (fun _ => rfl), rg_e_iload_2 (cut := rg_cut [19]) (f := false) d_R_lettersShared_10 rfl 11 rfl, rg_e_iald (cut := rg_cut [19]) (f := false) d_R_lettersShared_11 rfl 12 rfl 3 9 rfl, rg_e_cs2 (P := P_R_lettersShared) (cut := rg_cut [19]) (f := false) d_R_lettersShared_12 rfl T_J_min rfl, rg_e_iconst (cut := rg_cut [19]) (f := false) d_R_lettersShared_15 rfl 16 rfl (nI 1) rg_ki_1, rg_e_isub (cut := rg_cut [19]) (f := false) d_R_lettersShared_16 rfl 17 rfl, rg_e_istore_4 (cut := rg_cut [19]) (f := false) d_R_lettersShared_17 rfl 19 rfl, rg_e_cut (cut := rg_cut [19]) 19 rfl, rg_nx_i, rg_nx_v, rg_wd_n, rg_wd_i, rg_wd_l, rg_wd_r, rg_clr_i, rg_clr_l, rg_clr_r, rg_clr_a, rg_clr_n, true_and, and_true, Nat.reduceAdd, Nat.reduceLeDiff, ↓Te_J_min, ↓Te_R_lowest, rg_rt_e, rg_fit_ie, rg_fit_ve, rg_fit_1e, rg_fit_0e, rg_fit_be, vi, vj, ci, cj, a4, a5, b4, b5]
  have hmin : (if nI (ln j') < nI (ln i') then nI (ln j') else nI (ln i')) = nI (min (ln i') (ln j')) := by
    by_cases h : ln j' < ln i'
    · rw [if_pos (nI_lt h (by omega)), Nat.min_eq_right (by omega)]
    · rw [if_neg (nI_nlt (by omega) (by omega)), Nat.min_eq_left (by omega)]
  rw [hmin, pk_sub (by omega)]
  exact loop _ ⟨by omega, by omega, rfl⟩
end
section
/-! Edges: nodes, all edges that there were -/
/-- a set of nodes as bits -/
def BS (x : Int32) (p : Nat → Bool) : Prop := (∀ i, i < 9 → bt x i = p i) ∧ ∀ i, 9 ≤ i → bt x i = false
theorem bt_1 {i : Nat} (hi : i < 32) : bt (nI 1) i = decide (i = 0) := by
  rw [bt_nI _ _ hi]
  exact (by decide +kernel : ∀ i, i < 32 → Nat.testBit 1 i = decide (i = 0)) i hi
theorem hbt_bt (x : Int32) {j : Nat} (hj : j < 32) : hbt x (nI j) = bt x j := by
  unfold hbt
  have h0 : ∀ i, i < 32 → bt ((x >>> (nI j &&& 31)) &&& nI 1) i = (decide (i = 0) && bt x j) := by
    intro i hi
    rw [b_and, bt_1 hi, b_sshr j hj x hi]
    by_cases h : i = 0
    · subst h
      rw [if_pos (by omega)]
      simp
    · simp [h]
  cases hb : bt x j with
  | false =>
    have : (x >>> (nI j &&& 31)) &&& nI 1 = 0 := b_ext (fun i hi => by rw [h0 i hi, hb, b_0]; simp)
    rw [decide_eq_true this]
    rfl
  | true =>
    have : ¬ (x >>> (nI j &&& 31)) &&& nI 1 = 0 := fun e => by
      have := h0 0 (by omega)
      rw [e, b_0, hb] at this
      simp at this
    rw [decide_eq_false this]
    rfl
theorem BS.h {x : Int32} {p : Nat → Bool} (h : BS x p) {j : Nat} (hj : j < 9) : hbt x (nI j) = p j := by
  rw [hbt_bt x (by omega)]
  exact h.1 j hj
theorem bt_sh {i k : Nat} (hi : i < 9) (hk : k < 32) : bt (nI 1 <<< (nI i &&& 31)) k = decide (k = i) := by
  rw [b_shl i (by omega) _ hk, bt_1 (by omega)]
  by_cases h : k = i
  · subst h
    simp
  · by_cases h2 : i ≤ k
    · simp [h2, h]
      omega
    · simp [h2, h]
theorem bt_hi {x : Int32} {k : Nat} (hk : 32 ≤ k) : bt x k = false := b_big hk
theorem BS.put {x : Int32} {p : Nat → Bool} (h : BS x p) {i : Nat} (hi : i < 9) : BS (x ||| (nI 1 <<< (nI i &&& 31))) (fun k => p k || decide (k = i)) := by
  refine ⟨fun k hk => ?_, fun k hk => ?_⟩
  · rw [b_or, bt_sh hi (by omega), h.1 k hk]
  · rcases Nat.lt_or_ge k 32 with q | q
    · rw [b_or, bt_sh hi q, h.2 k hk, decide_eq_false (by omega)]
      rfl
    · exact bt_hi q
theorem BS.cg {x : Int32} {p q : Nat → Bool} (h : BS x p) (e : ∀ i, i < 9 → p i = q i) : BS x q := ⟨fun i hi => (h.1 i hi).trans (e i hi), h.2⟩
theorem BS.zero : BS (nI 0) (fun _ => false) := ⟨fun i _ => by rw [nI_0]; exact b_0 i, fun i _ => by rw [nI_0]; exact b_0 i⟩
theorem zI_eq1 (b : Bool) : (¬ zI b = 0) = (b = true) := by cases b <;> decide +kernel
/-- node i -/
def ndN (nr : Nat) (ln pk : Nat → Nat) (i : Nat) : Bool := decide (i < nr) && !(List.range nr).any (fun o => sdB ln pk i o)
theorem ndB_n {nr : Nat} {ln pk : Nat → Nat} {i : Nat} (hi : i < 2 ^ 31) (hn : nr < 2 ^ 31) : ndB nr ln pk (nI i) = ndN nr ln pk i := by
  unfold ndB ndN
  rw [nI_clamp hi, decide_eq_false (nI_pos hi)]
  by_cases h : i < nr
  · rw [decide_eq_false (nI_ge h hn), decide_eq_true h]
    rfl
  · rw [decide_eq_true (nI_le (by omega) hi), decide_eq_false h]
    rfl
theorem ndN_lt {nr : Nat} {ln pk : Nat → Nat} {i : Nat} (h : ndN nr ln pk i = true) : i < nr := by
  unfold ndN at h
  simp at h
  exact h.1
-- E.findNodes
def P_E_findNodes : rg_P := (rg_F_E, [(123, 2, 0, T_R_isNode)], [], [], [], [], 0)
def T_E_findNodes : rg_T := fun as w K => match as with
  | [.ref 4, .ref 1] => ∃ nr ln pk, Rd nr ln pk w ∧ w.1 4 8 = nI 0 ∧ ∀ v, BS v (ndN nr ln pk) → K none (rg_up w 4 8 v)
  | _ => False
theorem Te_E_findNodes  (w : rg_W) (K : Option Value → rg_W → Prop) : T_E_findNodes [.ref 4, .ref 1] w K = (∃ nr ln pk, Rd nr ln pk w ∧ w.1 4 8 = nI 0 ∧ ∀ v, BS v (ndN nr ln pk) → K none (rg_up w 4 8 v)) := rfl
theorem r_E_findNodes : ∀ as w K, T_E_findNodes as w K → ∃ r, as = .ref 4 :: r := by
  intro as w K h
  unfold T_E_findNodes at h
  split at h
  · exact ⟨_, rfl⟩
  · exact h.elim
theorem G_E_findNodes (l : Launch) : rg_Good l y_E_findNodes c_E_findNodes 3 none 3 T_E_findNodes := by
  refine rg_good_of (P := P_E_findNodes) (by decide) (rg_pok rg_F_E_ok (rg_cons (cw_E_61 (G_R_isNode l) (by decide) r_R_isNode) rg_nil)) ?_
  intro as w K Z hT hZ
  unfold T_E_findNodes at hT
  split at hT
  rotate_left
  · exact hT.elim
  refine ⟨Nat.le_of_ble_eq_true rfl, ?_⟩
  show Z 0 [.ref 4, .ref 1, .null] [] w 0
  obtain ⟨nr, ln, pk, hR, h0, hK⟩ := hT
  have hn9 := hR.1
  have loop : ∀ (i : Nat) (v : Int32), (i ≤ 9 ∧ BS v (fun k => ndN nr ln pk k && decide (k < i))) → Z 2 [.ref 4, .ref 1, .int (nI i)] [] (rg_up w 4 8 v) 0 := by
    refine rg_lp2 _ _ (fun i _ => 9 - i) ?_
    intro i v ⟨hi, hb⟩ ih
    refine hZ (rg_cut [2]) 400 2 _ _ _ ?_; simp only [rg_e_iload_2 (cut := rg_cut [2]) (f := true) d_E_findNodes_2 rfl 3 rfl, rg_e_bipush (cut := rg_cut [2]) (f := false) d_E_findNodes_3 rfl 5 rfl (nI 9) rg_kb_9, rg_e_icmp_ge (cut := rg_cut [2]) (f := false) d_E_findNodes_5 rfl 8 rfl 34 rfl, rg_e_aload_1 (cut := rg_cut [2]) (f := false) d_E_findNodes_8 rfl 9 rfl, rg_e_iload_2 (cut := rg_cut [2]) (f := false) d_E_findNodes_9 rfl 10 rfl, rg_e_cv2 (P := P_E_findNodes) (cut := rg_cut [2]) (f := false) d_E_findNodes_10 rfl T_R_isNode rfl, rg_e_if_eq (cut := rg_cut [2]) (f := false) d_E_findNodes_13 rfl 16 rfl 28 rfl, rg_e_aload_0 (cut := rg_cut [2]) (f := false) d_E_findNodes_16 rfl 17 rfl, rg_e_dupr (cut := rg_cut [2]) (f := false) d_E_findNodes_17 rfl 18 rfl, rg_e_geti (P := P_E_findNodes) (cut := rg_cut [2]) (f := false) d_E_findNodes_18 rfl 21 rfl 4 2 8 rfl (fun _ => rfl), rg_e_iconst (cut := rg_cut [2]) (f := false) d_E_findNodes_21 rfl 22 rfl (nI 1) rg_ki_1, rg_e_iload_2 (cut := rg_cut [2]) (f := false) d_E_findNodes_22 rfl 23 rfl, rg_e_ishl (cut := rg_cut [2]) (f := false) d_E_findNodes_23 rfl 24 rfl, rg_e_ior (cut := rg_cut [2]) (f := false) d_E_findNodes_24 rfl 25 rfl, rg_e_put (P := P_E_findNodes) (cut := rg_cut [2]) (f := false) d_E_findNodes_25 rfl 28 rfl 4 2 8 rfl rfl, rg_e_iinc_2 (cut := rg_cut [2]) (f := false) d_E_findNodes_28 rfl 31 rfl (nI 1) rg_ki_1, rg_e_goto (cut := rg_cut [2]) (f := false) d_E_findNodes_31 rfl 2 rfl, rg_e_vret (cut := rg_cut [2]) (f := false) d_E_findNodes_34 rfl, rg_e_cut (cut := rg_cut [2]) 2 rfl, rg_nx_i, rg_nx_v, rg_wd_n, rg_wd_i, rg_wd_l, rg_wd_r, rg_clr_i, rg_clr_l, rg_clr_r, rg_clr_a, rg_clr_n, true_and, and_true, Nat.reduceAdd, Nat.reduceLeDiff, ↓Te_R_isNode, rg_rt_e, rg_fit_ie, rg_fit_ve, rg_fit_1e, rg_fit_0e, rg_fit_be, zI_eq, rg_up_ss]
    rw [nI_lep (by omega) (by omega)]
    refine ⟨fun h => hK v (hb.cg fun k hk => by rw [decide_eq_true (by omega), Bool.and_true]), fun h => ⟨nr, ln, pk, hR.fr (rg_up_n (by decide)) (rg_up_n (by decide)) (rg_up_n (by decide)), fun h1 => ?_, fun h1 => ?_⟩⟩
    · rw [nI_add]
      refine ih (i + 1) v ⟨by omega, hb.cg fun k hk => ?_⟩ (by omega)
      rw [ndB_n (by omega) (by omega)] at h1
      by_cases hk : k = i
      · subst hk; rw [h1]; rfl
      · congr 1
        simp only [decide_eq_decide]
        omega
    · rw [nI_add]
      have e : rg_up (rg_up w 4 8 v) 4 8 (v ||| (nI 1 <<< (nI i &&& 31))) = rg_up w 4 8 (v ||| (nI 1 <<< (nI i &&& 31))) := by
        unfold rg_up
        congr 1
        funext a
        by_cases ha : a = 4
        · simp only [ha, if_true]
          funext b
          unfold upd
          by_cases hb : b = 8 <;> simp [hb]
        · simp [ha]
      rw [e]
      refine ih (i + 1) _ ⟨by omega, (hb.put (by omega)).cg fun k hk => ?_⟩ (by omega)
      rw [ndB_n (by omega) (by omega)] at h1
      have h1 : ndN nr ln pk i = true := by simpa using h1
      by_cases hk : k = i
      · subst hk; rw [h1]; simp
      · simp only [hk, decide_false, Bool.or_false]
        congr 1
        simp only [decide_eq_decide]
        omega
  refine hZ (rg_cut [2]) 400 0 _ _ _ ?_; simp only [rg_e_iconst (cut := rg_cut [2]) (f := true) d_E_findNodes_0 rfl 1 rfl (nI 0) rg_ki_0, rg_e_istore_2 (cut := rg_cut [2]) (f := false) d_E_findNodes_1 rfl 2 rfl, rg_e_cut (cut := rg_cut [2]) 2 rfl, rg_nx_i, rg_nx_v, rg_wd_n, rg_wd_i, rg_wd_l, rg_wd_r, rg_clr_i, rg_clr_l, rg_clr_r, rg_clr_a, rg_clr_n, true_and, and_true, Nat.reduceAdd, Nat.reduceLeDiff, ↓Te_R_isNode, rg_rt_e, rg_fit_ie, rg_fit_ve, rg_fit_1e, rg_fit_0e, rg_fit_be]
  have e : w = rg_up w 4 8 (nI 0) := by
    unfold rg_up
    refine Prod.ext ?_ rfl
    funext a
    by_cases ha : a = 4
    · simp only [ha, if_true]
      funext b
      unfold upd
      by_cases hb : b = 8
      · simp only [hb, if_true]; exact h0
      · simp [hb]
    · simp [ha]
  have := loop 0 (nI 0) ⟨by omega, BS.zero.cg fun k _ => by simp⟩
  rw [← e] at this
  exact this
/-- how many of the first n have p -/
def cnF (p : Nat → Bool) : Nat → Nat
  | 0 => 0
  | n + 1 => cnF p n + (if p n = true then 1 else 0)
theorem cnF_le (p : Nat → Bool) : ∀ n, cnF p n ≤ n
  | 0 => Nat.le_refl _
  | n + 1 => by
    have := cnF_le p n
    unfold cnF
    split <;> omega
/-- the hang of the edge from i to j that there was, or 0 -/
def hgN (nr : Nat) (ln pk : Nat → Nat) (least i j : Nat) : Nat := if i ≠ j ∧ ndN nr ln pk i = true ∧ ndN nr ln pk j = true then (if ovN ln pk i j least = 0 then 0 else ln j - ovN ln pk i j least) else 0
theorem gtF_le (p : Nat → Bool) (least : Nat) : ∀ m, gtF p least m ≤ m
  | 0 => Nat.le_refl _
  | m + 1 => by
    rw [gtF]
    have := gtF_le p least m
    split <;> omega
def hgC (hg : Nat → Nat → Nat) (t : Nat) : Bool := !decide (hg (t / 9) (t % 9) = 0)
-- E.layAll
def P_E_layAll : rg_P := (rg_F_E, [(134, 2, 0, T_G_holds), (143, 4, 0, T_R_lettersShared)], [], [], [], [], 0)
def T_E_layAll : rg_T := fun as w K => match as with
  | [.ref 4, .ref 1, .int least] => ∃ nr ln pk least', Rd nr ln pk w ∧ BS (w.1 4 8) (ndN nr ln pk) ∧ w.1 4 9 = nI 0 ∧ least = nI least' ∧ 1 ≤ least' ∧ least' ≤ 12 ∧ ∀ w', rg_fr [4, 5] w w' → (∀ j, j ≠ 9 → w'.1 4 j = w.1 4 j) → w'.1 4 9 = nI (cnF (hgC (hgN nr ln pk least')) 81) → (∀ t, t < 81 → w'.1 5 t = nI (hgN nr ln pk least' (t / 9) (t % 9))) → K none w'
  | _ => False
theorem Te_E_layAll (least : Int32) (w : rg_W) (K : Option Value → rg_W → Prop) : T_E_layAll [.ref 4, .ref 1, .int least] w K = (∃ nr ln pk least', Rd nr ln pk w ∧ BS (w.1 4 8) (ndN nr ln pk) ∧ w.1 4 9 = nI 0 ∧ least = nI least' ∧ 1 ≤ least' ∧ least' ≤ 12 ∧ ∀ w', rg_fr [4, 5] w w' → (∀ j, j ≠ 9 → w'.1 4 j = w.1 4 j) → w'.1 4 9 = nI (cnF (hgC (hgN nr ln pk least')) 81) → (∀ t, t < 81 → w'.1 5 t = nI (hgN nr ln pk least' (t / 9) (t % 9))) → K none w') := rfl
theorem r_E_layAll : ∀ as w K, T_E_layAll as w K → ∃ r, as = .ref 4 :: r := by
  intro as w K h
  unfold T_E_layAll at h
  split at h
  · exact ⟨_, rfl⟩
  · exact h.elim
theorem G_E_layAll (l : Launch) : rg_Good l y_E_layAll c_E_layAll 6 none 2 T_E_layAll := by
  refine rg_good_of (P := P_E_layAll) (by decide) (rg_pok rg_F_E_ok (rg_cons (cw_E_67 (G_G_holds l) (by decide)) (rg_cons (cw_E_71 (G_R_lettersShared l) (by decide) r_R_lettersShared) rg_nil))) ?_
  intro as w K Z hT hZ
  unfold T_E_layAll at hT
  split at hT
  rotate_left
  · exact hT.elim
  rename_i least
  refine ⟨Nat.le_of_ble_eq_true rfl, ?_⟩
  show Z 0 [.ref 4, .ref 1, .int least, .null, .null, .null] [] w 0
  obtain ⟨nr, ln, pk, least', hR, hB, h0, rfl, l1, l2, hK⟩ := hT
  have hn9 := hR.1
  have inner : ∀ (i j : Nat) (w1 : rg_W) (a5 : Value), (i < 9 ∧ j ≤ 9 ∧ rg_fr [4, 5] w w1 ∧ (∀ q, q ≠ 9 → w1.1 4 q = w.1 4 q) ∧ w1.1 4 9 = nI (cnF (hgC (hgN nr ln pk least')) (9 * i + j)) ∧ ∀ t, t < 9 * i + j → w1.1 5 t = nI (hgN nr ln pk least' (t / 9) (t % 9))) →
      (∀ (w2 : rg_W) (a4 a5 : Value), rg_fr [4, 5] w w2 → (∀ q, q ≠ 9 → w2.1 4 q = w.1 4 q) → w2.1 4 9 = nI (cnF (hgC (hgN nr ln pk least')) (9 * (i + 1))) → (∀ t, t < 9 * (i + 1) → w2.1 5 t = nI (hgN nr ln pk least' (t / 9) (t % 9))) → Z 2 [.ref 4, .ref 1, .int (nI least'), .int (nI (i + 1)), a4, a5] [] w2 0) →
      Z 11 [.ref 4, .ref 1, .int (nI least'), .int (nI i), .int (nI j), a5] [] w1 0 := by
    intro i j w1 a5 hI hout
    revert j w1 a5
    refine rg_lp3 _ _ (fun j _ _ => 9 - j) ?_
    intro j w1 a5 ⟨hi, hj, hf, h4, hc, h5⟩ ih
    have ci : (nI i).toNatClampNeg = i := nI_clamp (by omega)
    have cj : (nI j).toNatClampNeg = j := nI_clamp (by omega)
    have hB1 : BS (w1.1 4 8) (ndN nr ln pk) := by rw [h4 8 (by decide)]; exact hB
    have hR1 : Rd nr ln pk w1 := hR.fr (hf.1 1 (by decide)) (hf.1 2 (by decide)) (hf.1 3 (by decide))
    have hidx : nI i * nI 9 + nI j = nI (9 * i + j) := by rw [pk_mul, nI_add, Nat.mul_comm]
    rcases Nat.lt_or_ge j 9 with hj9 | hj9
    · have hdiv : (9 * i + j) / 9 = i ∧ (9 * i + j) % 9 = j := by omega
      have vij : vp_in (nI (9 * i + j)) 81 := vp_in_nI (by omega) (by omega)
      have cij : (nI (9 * i + j)).toNatClampNeg = 9 * i + j := nI_clamp (by omega)
      have hcl := cnF_le (hgC (hgN nr ln pk least')) (9 * i + j)
      -- behind n is known
      have tail : ∀ n : Nat, n ≤ 12 → (n ≠ 0 → n + 1 ≤ ln j ∧ j < nr) → hgN nr ln pk least' i j = (if n = 0 then 0 else ln j - n) → Z 61 [.ref 4, .ref 1, .int (nI least'), .int (nI i), .int (nI j), .int (nI n)] [] w1 0 := by
        intro n hn hnj hg
        refine hZ (rg_cut [2, 11]) 400 61 _ _ _ ?_; simp only [rg_e_aload_0 (cut := rg_cut [2, 11]) (f := true) d_E_layAll_61 rfl 62 rfl, rg_e_getr (P := P_E_layAll) (cut := rg_cut [2, 11]) (f := false) d_E_layAll_62 rfl 65 rfl 4 2 0 5 rfl (fun _ => rfl), rg_e_iload_3 (cut := rg_cut [2, 11]) (f := false) d_E_layAll_65 rfl 66 rfl, rg_e_bipush (cut := rg_cut [2, 11]) (f := false) d_E_layAll_66 rfl 68 rfl (nI 9) rg_kb_9, rg_e_imul (cut := rg_cut [2, 11]) (f := false) d_E_layAll_68 rfl 69 rfl, rg_e_iload_4 (cut := rg_cut [2, 11]) (f := false) d_E_layAll_69 rfl 71 rfl, rg_e_iadd (cut := rg_cut [2, 11]) (f := false) d_E_layAll_71 rfl 72 rfl, rg_e_iload_5 (cut := rg_cut [2, 11]) (f := false) d_E_layAll_72 rfl 74 rfl, rg_e_if_ne (cut := rg_cut [2, 11]) (f := false) d_E_layAll_74 rfl 77 rfl 81 rfl, rg_e_iconst (cut := rg_cut [2, 11]) (f := false) d_E_layAll_77 rfl 78 rfl (nI 0) rg_ki_0, rg_e_goto (cut := rg_cut [2, 11]) (f := false) d_E_layAll_78 rfl 91 rfl, rg_e_aload_1 (cut := rg_cut [2, 11]) (f := false) d_E_layAll_81 rfl 82 rfl, rg_e_getr (P := P_E_layAll) (cut := rg_cut [2, 11]) (f := false) d_E_layAll_82 rfl 85 rfl 1 1 1 3 rfl (fun _ => rfl), rg_e_iload_4 (cut := rg_cut [2, 11]) (f := false) d_E_layAll_85 rfl 87 rfl, rg_e_iald (cut := rg_cut [2, 11]) (f := false) d_E_layAll_87 rfl 88 rfl 3 9 rfl, rg_e_iload_5 (cut := rg_cut [2, 11]) (f := false) d_E_layAll_88 rfl 90 rfl, rg_e_isub (cut := rg_cut [2, 11]) (f := false) d_E_layAll_90 rfl 91 rfl, rg_e_iast (cut := rg_cut [2, 11]) (f := false) d_E_layAll_91 rfl 92 rfl 5 81 rfl, rg_e_aload_0 (cut := rg_cut [2, 11]) (f := false) d_E_layAll_92 rfl 93 rfl, rg_e_dupr (cut := rg_cut [2, 11]) (f := false) d_E_layAll_93 rfl 94 rfl, rg_e_geti (P := P_E_layAll) (cut := rg_cut [2, 11]) (f := false) d_E_layAll_94 rfl 97 rfl 4 2 9 rfl (fun _ => rfl), rg_e_iload_5 (cut := rg_cut [2, 11]) (f := false) d_E_layAll_97 rfl 99 rfl, rg_e_if_ne (cut := rg_cut [2, 11]) (f := false) d_E_layAll_99 rfl 102 rfl 106 rfl, rg_e_iconst (cut := rg_cut [2, 11]) (f := false) d_E_layAll_102 rfl 103 rfl (nI 0) rg_ki_0, rg_e_goto (cut := rg_cut [2, 11]) (f := false) d_E_layAll_103 rfl 107 rfl, rg_e_iconst (cut := rg_cut [2, 11]) (f := false) d_E_layAll_106 rfl 107 rfl (nI 1) rg_ki_1, rg_e_iadd (cut := rg_cut [2, 11]) (f := false) d_E_layAll_107 rfl 108 rfl, rg_e_put (P := P_E_layAll) (cut := rg_cut [2, 11]) (f := false) d_E_layAll_108 rfl 111 rfl 4 2 9 rfl rfl, rg_e_iinc_4 (cut := rg_cut [2, 11]) (f := false) d_E_layAll_111 rfl 114 rfl (nI 1) rg_ki_1, rg_e_goto (cut := rg_cut [2, 11]) (f := false) d_E_layAll_114 rfl 11 rfl, rg_e_cut (cut := rg_cut [2, 11]) 2 rfl, rg_e_cut (cut := rg_cut [2, 11]) 11 rfl, rg_nx_i, rg_nx_v, rg_wd_n, rg_wd_i, rg_wd_l, rg_wd_r, rg_clr_i, rg_clr_l, rg_clr_r, rg_clr_a, rg_clr_n, true_and, and_true, Nat.reduceAdd, Nat.reduceLeDiff, ↓Te_G_holds, ↓Te_R_lettersShared, rg_rt_e, rg_fit_ie, rg_fit_ve, rg_fit_1e, rg_fit_0e, rg_fit_be, hidx, vij, cij, cj, rg_up_ss]
        rw [nI_eq0 (by omega)]
        refine ⟨fun h => ?_, fun h => ?_⟩
        · obtain ⟨q1, q2⟩ := hnj h
          have q3 := hR1.2.2 j q2
          refine ⟨vp_in_nI (by omega) (by omega), ?_⟩
          rw [q3.2.2.2.1, pk_sub (by omega)]
          refine ⟨fun h9 => ?_, fun h9 => absurd h h9⟩
          rw [rg_up_n (by decide), hc, nI_add, nI_add]
          rw [if_neg h] at hg
          refine ih (j + 1) _ _ ⟨hi, by omega, rg_fr_up (rg_fr_up hf (by decide) _ _) (by decide) _ _, fun q hq => ?_, ?_, fun t ht => ?_⟩ (by omega)
          · rw [rg_up_s, upd_n hq, rg_up_n (by decide)]
            exact h4 q hq
          · rw [rg_up_ss]
            congr 1
            show _ = cnF _ (9 * i + j + 1)
            rw [cnF]
            congr 1
            unfold hgC
            rw [hdiv.1, hdiv.2, hg, decide_eq_false (by omega)]
            rfl
          · rw [rg_up_n (by decide), rg_up_s]
            by_cases hte : t = 9 * i + j
            · subst hte
              rw [upd_s, hdiv.1, hdiv.2, hg]
            · rw [upd_n hte]
              exact h5 t (by omega)
        · have h := Classical.not_not.mp h
          refine ⟨fun h9 => absurd h h9, fun _ => ?_⟩
          rw [rg_up_n (by decide), hc, nI_add, nI_add]
          rw [if_pos h] at hg
          refine ih (j + 1) _ _ ⟨hi, by omega, rg_fr_up (rg_fr_up hf (by decide) _ _) (by decide) _ _, fun q hq => ?_, ?_, fun t ht => ?_⟩ (by omega)
          · rw [rg_up_s, upd_n hq, rg_up_n (by decide)]
            exact h4 q hq
          · rw [rg_up_ss]
            congr 1
            show _ = cnF _ (9 * i + j + 1)
            rw [cnF]
            congr 1
            unfold hgC
            rw [hdiv.1, hdiv.2, hg, decide_eq_true rfl]
            rfl
          · rw [rg_up_n (by decide), rg_up_s]
            by_cases hte : t = 9 * i + j
            · subst hte
              rw [upd_s, hdiv.1, hdiv.2, hg]
            · rw [upd_n hte]
              exact h5 t (by omega)
      refine hZ (rg_cut [2, 11, 61]) 400 11 _ _ _ ?_; simp only [rg_e_iload_4 (cut := rg_cut [2, 11, 61]) (f := true) d_E_layAll_11 rfl 13 rfl, rg_e_bipush (cut := rg_cut [2, 11, 61]) (f := false) d_E_layAll_13 rfl 15 rfl (nI 9) rg_kb_9, rg_e_icmp_ge (cut := rg_cut [2, 11, 61]) (f := false) d_E_layAll_15 rfl 18 rfl 117 rfl, rg_e_iload_3 (cut := rg_cut [2, 11, 61]) (f := false) d_E_layAll_18 rfl 19 rfl, rg_e_iload_4 (cut := rg_cut [2, 11, 61]) (f := false) d_E_layAll_19 rfl 21 rfl, rg_e_icmp_eq (cut := rg_cut [2, 11, 61]) (f := false) d_E_layAll_21 rfl 24 rfl 58 rfl, rg_e_aload_0 (cut := rg_cut [2, 11, 61]) (f := false) d_E_layAll_24 rfl 25 rfl, rg_e_geti (P := P_E_layAll) (cut := rg_cut [2, 11, 61]) (f := false) d_E_layAll_25 rfl 28 rfl 4 2 8 rfl (fun _ => rfl), rg_e_iload_3 (cut := rg_cut [2, 11, 61]) (f := false) d_E_layAll_28 rfl 29 rfl, rg_e_cs2 (P := P_E_layAll) (cut := rg_cut [2, 11, 61]) (f := false) d_E_layAll_29 rfl T_G_holds rfl, rg_e_if_eq (cut := rg_cut [2, 11, 61]) (f := false) d_E_layAll_32 rfl 35 rfl 58 rfl, rg_e_aload_0 (cut := rg_cut [2, 11, 61]) (f := false) d_E_layAll_35 rfl 36 rfl, rg_e_geti (P := P_E_layAll) (cut := rg_cut [2, 11, 61]) (f := false) d_E_layAll_36 rfl 39 rfl 4 2 8 rfl (fun _ => rfl), rg_e_iload_4 (cut := rg_cut [2, 11, 61]) (f := false) d_E_layAll_39 rfl 41 rfl, rg_e_cs2 (P := P_E_layAll) (cut := rg_cut [2, 11, 61]) (f := false) d_E_layAll_41 rfl T_G_holds rfl, rg_e_if_eq (cut := rg_cut [2, 11, 61]) (f := false) d_E_layAll_44 rfl 47 rfl 58 rfl, rg_e_aload_1 (cut := rg_cut [2, 11, 61]) (f := false) d_E_layAll_47 rfl 48 rfl, rg_e_iload_3 (cut := rg_cut [2, 11, 61]) (f := false) d_E_layAll_48 rfl 49 rfl, rg_e_iload_4 (cut := rg_cut [2, 11, 61]) (f := false) d_E_layAll_49 rfl 51 rfl, rg_e_iload_2 (cut := rg_cut [2, 11, 61]) (f := false) d_E_layAll_51 rfl 52 rfl, rg_e_cv4 (P := P_E_layAll) (cut := rg_cut [2, 11, 61]) (f := false) d_E_layAll_52 rfl T_R_lettersShared rfl, rg_e_goto (cut := rg_cut [2, 11, 61]) (f := false) d_E_layAll_55 rfl 59 rfl, rg_e_iconst (cut := rg_cut [2, 11, 61]) (f := false) d_E_layAll_58 rfl 59 rfl (nI 0) rg_ki_0, rg_e_istore_5 (cut := rg_cut [2, 11, 61]) (f := false) d_E_layAll_59 rfl 61 rfl, rg_e_iinc_3 (cut := rg_cut [2, 11, 61]) (f := false) d_E_layAll_117 rfl 120 rfl (nI 1) rg_ki_1, rg_e_goto (cut := rg_cut [2, 11, 61]) (f := false) d_E_layAll_120 rfl 2 rfl, rg_e_cut (cut := rg_cut [2, 11, 61]) 2 rfl, rg_e_cut (cut := rg_cut [2, 11, 61]) 11 rfl, rg_e_cut (cut := rg_cut [2, 11, 61]) 61 rfl, rg_nx_i, rg_nx_v, rg_wd_n, rg_wd_i, rg_wd_l, rg_wd_r, rg_clr_i, rg_clr_l, rg_clr_r, rg_clr_a, rg_clr_n, true_and, and_true, Nat.reduceAdd, Nat.reduceLeDiff, ↓Te_G_holds, ↓Te_R_lettersShared, rg_rt_e, rg_fit_ie, rg_fit_ve, rg_fit_1e, rg_fit_0e, rg_fit_be, zI_eq]
      rw [nI_lep (by omega) (by omega), nI_eqp (by omega) (by omega), hB1.h hi, hB1.h hj9]
      refine ⟨fun h => by omega, fun _ => ⟨fun h => ?_, fun h => ⟨fun h1 => ?_, fun h1 => ⟨fun h2 => ?_, fun h2 => ?_⟩⟩⟩⟩
      · exact tail 0 (by omega) (fun q => absurd rfl q) (by unfold hgN; rw [if_neg (by omega)]; rfl)
      · exact tail 0 (by omega) (fun q => absurd rfl q) (by unfold hgN; rw [if_neg (by rw [h1]; simp)]; rfl)
      · exact tail 0 (by omega) (fun q => absurd rfl q) (by unfold hgN; rw [if_neg (by rw [h2]; simp)]; rfl)
      · have h1 : ndN nr ln pk i = true := by simpa using h1
        have h2 : ndN nr ln pk j = true := by simpa using h2
        have li := ndN_lt h1
        have lj := ndN_lt h2
        have q := hR1.2.2 j lj
        have hov : ovN ln pk i j least' ≤ min (ln i) (ln j) - 1 := gtF_le _ _ _
        refine ⟨nr, ln, pk, i, j, least', hR1, rfl, rfl, li, lj, rfl, l1, l2, tail _ (by omega) (fun _ => ⟨by omega, lj⟩) ?_⟩
        unfold hgN
        rw [if_pos ⟨h, h1, h2⟩]
    · obtain rfl : j = 9 := by omega
      refine hZ (rg_cut [2, 11]) 400 11 _ _ _ ?_; simp only [rg_e_iload_4 (cut := rg_cut [2, 11]) (f := true) d_E_layAll_11 rfl 13 rfl, rg_e_bipush (cut := rg_cut [2, 11]) (f := false) d_E_layAll_13 rfl 15 rfl (nI 9) rg_kb_9, rg_e_icmp_ge (cut := rg_cut [2, 11]) (f := false) d_E_layAll_15 rfl 18 rfl 117 rfl, rg_e_iload_3 (cut := rg_cut [2, 11]) (f := false) d_E_layAll_18 rfl 19 rfl, rg_e_iload_4 (cut := rg_cut [2, 11]) (f := false) d_E_layAll_19 rfl 21 rfl, rg_e_icmp_eq (cut := rg_cut [2, 11]) (f := false) d_E_layAll_21 rfl 24 rfl 58 rfl, rg_e_aload_0 (cut := rg_cut [2, 11]) (f := false) d_E_layAll_24 rfl 25 rfl, rg_e_geti (P := P_E_layAll) (cut := rg_cut [2, 11]) (f := false) d_E_layAll_25 rfl 28 rfl 4 2 8 rfl (fun _ => rfl), rg_e_iload_3 (cut := rg_cut [2, 11]) (f := false) d_E_layAll_28 rfl 29 rfl, rg_e_cs2 (P := P_E_layAll) (cut := rg_cut [2, 11]) (f := false) d_E_layAll_29 rfl T_G_holds rfl, rg_e_if_eq (cut := rg_cut [2, 11]) (f := false) d_E_layAll_32 rfl 35 rfl 58 rfl, rg_e_aload_0 (cut := rg_cut [2, 11]) (f := false) d_E_layAll_35 rfl 36 rfl, rg_e_geti (P := P_E_layAll) (cut := rg_cut [2, 11]) (f := false) d_E_layAll_36 rfl 39 rfl 4 2 8 rfl (fun _ => rfl), rg_e_iload_4 (cut := rg_cut [2, 11]) (f := false) d_E_layAll_39 rfl 41 rfl, rg_e_cs2 (P := P_E_layAll) (cut := rg_cut [2, 11]) (f := false) d_E_layAll_41 rfl T_G_holds rfl, rg_e_if_eq (cut := rg_cut [2, 11]) (f := false) d_E_layAll_44 rfl 47 rfl 58 rfl, rg_e_aload_1 (cut := rg_cut [2, 11]) (f := false) d_E_layAll_47 rfl 48 rfl, rg_e_iload_3 (cut := rg_cut [2, 11]) (f := false) d_E_layAll_48 rfl 49 rfl, rg_e_iload_4 (cut := rg_cut [2, 11]) (f := false) d_E_layAll_49 rfl 51 rfl, rg_e_iload_2 (cut := rg_cut [2, 11]) (f := false) d_E_layAll_51 rfl 52 rfl, rg_e_cv4 (P := P_E_layAll) (cut := rg_cut [2, 11]) (f := false) d_E_layAll_52 rfl T_R_lettersShared rfl, rg_e_goto (cut := rg_cut [2, 11]) (f := false) d_E_layAll_55 rfl 59 rfl, rg_e_iconst (cut := rg_cut [2, 11]) (f := false) d_E_layAll_58 rfl 59 rfl (nI 0) rg_ki_0, rg_e_istore_5 (cut := rg_cut [2, 11]) (f := false) d_E_layAll_59 rfl 61 rfl, rg_e_aload_0 (cut := rg_cut [2, 11]) (f := false) d_E_layAll_61 rfl 62 rfl, rg_e_getr (P := P_E_layAll) (cut := rg_cut [2, 11]) (f := false) d_E_layAll_62 rfl 65 rfl 4 2 0 5 rfl (fun _ => rfl), rg_e_iload_3 (cut := rg_cut [2, 11]) (f := false) d_E_layAll_65 rfl 66 rfl, rg_e_bipush (cut := rg_cut [2, 11]) (f := false) d_E_layAll_66 rfl 68 rfl (nI 9) rg_kb_9, rg_e_imul (cut := rg_cut [2, 11]) (f := false) d_E_layAll_68 rfl 69 rfl, rg_e_iload_4 (cut := rg_cut [2, 11]) (f := false) d_E_layAll_69 rfl 71 rfl, rg_e_iadd (cut := rg_cut [2, 11]) (f := false) d_E_layAll_71 rfl 72 rfl, rg_e_iload_5 (cut := rg_cut [2, 11]) (f := false) d_E_layAll_72 rfl 74 rfl, rg_e_if_ne (cut := rg_cut [2, 11]) (f := false) d_E_layAll_74 rfl 77 rfl 81 rfl, rg_e_iconst (cut := rg_cut [2, 11]) (f := false) d_E_layAll_77 rfl 78 rfl (nI 0) rg_ki_0, rg_e_goto (cut := rg_cut [2, 11]) (f := false) d_E_layAll_78 rfl 91 rfl, rg_e_aload_1 (cut := rg_cut [2, 11]) (f := false) d_E_layAll_81 rfl 82 rfl, rg_e_getr (P := P_E_layAll) (cut := rg_cut [2, 11]) (f := false) d_E_layAll_82 rfl 85 rfl 1 1 1 3 rfl (fun _ => rfl), rg_e_iload_4 (cut := rg_cut [2, 11]) (f := false) d_E_layAll_85 rfl 87 rfl, rg_e_iald (cut := rg_cut [2, 11]) (f := false) d_E_layAll_87 rfl 88 rfl 3 9 rfl, rg_e_iload_5 (cut := rg_cut [2, 11]) (f := false) d_E_layAll_88 rfl 90 rfl, rg_e_isub (cut := rg_cut [2, 11]) (f := false) d_E_layAll_90 rfl 91 rfl, rg_e_iast (cut := rg_cut [2, 11]) (f := false) d_E_layAll_91 rfl 92 rfl 5 81 rfl, rg_e_aload_0 (cut := rg_cut [2, 11]) (f := false) d_E_layAll_92 rfl 93 rfl, rg_e_dupr (cut := rg_cut [2, 11]) (f := false) d_E_layAll_93 rfl 94 rfl, rg_e_geti (P := P_E_layAll) (cut := rg_cut [2, 11]) (f := false) d_E_layAll_94 rfl 97 rfl 4 2 9 rfl (fun _ => rfl), rg_e_iload_5 (cut := rg_cut [2, 11]) (f := false) d_E_layAll_97 rfl 99 rfl, rg_e_if_ne (cut := rg_cut [2, 11]) (f := false) d_E_layAll_99 rfl 102 rfl 106 rfl, rg_e_iconst (cut := rg_cut [2, 11]) (f := false) d_E_layAll_102 rfl 103 rfl (nI 0) rg_ki_0, rg_e_goto (cut := rg_cut [2, 11]) (f := false) d_E_layAll_103 rfl 107 rfl, rg_e_iconst (cut := rg_cut [2, 11]) (f := false) d_E_layAll_106 rfl 107 rfl (nI 1) rg_ki_1, rg_e_iadd (cut := rg_cut [2, 11]) (f := false) d_E_layAll_107 rfl 108 rfl, rg_e_put (P := P_E_layAll) (cut := rg_cut [2, 11]) (f := false) d_E_layAll_108 rfl 111 rfl 4 2 9 rfl rfl, rg_e_iinc_4 (cut := rg_cut [2, 11]) (f := false) d_E_layAll_111 rfl 114 rfl (nI 1) rg_ki_1, rg_e_goto (cut := rg_cut [2, 11]) (f := false) d_E_layAll_114 rfl 11 rfl, rg_e_iinc_3 (cut := rg_cut [2, 11]) (f := false) d_E_layAll_117 rfl 120 rfl (nI 1) rg_ki_1, rg_e_goto (cut := rg_cut [2, 11]) (f := false) d_E_layAll_120 rfl 2 rfl, rg_e_cut (cut := rg_cut [2, 11]) 2 rfl, rg_e_cut (cut := rg_cut [2, 11]) 11 rfl, rg_nx_i, rg_nx_v, rg_wd_n, rg_wd_i, rg_wd_l, rg_wd_r, rg_clr_i, rg_clr_l, rg_clr_r, rg_clr_a, rg_clr_n, true_and, and_true, Nat.reduceAdd, Nat.reduceLeDiff, ↓Te_G_holds, ↓Te_R_lettersShared, rg_rt_e, rg_fit_ie, rg_fit_ve, rg_fit_1e, rg_fit_0e, rg_fit_be, zI_eq]
      refine ⟨fun _ => ?_, fun h => absurd (nI_le hj9 (by omega)) h⟩
      rw [nI_add]
      exact hout w1 _ _ hf h4 hc h5
  have outer : ∀ (i : Nat) (w1 : rg_W) (a4 a5 : Value), (i ≤ 9 ∧ rg_fr [4, 5] w w1 ∧ (∀ q, q ≠ 9 → w1.1 4 q = w.1 4 q) ∧ w1.1 4 9 = nI (cnF (hgC (hgN nr ln pk least')) (9 * i)) ∧ ∀ t, t < 9 * i → w1.1 5 t = nI (hgN nr ln pk least' (t / 9) (t % 9))) → Z 2 [.ref 4, .ref 1, .int (nI least'), .int (nI i), a4, a5] [] w1 0 := by
    refine rg_lp4 _ _ (fun i _ _ _ => 9 - i) ?_
    intro i w1 a4 a5 ⟨hi, hf, h4, hc, h5⟩ ih
    refine hZ (rg_cut [2, 11]) 400 2 _ _ _ ?_; simp only [rg_e_iload_3 (cut := rg_cut [2, 11]) (f := true) d_E_layAll_2 rfl 3 rfl, rg_e_bipush (cut := rg_cut [2, 11]) (f := false) d_E_layAll_3 rfl 5 rfl (nI 9) rg_kb_9, rg_e_icmp_ge (cut := rg_cut [2, 11]) (f := false) d_E_layAll_5 rfl 8 rfl 123 rfl, rg_e_iconst (cut := rg_cut [2, 11]) (f := false) d_E_layAll_8 rfl 9 rfl (nI 0) rg_ki_0, rg_e_istore_4 (cut := rg_cut [2, 11]) (f := false) d_E_layAll_9 rfl 11 rfl, rg_e_vret (cut := rg_cut [2, 11]) (f := false) d_E_layAll_123 rfl, rg_e_cut (cut := rg_cut [2, 11]) 2 rfl, rg_e_cut (cut := rg_cut [2, 11]) 11 rfl, rg_nx_i, rg_nx_v, rg_wd_n, rg_wd_i, rg_wd_l, rg_wd_r, rg_clr_i, rg_clr_l, rg_clr_r, rg_clr_a, rg_clr_n, true_and, and_true, Nat.reduceAdd, Nat.reduceLeDiff, ↓Te_G_holds, ↓Te_R_lettersShared, rg_rt_e, rg_fit_ie, rg_fit_ve, rg_fit_1e, rg_fit_0e, rg_fit_be]
    rw [nI_lep (by omega) (by omega)]
    refine ⟨fun h => ?_, fun h => ?_⟩
    · obtain rfl : i = 9 := by omega
      exact hK w1 hf h4 hc h5
    · exact inner i 0 w1 _ ⟨by omega, by omega, hf, h4, hc, h5⟩ (fun w2 a4 a5 g1 g2 g3 g4 => ih (i + 1) w2 a4 a5 ⟨by omega, g1, g2, g3, g4⟩ (by omega))
  refine hZ (rg_cut [2, 11]) 400 0 _ _ _ ?_; simp only [rg_e_iconst (cut := rg_cut [2, 11]) (f := true) d_E_layAll_0 rfl 1 rfl (nI 0) rg_ki_0, rg_e_istore_3 (cut := rg_cut [2, 11]) (f := false) d_E_layAll_1 rfl 2 rfl, rg_e_cut (cut := rg_cut [2, 11]) 2 rfl, rg_e_cut (cut := rg_cut [2, 11]) 11 rfl, rg_nx_i, rg_nx_v, rg_wd_n, rg_wd_i, rg_wd_l, rg_wd_r, rg_clr_i, rg_clr_l, rg_clr_r, rg_clr_a, rg_clr_n, true_and, and_true, Nat.reduceAdd, Nat.reduceLeDiff, ↓Te_G_holds, ↓Te_R_lettersShared, rg_rt_e, rg_fit_ie, rg_fit_ve, rg_fit_1e, rg_fit_0e, rg_fit_be]
  exact outer 0 w _ _ ⟨by omega, rg_fr_rf _ _, fun _ _ => rfl, h0, fun t ht => absurd ht (by omega)⟩
end
section
/-! Edges: those that are left -/
def sdE (hg : Nat → Nat → Nat) (i k its : Nat) : Bool := (List.range 9).any (fun j => !decide (hg i j = 0) && !decide (hg j k = 0) && decide (hg i j + hg j k = its))
/-- place t = 9 i + j is an edge that is left -/
def kp (hg : Nat → Nat → Nat) (t : Nat) : Bool := !decide (hg (t / 9) (t % 9) = 0) && !sdE hg (t / 9) (t % 9) (hg (t / 9) (t % 9))
def esT (hg : Nat → Nat → Nat) (t : Nat) : List Nat := (List.range t).filter (kp hg)
theorem esT_s (hg : Nat → Nat → Nat) (t : Nat) : esT hg (t + 1) = esT hg t ++ (if kp hg t = true then [t] else []) := by
  unfold esT
  rw [List.range_succ, List.filter_append]
  congr 1
  by_cases h : kp hg t = true <;> simp [h]
theorem esT_t {hg : Nat → Nat → Nat} {t : Nat} (h : kp hg t = true) : esT hg (t + 1) = esT hg t ++ [t] := by rw [esT_s, if_pos h]
theorem esT_f {hg : Nat → Nat → Nat} {t : Nat} (h : kp hg t = false) : esT hg (t + 1) = esT hg t := by
  rw [esT_s, if_neg (by rw [h]; decide), List.append_nil]
theorem esT_len {hg : Nat → Nat → Nat} (h0 : ∀ i, hg i i = 0) : ∀ t, t ≤ 81 → (esT hg t).length + (t + 9) / 10 ≤ t := by
  intro t
  induction t with
  | zero => intro _; exact Nat.le_of_ble_eq_true rfl
  | succ t ih =>
    intro ht
    have := ih (by omega)
    by_cases hk : kp hg t = true
    · rw [esT_t hk, List.length_append, List.length_singleton]
      have hne : t / 9 ≠ t % 9 := by
        intro e
        unfold kp at hk
        rw [← e, h0] at hk
        simp at hk
      omega
    · rw [esT_f (by simpa using hk)]
      omega
theorem getD_l {α : Type} {l m : List α} {k : Nat} {d : α} (h : k < l.length) : (l ++ m).getD k d = l.getD k d := by
  simp [List.getD_eq_getElem?_getD, List.getElem?_append_left h]
theorem getD_e {α : Type} {l : List α} {x d : α} : (l ++ [x]).getD l.length d = x := by
  simp [List.getD_eq_getElem?_getD]
/-- what hangs says -/
def Hg (hg : Nat → Nat → Nat) (w : rg_W) : Prop := (∀ t, t < 81 → w.1 5 t = nI (hg (t / 9) (t % 9))) ∧ (∀ a b, hg a b ≤ 12) ∧ ∀ i, hg i i = 0
theorem Hg.at {hg : Nat → Nat → Nat} {w : rg_W} (h : Hg hg w) {i j : Nat} (hi : i < 9) (hj : j < 9) : w.1 5 (9 * i + j) = nI (hg i j) := by
  rw [h.1 _ (by omega), show (9 * i + j) / 9 = i by omega, show (9 * i + j) % 9 = j by omega]
-- E.isSaid
def P_E_isSaid : rg_P := (rg_F_E, [], [], [], [], [], 0)
def T_E_isSaid : rg_T := fun as w K => match as with
  | [.ref 4, .int i, .int k, .int its] => ∃ hg i' k' its', Hg hg w ∧ i = nI i' ∧ k = nI k' ∧ its = nI its' ∧ i' < 9 ∧ k' < 9 ∧ its' ≤ 12 ∧ K (some (.int (zI (sdE hg i' k' its')))) w
  | _ => False
theorem Te_E_isSaid (i : Int32) (k : Int32) (its : Int32) (w : rg_W) (K : Option Value → rg_W → Prop) : T_E_isSaid [.ref 4, .int i, .int k, .int its] w K = (∃ hg i' k' its', Hg hg w ∧ i = nI i' ∧ k = nI k' ∧ its = nI its' ∧ i' < 9 ∧ k' < 9 ∧ its' ≤ 12 ∧ K (some (.int (zI (sdE hg i' k' its')))) w) := rfl
theorem r_E_isSaid : ∀ as w K, T_E_isSaid as w K → ∃ r, as = .ref 4 :: r := by
  intro as w K h
  unfold T_E_isSaid at h
  split at h
  · exact ⟨_, rfl⟩
  · exact h.elim
theorem G_E_isSaid (l : Launch) : rg_Good l y_E_isSaid c_E_isSaid 7 (some .boolean) 0 T_E_isSaid := by
  refine rg_good_of (P := P_E_isSaid) (by decide) (rg_pok rg_F_E_ok rg_nil) ?_
  intro as w K Z hT hZ
  unfold T_E_isSaid at hT
  split at hT
  rotate_left
  · exact hT.elim
  rename_i i k its
  refine ⟨Nat.le_of_ble_eq_true rfl, ?_⟩
  show Z 0 [.ref 4, .int i, .int k, .int its, .null, .null, .null] [] w 0
  obtain ⟨hg, i', k', its', hH, rfl, rfl, rfl, hi, hk, hs, hK⟩ := hT
  have loop : ∀ (j : Nat) (a5 a6 : Value), (j ≤ 9 ∧ ∀ b, b < j → (!decide (hg i' b = 0) && !decide (hg b k' = 0) && decide (hg i' b + hg b k' = its')) = false) → Z 3 [.ref 4, .int (nI i'), .int (nI k'), .int (nI its'), .int (nI j), a5, a6] [] w 0 := by
    refine rg_lp3 _ _ (fun j _ _ => 9 - j) ?_
    intro j a5 a6 ⟨hj, hno⟩ ih
    rcases Nat.lt_or_ge j 9 with hj9 | hj9
    · have x1 : nI i' * nI 9 + nI j = nI (9 * i' + j) := by rw [pk_mul, nI_add, Nat.mul_comm]
      have x2 : nI j * nI 9 + nI k' = nI (9 * j + k') := by rw [pk_mul, nI_add, Nat.mul_comm]
      have v1 : vp_in (nI (9 * i' + j)) 81 := vp_in_nI (by omega) (by omega)
      have v2 : vp_in (nI (9 * j + k')) 81 := vp_in_nI (by omega) (by omega)
      have c1 : (nI (9 * i' + j)).toNatClampNeg = 9 * i' + j := nI_clamp (by omega)
      have c2 : (nI (9 * j + k')).toNatClampNeg = 9 * j + k' := nI_clamp (by omega)
      have e1 := hH.at hi hj9
      have e2 := hH.at hj9 hk
      have b1 := hH.2.1 i' j
      have b2 := hH.2.1 j k'
      have next : (!decide (hg i' j = 0) && !decide (hg j k' = 0) && decide (hg i' j + hg j k' = its')) = false → ∀ a5 a6 : Value, Z 3 [.ref 4, .int (nI i'), .int (nI k'), .int (nI its'), .int (nI (j + 1)), a5, a6] [] w 0 := by
        intro h a5 a6
        refine ih (j + 1) a5 a6 ⟨by omega, fun b hb => ?_⟩ (by omega)
        by_cases hbj : b = j
        · subst hbj; exact h
        · exact hno b (by omega)
      refine hZ (rg_cut [3]) 400 3 _ _ _ ?_; simp only [rg_e_iload_4 (cut := rg_cut [3]) (f := true) d_E_isSaid_3 rfl 5 rfl, rg_e_bipush (cut := rg_cut [3]) (f := false) d_E_isSaid_5 rfl 7 rfl (nI 9) rg_kb_9, rg_e_icmp_ge (cut := rg_cut [3]) (f := false) d_E_isSaid_7 rfl 10 rfl 65 rfl, rg_e_aload_0 (cut := rg_cut [3]) (f := false) d_E_isSaid_10 rfl 11 rfl, rg_e_getr (P := P_E_isSaid) (cut := rg_cut [3]) (f := false) d_E_isSaid_11 rfl 14 rfl 4 2 0 5 rfl (fun _ => rfl), rg_e_iload_1 (cut := rg_cut [3]) (f := false) d_E_isSaid_14 rfl 15 rfl, rg_e_bipush (cut := rg_cut [3]) (f := false) d_E_isSaid_15 rfl 17 rfl (nI 9) rg_kb_9, rg_e_imul (cut := rg_cut [3]) (f := false) d_E_isSaid_17 rfl 18 rfl, rg_e_iload_4 (cut := rg_cut [3]) (f := false) d_E_isSaid_18 rfl 20 rfl, rg_e_iadd (cut := rg_cut [3]) (f := false) d_E_isSaid_20 rfl 21 rfl, rg_e_iald (cut := rg_cut [3]) (f := false) d_E_isSaid_21 rfl 22 rfl 5 81 rfl, rg_e_istore_5 (cut := rg_cut [3]) (f := false) d_E_isSaid_22 rfl 24 rfl, rg_e_aload_0 (cut := rg_cut [3]) (f := false) d_E_isSaid_24 rfl 25 rfl, rg_e_getr (P := P_E_isSaid) (cut := rg_cut [3]) (f := false) d_E_isSaid_25 rfl 28 rfl 4 2 0 5 rfl (fun _ => rfl), rg_e_iload_4 (cut := rg_cut [3]) (f := false) d_E_isSaid_28 rfl 30 rfl, rg_e_bipush (cut := rg_cut [3]) (f := false) d_E_isSaid_30 rfl 32 rfl (nI 9) rg_kb_9, rg_e_imul (cut := rg_cut [3]) (f := false) d_E_isSaid_32 rfl 33 rfl, rg_e_iload_2 (cut := rg_cut [3]) (f := false) d_E_isSaid_33 rfl 34 rfl, rg_e_iadd (cut := rg_cut [3]) (f := false) d_E_isSaid_34 rfl 35 rfl, rg_e_iald (cut := rg_cut [3]) (f := false) d_E_isSaid_35 rfl 36 rfl 5 81 rfl, rg_e_istore_6 (cut := rg_cut [3]) (f := false) d_E_isSaid_36 rfl 38 rfl, rg_e_iload_5 (cut := rg_cut [3]) (f := false) d_E_isSaid_38 rfl 40 rfl, rg_e_if_eq (cut := rg_cut [3]) (f := false) d_E_isSaid_40 rfl 43 rfl 59 rfl, rg_e_iload_6 (cut := rg_cut [3]) (f := false) d_E_isSaid_43 rfl 45 rfl, rg_e_if_eq (cut := rg_cut [3]) (f := false) d_E_isSaid_45 rfl 48 rfl 59 rfl, rg_e_iload_5 (cut := rg_cut [3]) (f := false) d_E_isSaid_48 rfl 50 rfl, rg_e_iload_6 (cut := rg_cut [3]) (f := false) d_E_isSaid_50 rfl 52 rfl, rg_e_iadd (cut := rg_cut [3]) (f := false) d_E_isSaid_52 rfl 53 rfl, rg_e_iload_3 (cut := rg_cut [3]) (f := false) d_E_isSaid_53 rfl 54 rfl, rg_e_icmp_ne (cut := rg_cut [3]) (f := false) d_E_isSaid_54 rfl 57 rfl 59 rfl, rg_e_iconst (cut := rg_cut [3]) (f := false) d_E_isSaid_57 rfl 58 rfl (nI 1) rg_ki_1, rg_e_iret (cut := rg_cut [3]) (f := false) d_E_isSaid_58 rfl, rg_e_iinc_4 (cut := rg_cut [3]) (f := false) d_E_isSaid_59 rfl 62 rfl (nI 1) rg_ki_1, rg_e_goto (cut := rg_cut [3]) (f := false) d_E_isSaid_62 rfl 3 rfl, rg_e_iconst (cut := rg_cut [3]) (f := false) d_E_isSaid_65 rfl 66 rfl (nI 0) rg_ki_0, rg_e_iret (cut := rg_cut [3]) (f := false) d_E_isSaid_66 rfl, rg_e_cut (cut := rg_cut [3]) 3 rfl, rg_nx_i, rg_nx_v, rg_wd_n, rg_wd_i, rg_wd_l, rg_wd_r, rg_clr_i, rg_clr_l, rg_clr_r, rg_clr_a, rg_clr_n, true_and, and_true, Nat.reduceAdd, Nat.reduceLeDiff, rg_rt_e, rg_fit_ie, rg_fit_ve, rg_fit_1e, rg_fit_0e, rg_fit_be, x1, x2, v1, v2, c1, c2, e1, e2, nI_add]
      rw [nI_lep (by omega) (by omega), nI_eq0 (by omega), nI_eq0 (by omega), nI_eqp (by omega) (by omega)]
      refine ⟨fun h => by omega, fun _ => ⟨fun h => next (by simp [h]) _ _, fun h => ⟨fun h1 => next (by simp [h1]) _ _, fun h1 => ⟨fun h2 => next (by simp [h2]) _ _, fun h2 => ?_⟩⟩⟩⟩
      have h2 := Classical.not_not.mp h2
      have : sdE hg i' k' its' = true := List.any_eq_true.mpr ⟨j, List.mem_range.mpr hj9, by simp [h, h1, h2]⟩
      rw [this] at hK
      exact hK
    · obtain rfl : j = 9 := by omega
      refine hZ (rg_cut [3]) 400 3 _ _ _ ?_; simp only [rg_e_iload_4 (cut := rg_cut [3]) (f := true) d_E_isSaid_3 rfl 5 rfl, rg_e_bipush (cut := rg_cut [3]) (f := false) d_E_isSaid_5 rfl 7 rfl (nI 9) rg_kb_9, rg_e_icmp_ge (cut := rg_cut [3]) (f := false) d_E_isSaid_7 rfl 10 rfl 65 rfl, rg_e_aload_0 (cut := rg_cut [3]) (f := false) d_E_isSaid_10 rfl 11 rfl, rg_e_getr (P := P_E_isSaid) (cut := rg_cut [3]) (f := false) d_E_isSaid_11 rfl 14 rfl 4 2 0 5 rfl (fun _ => rfl), rg_e_iload_1 (cut := rg_cut [3]) (f := false) d_E_isSaid_14 rfl 15 rfl, rg_e_bipush (cut := rg_cut [3]) (f := false) d_E_isSaid_15 rfl 17 rfl (nI 9) rg_kb_9, rg_e_imul (cut := rg_cut [3]) (f := false) d_E_isSaid_17 rfl 18 rfl, rg_e_iload_4 (cut := rg_cut [3]) (f := false) d_E_isSaid_18 rfl 20 rfl, rg_e_iadd (cut := rg_cut [3]) (f := false) d_E_isSaid_20 rfl 21 rfl, rg_e_iald (cut := rg_cut [3]) (f := false) d_E_isSaid_21 rfl 22 rfl 5 81 rfl, rg_e_istore_5 (cut := rg_cut [3]) (f := false) d_E_isSaid_22 rfl 24 rfl, rg_e_aload_0 (cut := rg_cut [3]) (f := false) d_E_isSaid_24 rfl 25 rfl, rg_e_getr (P := P_E_isSaid) (cut := rg_cut [3]) (f := false) d_E_isSaid_25 rfl 28 rfl 4 2 0 5 rfl (fun _ => rfl), rg_e_iload_4 (cut := rg_cut [3]) (f := false) d_E_isSaid_28 rfl 30 rfl, rg_e_bipush (cut := rg_cut [3]) (f := false) d_E_isSaid_30 rfl 32 rfl (nI 9) rg_kb_9, rg_e_imul (cut := rg_cut [3]) (f := false) d_E_isSaid_32 rfl 33 rfl, rg_e_iload_2 (cut := rg_cut [3]) (f := false) d_E_isSaid_33 rfl 34 rfl, rg_e_iadd (cut := rg_cut [3]) (f := false) d_E_isSaid_34 rfl 35 rfl, rg_e_iald (cut := rg_cut [3]) (f := false) d_E_isSaid_35 rfl 36 rfl 5 81 rfl, rg_e_istore_6 (cut := rg_cut [3]) (f := false) d_E_isSaid_36 rfl 38 rfl, rg_e_iload_5 (cut := rg_cut [3]) (f := false) d_E_isSaid_38 rfl 40 rfl, rg_e_if_eq (cut := rg_cut [3]) (f := false) d_E_isSaid_40 rfl 43 rfl 59 rfl, rg_e_iload_6 (cut := rg_cut [3]) (f := false) d_E_isSaid_43 rfl 45 rfl, rg_e_if_eq (cut := rg_cut [3]) (f := false) d_E_isSaid_45 rfl 48 rfl 59 rfl, rg_e_iload_5 (cut := rg_cut [3]) (f := false) d_E_isSaid_48 rfl 50 rfl, rg_e_iload_6 (cut := rg_cut [3]) (f := false) d_E_isSaid_50 rfl 52 rfl, rg_e_iadd (cut := rg_cut [3]) (f := false) d_E_isSaid_52 rfl 53 rfl, rg_e_iload_3 (cut := rg_cut [3]) (f := false) d_E_isSaid_53 rfl 54 rfl, rg_e_icmp_ne (cut := rg_cut [3]) (f := false) d_E_isSaid_54 rfl 57 rfl 59 rfl, rg_e_iconst (cut := rg_cut [3]) (f := false) d_E_isSaid_57 rfl 58 rfl (nI 1) rg_ki_1, rg_e_iret (cut := rg_cut [3]) (f := false) d_E_isSaid_58 rfl, rg_e_iinc_4 (cut := rg_cut [3]) (f := false) d_E_isSaid_59 rfl 62 rfl (nI 1) rg_ki_1, rg_e_goto (cut := rg_cut [3]) (f := false) d_E_isSaid_62 rfl 3 rfl, rg_e_iconst (cut := rg_cut [3]) (f := false) d_E_isSaid_65 rfl 66 rfl (nI 0) rg_ki_0, rg_e_iret (cut := rg_cut [3]) (f := false) d_E_isSaid_66 rfl, rg_e_cut (cut := rg_cut [3]) 3 rfl, rg_nx_i, rg_nx_v, rg_wd_n, rg_wd_i, rg_wd_l, rg_wd_r, rg_clr_i, rg_clr_l, rg_clr_r, rg_clr_a, rg_clr_n, true_and, and_true, Nat.reduceAdd, Nat.reduceLeDiff, rg_rt_e, rg_fit_ie, rg_fit_ve, rg_fit_1e, rg_fit_0e, rg_fit_be]
      refine ⟨fun _ => ?_, fun h => absurd (nI_le hj9 (by omega)) h⟩
      have : sdE hg i' k' its' = false := List.any_eq_false.mpr (fun b hb => by rw [hno b (List.mem_range.mp hb)]; decide)
      rw [this] at hK
      exact hK
  refine hZ (rg_cut [3]) 400 0 _ _ _ ?_; simp only [rg_e_iconst (cut := rg_cut [3]) (f := true) d_E_isSaid_0 rfl 1 rfl (nI 0) rg_ki_0, rg_e_istore_4 (cut := rg_cut [3]) (f := false) d_E_isSaid_1 rfl 3 rfl, rg_e_cut (cut := rg_cut [3]) 3 rfl, rg_nx_i, rg_nx_v, rg_wd_n, rg_wd_i, rg_wd_l, rg_wd_r, rg_clr_i, rg_clr_l, rg_clr_r, rg_clr_a, rg_clr_n, true_and, and_true, Nat.reduceAdd, Nat.reduceLeDiff, rg_rt_e, rg_fit_ie, rg_fit_ve, rg_fit_1e, rg_fit_0e, rg_fit_be]
  exact loop 0 _ _ ⟨by omega, fun b hb => absurd hb (by omega)⟩
/-- the arrays of edges hold those that are left of the first t places -/
def GE (hg : Nat → Nat → Nat) (t : Nat) (w : rg_W) : Prop := w.1 4 10 = nI (esT hg t).length ∧
  (∀ k, k < (esT hg t).length → w.1 6 k = nI ((esT hg t).getD k 0 / 9) ∧ w.1 7 k = nI ((esT hg t).getD k 0 % 9) ∧ w.1 8 k = nI (hg ((esT hg t).getD k 0 / 9) ((esT hg t).getD k 0 % 9))) ∧
  (∀ a, a < 9 → BS (w.1 10 a) (fun b => decide (9 * a + b < t) && kp hg (9 * a + b))) ∧ ∀ b, b < 9 → BS (w.1 11 b) (fun a => decide (9 * a + b < t) && kp hg (9 * a + b))
theorem GE.fr {hg : Nat → Nat → Nat} {t : Nat} {w w' : rg_W} (h : GE hg t w) (h4 : w'.1 4 10 = w.1 4 10) (h6 : w'.1 6 = w.1 6) (h7 : w'.1 7 = w.1 7) (h8 : w'.1 8 = w.1 8) (h10 : w'.1 10 = w.1 10) (h11 : w'.1 11 = w.1 11) : GE hg t w' := by
  unfold GE at h ⊢
  rw [h4, h6, h7, h8, h10, h11]
  exact h
theorem GE.skip {hg : Nat → Nat → Nat} {t : Nat} {w : rg_W} (h : GE hg t w) (hk : kp hg t = false) : GE hg (t + 1) w := by
  obtain ⟨h1, h2, h3, h4⟩ := h
  unfold GE
  rw [esT_f hk]
  refine ⟨h1, h2, fun a ha => (h3 a ha).cg fun b hb => ?_, fun b hb => (h4 b hb).cg fun a ha => ?_⟩
  all_goals
    by_cases e : 9 * a + b = t
    · rw [e, hk]; simp
    · congr 1
      simp only [decide_eq_decide]
      omega
-- E.keepUnsaid
def P_E_keepUnsaid : rg_P := (rg_F_E, [(157, 4, 0, T_E_isSaid)], [], [], [], [], 0)
def T_E_keepUnsaid : rg_T := fun as w K => match as with
  | [.ref 4, .int i] => ∃ hg i', Hg hg w ∧ i = nI i' ∧ i' < 9 ∧ GE hg (9 * i') w ∧ ∀ w', rg_fr [4, 6, 7, 8, 10, 11] w w' → (∀ q, q ≠ 10 → w'.1 4 q = w.1 4 q) → GE hg (9 * (i' + 1)) w' → K none w'
  | _ => False
theorem Te_E_keepUnsaid (i : Int32) (w : rg_W) (K : Option Value → rg_W → Prop) : T_E_keepUnsaid [.ref 4, .int i] w K = (∃ hg i', Hg hg w ∧ i = nI i' ∧ i' < 9 ∧ GE hg (9 * i') w ∧ ∀ w', rg_fr [4, 6, 7, 8, 10, 11] w w' → (∀ q, q ≠ 10 → w'.1 4 q = w.1 4 q) → GE hg (9 * (i' + 1)) w' → K none w') := rfl
theorem r_E_keepUnsaid : ∀ as w K, T_E_keepUnsaid as w K → ∃ r, as = .ref 4 :: r := by
  intro as w K h
  unfold T_E_keepUnsaid at h
  split at h
  · exact ⟨_, rfl⟩
  · exact h.elim
theorem G_E_keepUnsaid (l : Launch) : rg_Good l y_E_keepUnsaid c_E_keepUnsaid 4 none 1 T_E_keepUnsaid := by
  refine rg_good_of (P := P_E_keepUnsaid) (by decide) (rg_pok rg_F_E_ok (rg_cons (cw_E_78 (G_E_isSaid l) (by decide) r_E_isSaid) rg_nil)) ?_
  intro as w K Z hT hZ
  unfold T_E_keepUnsaid at hT
  split at hT
  rotate_left
  · exact hT.elim
  rename_i i
  refine ⟨Nat.le_of_ble_eq_true rfl, ?_⟩
  show Z 0 [.ref 4, .int i, .null, .null] [] w 0
  obtain ⟨hg, i, hH, rfl, hi, hG, hK⟩ := hT
  have loop : ∀ (j : Nat) (w1 : rg_W) (a3 : Value), (j ≤ 9 ∧ rg_fr [4, 6, 7, 8, 10, 11] w w1 ∧ (∀ q, q ≠ 10 → w1.1 4 q = w.1 4 q) ∧ GE hg (9 * i + j) w1) → Z 2 [.ref 4, .int (nI i), .int (nI j), a3] [] w1 0 := by
    refine rg_lp3 _ _ (fun j _ _ => 9 - j) ?_
    intro j w1 a3 ⟨hj, hf, h4, hG1⟩ ih
    rcases Nat.lt_or_ge j 9 with hj9 | hj9
    · have x1 : nI i * nI 9 + nI j = nI (9 * i + j) := by rw [pk_mul, nI_add, Nat.mul_comm]
      have v1 : vp_in (nI (9 * i + j)) 81 := vp_in_nI (by omega) (by omega)
      have c1 : (nI (9 * i + j)).toNatClampNeg = 9 * i + j := nI_clamp (by omega)
      have hH1 : Hg hg w1 := ⟨fun t ht => by rw [hf.1 5 (by decide)]; exact hH.1 t ht, hH.2⟩
      have e1 := hH1.at hi hj9
      have b1 := hH.2.1 i j
      have hd : (9 * i + j) / 9 = i ∧ (9 * i + j) % 9 = j := by omega
      have hkp : kp hg (9 * i + j) = (!decide (hg i j = 0) && !sdE hg i j (hg i j)) := by unfold kp; rw [hd.1, hd.2]
      have skip : kp hg (9 * i + j) = false → ∀ a3 : Value, Z 2 [.ref 4, .int (nI i), .int (nI (j + 1)), a3] [] w1 0 :=
        fun h a3 => ih (j + 1) w1 a3 ⟨by omega, hf, h4, hG1.skip h⟩ (by omega)
      have hlen := esT_len hH.2.2 (9 * i + j) (by omega)
      have hlen1 := esT_len hH.2.2 (9 * i + j + 1) (by omega)
      obtain ⟨g1, g2, g3, g4⟩ := id hG1
      have vi : vp_in (nI i) 9 := vp_in_nI hi (by omega)
      have vj : vp_in (nI j) 9 := vp_in_nI hj9 (by omega)
      have ci : (nI i).toNatClampNeg = i := nI_clamp (by omega)
      have cj : (nI j).toNatClampNeg = j := nI_clamp (by omega)
      have cl : (nI (esT hg (9 * i + j)).length).toNatClampNeg = (esT hg (9 * i + j)).length := nI_clamp (by omega)
      have e4 : ∀ (k q : Nat) (x : Int32), k ≠ 4 → (rg_up w1 k q x).1 4 10 = w1.1 4 10 := fun k q x h => by rw [rg_up_n (fun z => h z.symm)]
      refine hZ (rg_cut [2]) 400 2 _ _ _ ?_; simp only [rg_e_iload_2 (cut := rg_cut [2]) (f := true) d_E_keepUnsaid_2 rfl 3 rfl, rg_e_bipush (cut := rg_cut [2]) (f := false) d_E_keepUnsaid_3 rfl 5 rfl (nI 9) rg_kb_9, rg_e_icmp_ge (cut := rg_cut [2]) (f := false) d_E_keepUnsaid_5 rfl 8 rfl 113 rfl, rg_e_aload_0 (cut := rg_cut [2]) (f := false) d_E_keepUnsaid_8 rfl 9 rfl, rg_e_getr (P := P_E_keepUnsaid) (cut := rg_cut [2]) (f := false) d_E_keepUnsaid_9 rfl 12 rfl 4 2 0 5 rfl (fun _ => rfl), rg_e_iload_1 (cut := rg_cut [2]) (f := false) d_E_keepUnsaid_12 rfl 13 rfl, rg_e_bipush (cut := rg_cut [2]) (f := false) d_E_keepUnsaid_13 rfl 15 rfl (nI 9) rg_kb_9, rg_e_imul (cut := rg_cut [2]) (f := false) d_E_keepUnsaid_15 rfl 16 rfl, rg_e_iload_2 (cut := rg_cut [2]) (f := false) d_E_keepUnsaid_16 rfl 17 rfl, rg_e_iadd (cut := rg_cut [2]) (f := false) d_E_keepUnsaid_17 rfl 18 rfl, rg_e_iald (cut := rg_cut [2]) (f := false) d_E_keepUnsaid_18 rfl 19 rfl 5 81 rfl, rg_e_istore_3 (cut := rg_cut [2]) (f := false) d_E_keepUnsaid_19 rfl 20 rfl, rg_e_iload_3 (cut := rg_cut [2]) (f := false) d_E_keepUnsaid_20 rfl 21 rfl, rg_e_if_eq (cut := rg_cut [2]) (f := false) d_E_keepUnsaid_21 rfl 24 rfl 107 rfl, rg_e_aload_0 (cut := rg_cut [2]) (f := false) d_E_keepUnsaid_24 rfl 25 rfl, rg_e_iload_1 (cut := rg_cut [2]) (f := false) d_E_keepUnsaid_25 rfl 26 rfl, rg_e_iload_2 (cut := rg_cut [2]) (f := false) d_E_keepUnsaid_26 rfl 27 rfl, rg_e_iload_3 (cut := rg_cut [2]) (f := false) d_E_keepUnsaid_27 rfl 28 rfl, rg_e_cv4 (P := P_E_keepUnsaid) (cut := rg_cut [2]) (f := false) d_E_keepUnsaid_28 rfl T_E_isSaid rfl, rg_e_if_ne (cut := rg_cut [2]) (f := false) d_E_keepUnsaid_31 rfl 34 rfl 107 rfl, rg_e_aload_0 (cut := rg_cut [2]) (f := false) d_E_keepUnsaid_34 rfl 35 rfl, rg_e_geti (P := P_E_keepUnsaid) (cut := rg_cut [2]) (f := false) d_E_keepUnsaid_35 rfl 38 rfl 4 2 10 rfl (fun _ => rfl), rg_e_bipush (cut := rg_cut [2]) (f := false) d_E_keepUnsaid_38 rfl 40 rfl (nI 72) rg_kb_72, rg_e_icmp_ge (cut := rg_cut [2]) (f := false) d_E_keepUnsaid_40 rfl 43 rfl 107 rfl, rg_e_aload_0 (cut := rg_cut [2]) (f := false) d_E_keepUnsaid_43 rfl 44 rfl, rg_e_getr (P := P_E_keepUnsaid) (cut := rg_cut [2]) (f := false) d_E_keepUnsaid_44 rfl 47 rfl 4 2 1 6 rfl (fun _ => rfl), rg_e_aload_0 (cut := rg_cut [2]) (f := false) d_E_keepUnsaid_47 rfl 48 rfl, rg_e_geti (P := P_E_keepUnsaid) (cut := rg_cut [2]) (f := false) d_E_keepUnsaid_48 rfl 51 rfl 4 2 10 rfl (fun _ => rfl), rg_e_iload_1 (cut := rg_cut [2]) (f := false) d_E_keepUnsaid_51 rfl 52 rfl, rg_e_iast (cut := rg_cut [2]) (f := false) d_E_keepUnsaid_52 rfl 53 rfl 6 72 rfl, rg_e_aload_0 (cut := rg_cut [2]) (f := false) d_E_keepUnsaid_53 rfl 54 rfl, rg_e_getr (P := P_E_keepUnsaid) (cut := rg_cut [2]) (f := false) d_E_keepUnsaid_54 rfl 57 rfl 4 2 2 7 rfl (fun _ => rfl), rg_e_aload_0 (cut := rg_cut [2]) (f := false) d_E_keepUnsaid_57 rfl 58 rfl, rg_e_geti (P := P_E_keepUnsaid) (cut := rg_cut [2]) (f := false) d_E_keepUnsaid_58 rfl 61 rfl 4 2 10 rfl (fun _ => rfl), rg_e_iload_2 (cut := rg_cut [2]) (f := false) d_E_keepUnsaid_61 rfl 62 rfl, rg_e_iast (cut := rg_cut [2]) (f := false) d_E_keepUnsaid_62 rfl 63 rfl 7 72 rfl, rg_e_aload_0 (cut := rg_cut [2]) (f := false) d_E_keepUnsaid_63 rfl 64 rfl, rg_e_getr (P := P_E_keepUnsaid) (cut := rg_cut [2]) (f := false) d_E_keepUnsaid_64 rfl 67 rfl 4 2 3 8 rfl (fun _ => rfl), rg_e_aload_0 (cut := rg_cut [2]) (f := false) d_E_keepUnsaid_67 rfl 68 rfl, rg_e_geti (P := P_E_keepUnsaid) (cut := rg_cut [2]) (f := false) d_E_keepUnsaid_68 rfl 71 rfl 4 2 10 rfl (fun _ => rfl), rg_e_iload_3 (cut := rg_cut [2]) (f := false) d_E_keepUnsaid_71 rfl 72 rfl, rg_e_iast (cut := rg_cut [2]) (f := false) d_E_keepUnsaid_72 rfl 73 rfl 8 72 rfl, rg_e_aload_0 (cut := rg_cut [2]) (f := false) d_E_keepUnsaid_73 rfl 74 rfl, rg_e_getr (P := P_E_keepUnsaid) (cut := rg_cut [2]) (f := false) d_E_keepUnsaid_74 rfl 77 rfl 4 2 5 10 rfl (fun _ => rfl), rg_e_iload_1 (cut := rg_cut [2]) (f := false) d_E_keepUnsaid_77 rfl 78 rfl, rg_e_dup2ri (cut := rg_cut [2]) (f := false) d_E_keepUnsaid_78 rfl 79 rfl, rg_e_iald (cut := rg_cut [2]) (f := false) d_E_keepUnsaid_79 rfl 80 rfl 10 9 rfl, rg_e_iconst (cut := rg_cut [2]) (f := false) d_E_keepUnsaid_80 rfl 81 rfl (nI 1) rg_ki_1, rg_e_iload_2 (cut := rg_cut [2]) (f := false) d_E_keepUnsaid_81 rfl 82 rfl, rg_e_ishl (cut := rg_cut [2]) (f := false) d_E_keepUnsaid_82 rfl 83 rfl, rg_e_ior (cut := rg_cut [2]) (f := false) d_E_keepUnsaid_83 rfl 84 rfl, rg_e_iast (cut := rg_cut [2]) (f := false) d_E_keepUnsaid_84 rfl 85 rfl 10 9 rfl, rg_e_aload_0 (cut := rg_cut [2]) (f := false) d_E_keepUnsaid_85 rfl 86 rfl, rg_e_getr (P := P_E_keepUnsaid) (cut := rg_cut [2]) (f := false) d_E_keepUnsaid_86 rfl 89 rfl 4 2 6 11 rfl (fun _ => rfl), rg_e_iload_2 (cut := rg_cut [2]) (f := false) d_E_keepUnsaid_89 rfl 90 rfl, rg_e_dup2ri (cut := rg_cut [2]) (f := false) d_E_keepUnsaid_90 rfl 91 rfl, rg_e_iald (cut := rg_cut [2]) (f := false) d_E_keepUnsaid_91 rfl 92 rfl 11 9 rfl, rg_e_iconst (cut := rg_cut [2]) (f := false) d_E_keepUnsaid_92 rfl 93 rfl (nI 1) rg_ki_1, rg_e_iload_1 (cut := rg_cut [2]) (f := false) d_E_keepUnsaid_93 rfl 94 rfl, rg_e_ishl (cut := rg_cut [2]) (f := false) d_E_keepUnsaid_94 rfl 95 rfl, rg_e_ior (cut := rg_cut [2]) (f := false) d_E_keepUnsaid_95 rfl 96 rfl, rg_e_iast (cut := rg_cut [2]) (f := false) d_E_keepUnsaid_96 rfl 97 rfl 11 9 rfl, rg_e_aload_0 (cut := rg_cut [2]) (f := false) d_E_keepUnsaid_97 rfl 98 rfl, rg_e_dupr (cut := rg_cut [2]) (f := false) d_E_keepUnsaid_98 rfl 99 rfl, rg_e_geti (P := P_E_keepUnsaid) (cut := rg_cut [2]) (f := false) d_E_keepUnsaid_99 rfl 102 rfl 4 2 10 rfl (fun _ => rfl), rg_e_iconst (cut := rg_cut [2]) (f := false) d_E_keepUnsaid_102 rfl 103 rfl (nI 1) rg_ki_1, rg_e_iadd (cut := rg_cut [2]) (f := false) d_E_keepUnsaid_103 rfl 104 rfl, rg_e_put (P := P_E_keepUnsaid) (cut := rg_cut [2]) (f := false) d_E_keepUnsaid_104 rfl 107 rfl 4 2 10 rfl rfl, rg_e_iinc_2 (cut := rg_cut [2]) (f := false) d_E_keepUnsaid_107 rfl 110 rfl (nI 1) rg_ki_1, rg_e_goto (cut := rg_cut [2]) (f := false) d_E_keepUnsaid_110 rfl 2 rfl, rg_e_vret (cut := rg_cut [2]) (f := false) d_E_keepUnsaid_113 rfl, rg_e_cut (cut := rg_cut [2]) 2 rfl, rg_nx_i, rg_nx_v, rg_wd_n, rg_wd_i, rg_wd_l, rg_wd_r, rg_clr_i, rg_clr_l, rg_clr_r, rg_clr_a, rg_clr_n, true_and, and_true, Nat.reduceAdd, Nat.reduceLeDiff, ↓Te_E_isSaid, rg_rt_e, rg_fit_ie, rg_fit_ve, rg_fit_1e, rg_fit_0e, rg_fit_be, x1, v1, c1, e1, vi, vj, ci, cj, nI_add, zI_eq, rg_up_n, ne_eq, not_false_eq_true, Nat.reduceEqDiff, g1, cl]
      rw [nI_lep (by omega) (by omega), nI_eq0 (by omega)]
      refine ⟨fun h => by omega, fun _ => ⟨fun h => skip (by rw [hkp]; simp [h]) _, fun h => ⟨hg, i, j, hg i j, hH1, rfl, rfl, rfl, hi, hj9, b1, fun h1 => skip (by rw [hkp]; simp at h1; simp [h1]) _, fun h1 => ?_⟩⟩⟩
      have h1 : sdE hg i j (hg i j) = false := Classical.not_not.mp h1
      have hk : kp hg (9 * i + j) = true := by rw [hkp, h1]; simp [h]
      have hl : (esT hg (9 * i + j)).length < 72 := by
        rw [esT_t hk, List.length_append, List.length_singleton] at hlen1
        omega
      have vl : vp_in (nI (esT hg (9 * i + j)).length) 72 := vp_in_nI hl (by omega)
      refine ⟨fun h2 => absurd h2 (nI_ge hl (by omega)), fun _ => ⟨vl, vl, vl, ?_⟩⟩
      have nx : GE hg (9 * i + (j + 1)) (rg_up (rg_up (rg_up (rg_up (rg_up (rg_up w1 6 (esT hg (9 * i + j)).length (nI i)) 7 (esT hg (9 * i + j)).length (nI j)) 8 (esT hg (9 * i + j)).length (nI (hg i j))) 10 i (w1.1 10 i ||| nI 1 <<< (nI j &&& 31))) 11 j (w1.1 11 j ||| nI 1 <<< (nI i &&& 31))) 4 10 (nI ((esT hg (9 * i + j)).length + 1))) := by
        unfold GE
        rw [show 9 * i + (j + 1) = 9 * i + j + 1 by omega, esT_t hk]
        refine ⟨by rw [rg_up_ss, List.length_append, List.length_singleton], fun k hkl => ?_, fun a ha => ?_, fun b hb => ?_⟩
        · rw [List.length_append, List.length_singleton] at hkl
          simp only [rg_up_s, rg_up_n, ne_eq, not_false_eq_true, Nat.reduceEqDiff]
          by_cases hke : k = (esT hg (9 * i + j)).length
          · subst hke
            rw [getD_e, upd_s, upd_s, upd_s, hd.1, hd.2]
            exact ⟨rfl, rfl, rfl⟩
          · rw [getD_l (by omega), upd_n hke, upd_n hke, upd_n hke]
            exact g2 k (by omega)
        · simp only [rg_up_s, rg_up_n, ne_eq, not_false_eq_true, Nat.reduceEqDiff]
          by_cases hai : a = i
          · subst hai
            rw [upd_s]
            refine ((g3 a ha).put hj9).cg fun b hb => ?_
            by_cases hbj : b = j
            · subst hbj
              rw [hk]
              simp
            · simp only [hbj, decide_false, Bool.or_false]
              congr 1
              simp only [decide_eq_decide]
              omega
          · rw [upd_n hai]
            refine (g3 a ha).cg fun b hb => ?_
            congr 1
            simp only [decide_eq_decide]
            omega
        · simp only [rg_up_s, rg_up_n, ne_eq, not_false_eq_true, Nat.reduceEqDiff]
          by_cases hbj : b = j
          · subst hbj
            rw [upd_s]
            refine ((g4 b hb).put hi).cg fun a ha => ?_
            by_cases hai : a = i
            · subst hai
              rw [hk]
              simp
            · simp only [hai, decide_false, Bool.or_false]
              congr 1
              simp only [decide_eq_decide]
              omega
          · rw [upd_n hbj]
            refine (g4 b hb).cg fun a ha => ?_
            congr 1
            simp only [decide_eq_decide]
            omega
      refine ih (j + 1) _ _ ⟨by omega, ?_, fun q hq => ?_, nx⟩ (by omega)
      · exact rg_fr_up (rg_fr_up (rg_fr_up (rg_fr_up (rg_fr_up (rg_fr_up hf (by decide) _ _) (by decide) _ _) (by decide) _ _) (by decide) _ _) (by decide) _ _) (by decide) _ _
      · simp only [rg_up_s, rg_up_n, ne_eq, not_false_eq_true, Nat.reduceEqDiff]
        rw [upd_n hq]
        exact h4 q hq
    · obtain rfl : j = 9 := by omega
      refine hZ (rg_cut [2]) 400 2 _ _ _ ?_; simp only [rg_e_iload_2 (cut := rg_cut [2]) (f := true) d_E_keepUnsaid_2 rfl 3 rfl, rg_e_bipush (cut := rg_cut [2]) (f := false) d_E_keepUnsaid_3 rfl 5 rfl (nI 9) rg_kb_9, rg_e_icmp_ge (cut := rg_cut [2]) (f := false) d_E_keepUnsaid_5 rfl 8 rfl 113 rfl, rg_e_aload_0 (cut := rg_cut [2]) (f := false) d_E_keepUnsaid_8 rfl 9 rfl, rg_e_getr (P := P_E_keepUnsaid) (cut := rg_cut [2]) (f := false) d_E_keepUnsaid_9 rfl 12 rfl 4 2 0 5 rfl (fun _ => rfl), rg_e_iload_1 (cut := rg_cut [2]) (f := false) d_E_keepUnsaid_12 rfl 13 rfl, rg_e_bipush (cut := rg_cut [2]) (f := false) d_E_keepUnsaid_13 rfl 15 rfl (nI 9) rg_kb_9, rg_e_imul (cut := rg_cut [2]) (f := false) d_E_keepUnsaid_15 rfl 16 rfl, rg_e_iload_2 (cut := rg_cut [2]) (f := false) d_E_keepUnsaid_16 rfl 17 rfl, rg_e_iadd (cut := rg_cut [2]) (f := false) d_E_keepUnsaid_17 rfl 18 rfl, rg_e_iald (cut := rg_cut [2]) (f := false) d_E_keepUnsaid_18 rfl 19 rfl 5 81 rfl, rg_e_istore_3 (cut := rg_cut [2]) (f := false) d_E_keepUnsaid_19 rfl 20 rfl, rg_e_iload_3 (cut := rg_cut [2]) (f := false) d_E_keepUnsaid_20 rfl 21 rfl, rg_e_if_eq (cut := rg_cut [2]) (f := false) d_E_keepUnsaid_21 rfl 24 rfl 107 rfl, rg_e_aload_0 (cut := rg_cut [2]) (f := false) d_E_keepUnsaid_24 rfl 25 rfl, rg_e_iload_1 (cut := rg_cut [2]) (f := false) d_E_keepUnsaid_25 rfl 26 rfl, rg_e_iload_2 (cut := rg_cut [2]) (f := false) d_E_keepUnsaid_26 rfl 27 rfl, rg_e_iload_3 (cut := rg_cut [2]) (f := false) d_E_keepUnsaid_27 rfl 28 rfl, rg_e_cv4 (P := P_E_keepUnsaid) (cut := rg_cut [2]) (f := false) d_E_keepUnsaid_28 rfl T_E_isSaid rfl, rg_e_if_ne (cut := rg_cut [2]) (f := false) d_E_keepUnsaid_31 rfl 34 rfl 107 rfl, rg_e_aload_0 (cut := rg_cut [2]) (f := false) d_E_keepUnsaid_34 rfl 35 rfl, rg_e_geti (P := P_E_keepUnsaid) (cut := rg_cut [2]) (f := false) d_E_keepUnsaid_35 rfl 38 rfl 4 2 10 rfl (fun _ => rfl), rg_e_bipush (cut := rg_cut [2]) (f := false) d_E_keepUnsaid_38 rfl 40 rfl (nI 72) rg_kb_72, rg_e_icmp_ge (cut := rg_cut [2]) (f := false) d_E_keepUnsaid_40 rfl 43 rfl 107 rfl, rg_e_aload_0 (cut := rg_cut [2]) (f := false) d_E_keepUnsaid_43 rfl 44 rfl, rg_e_getr (P := P_E_keepUnsaid) (cut := rg_cut [2]) (f := false) d_E_keepUnsaid_44 rfl 47 rfl 4 2 1 6 rfl (fun _ => rfl), rg_e_aload_0 (cut := rg_cut [2]) (f := false) d_E_keepUnsaid_47 rfl 48 rfl, rg_e_geti (P := P_E_keepUnsaid) (cut := rg_cut [2]) (f := false) d_E_keepUnsaid_48 rfl 51 rfl 4 2 10 rfl (fun _ => rfl), rg_e_iload_1 (cut := rg_cut [2]) (f := false) d_E_keepUnsaid_51 rfl 52 rfl, rg_e_iast (cut := rg_cut [2]) (f := false) d_E_keepUnsaid_52 rfl 53 rfl 6 72 rfl, rg_e_aload_0 (cut := rg_cut [2]) (f := false) d_E_keepUnsaid_53 rfl 54 rfl, rg_e_getr (P := P_E_keepUnsaid) (cut := rg_cut [2]) (f := false) d_E_keepUnsaid_54 rfl 57 rfl 4 2 2 7 rfl (fun _ => rfl), rg_e_aload_0 (cut := rg_cut [2]) (f := false) d_E_keepUnsaid_57 rfl 58 rfl, rg_e_geti (P := P_E_keepUnsaid) (cut := rg_cut [2]) (f := false) d_E_keepUnsaid_58 rfl 61 rfl 4 2 10 rfl (fun _ => rfl), rg_e_iload_2 (cut := rg_cut [2]) (f := false) d_E_keepUnsaid_61 rfl 62 rfl, rg_e_iast (cut := rg_cut [2]) (f := false) d_E_keepUnsaid_62 rfl 63 rfl 7 72 rfl, rg_e_aload_0 (cut := rg_cut [2]) (f := false) d_E_keepUnsaid_63 rfl 64 rfl, rg_e_getr (P := P_E_keepUnsaid) (cut := rg_cut [2]) (f := false) d_E_keepUnsaid_64 rfl 67 rfl 4 2 3 8 rfl (fun _ => rfl), rg_e_aload_0 (cut := rg_cut [2]) (f := false) d_E_keepUnsaid_67 rfl 68 rfl, rg_e_geti (P := P_E_keepUnsaid) (cut := rg_cut [2]) (f := false) d_E_keepUnsaid_68 rfl 71 rfl 4 2 10 rfl (fun _ => rfl), rg_e_iload_3 (cut := rg_cut [2]) (f := false) d_E_keepUnsaid_71 rfl 72 rfl, rg_e_iast (cut := rg_cut [2]) (f := false) d_E_keepUnsaid_72 rfl 73 rfl 8 72 rfl, rg_e_aload_0 (cut := rg_cut [2]) (f := false) d_E_keepUnsaid_73 rfl 74 rfl, rg_e_getr (P := P_E_keepUnsaid) (cut := rg_cut [2]) (f := false) d_E_keepUnsaid_74 rfl 77 rfl 4 2 5 10 rfl (fun _ => rfl), rg_e_iload_1 (cut := rg_cut [2]) (f := false) d_E_keepUnsaid_77 rfl 78 rfl, rg_e_dup2ri (cut := rg_cut [2]) (f := false) d_E_keepUnsaid_78 rfl 79 rfl, rg_e_iald (cut := rg_cut [2]) (f := false) d_E_keepUnsaid_79 rfl 80 rfl 10 9 rfl, rg_e_iconst (cut := rg_cut [2]) (f := false) d_E_keepUnsaid_80 rfl 81 rfl (nI 1) rg_ki_1, rg_e_iload_2 (cut := rg_cut [2]) (f := false) d_E_keepUnsaid_81 rfl 82 rfl, rg_e_ishl (cut := rg_cut [2]) (f := false) d_E_keepUnsaid_82 rfl 83 rfl, rg_e_ior (cut := rg_cut [2]) (f := false) d_E_keepUnsaid_83 rfl 84 rfl, rg_e_iast (cut := rg_cut [2]) (f := false) d_E_keepUnsaid_84 rfl 85 rfl 10 9 rfl, rg_e_aload_0 (cut := rg_cut [2]) (f := false) d_E_keepUnsaid_85 rfl 86 rfl, rg_e_getr (P := P_E_keepUnsaid) (cut := rg_cut [2]) (f := false) d_E_keepUnsaid_86 rfl 89 rfl 4 2 6 11 rfl (fun _ => rfl), rg_e_iload_2 (cut := rg_cut [2]) (f := false) d_E_keepUnsaid_89 rfl 90 rfl, rg_e_dup2ri (cut := rg_cut [2]) (f := false) d_E_keepUnsaid_90 rfl 91 rfl, rg_e_iald (cut := rg_cut [2]) (f := false) d_E_keepUnsaid_91 rfl 92 rfl 11 9 rfl, rg_e_iconst (cut := rg_cut [2]) (f := false) d_E_keepUnsaid_92 rfl 93 rfl (nI 1) rg_ki_1, rg_e_iload_1 (cut := rg_cut [2]) (f := false) d_E_keepUnsaid_93 rfl 94 rfl, rg_e_ishl (cut := rg_cut [2]) (f := false) d_E_keepUnsaid_94 rfl 95 rfl, rg_e_ior (cut := rg_cut [2]) (f := false) d_E_keepUnsaid_95 rfl 96 rfl, rg_e_iast (cut := rg_cut [2]) (f := false) d_E_keepUnsaid_96 rfl 97 rfl 11 9 rfl, rg_e_aload_0 (cut := rg_cut [2]) (f := false) d_E_keepUnsaid_97 rfl 98 rfl, rg_e_dupr (cut := rg_cut [2]) (f := false) d_E_keepUnsaid_98 rfl 99 rfl, rg_e_geti (P := P_E_keepUnsaid) (cut := rg_cut [2]) (f := false) d_E_keepUnsaid_99 rfl 102 rfl 4 2 10 rfl (fun _ => rfl), rg_e_iconst (cut := rg_cut [2]) (f := false) d_E_keepUnsaid_102 rfl 103 rfl (nI 1) rg_ki_1, rg_e_iadd (cut := rg_cut [2]) (f := false) d_E_keepUnsaid_103 rfl 104 rfl, rg_e_put (P := P_E_keepUnsaid) (cut := rg_cut [2]) (f := false) d_E_keepUnsaid_104 rfl 107 rfl 4 2 10 rfl rfl, rg_e_iinc_2 (cut := rg_cut [2]) (f := false) d_E_keepUnsaid_107 rfl 110 rfl (nI 1) rg_ki_1, rg_e_goto (cut := rg_cut [2]) (f := false) d_E_keepUnsaid_110 rfl 2 rfl, rg_e_vret (cut := rg_cut [2]) (f := false) d_E_keepUnsaid_113 rfl, rg_e_cut (cut := rg_cut [2]) 2 rfl, rg_nx_i, rg_nx_v, rg_wd_n, rg_wd_i, rg_wd_l, rg_wd_r, rg_clr_i, rg_clr_l, rg_clr_r, rg_clr_a, rg_clr_n, true_and, and_true, Nat.reduceAdd, Nat.reduceLeDiff, ↓Te_E_isSaid, rg_rt_e, rg_fit_ie, rg_fit_ve, rg_fit_1e, rg_fit_0e, rg_fit_be]
      exact ⟨fun _ => hK w1 hf h4 hG1, fun h => absurd (nI_le hj9 (by omega)) h⟩
  refine hZ (rg_cut [2]) 400 0 _ _ _ ?_; simp only [rg_e_iconst (cut := rg_cut [2]) (f := true) d_E_keepUnsaid_0 rfl 1 rfl (nI 0) rg_ki_0, rg_e_istore_2 (cut := rg_cut [2]) (f := false) d_E_keepUnsaid_1 rfl 2 rfl, rg_e_cut (cut := rg_cut [2]) 2 rfl, rg_nx_i, rg_nx_v, rg_wd_n, rg_wd_i, rg_wd_l, rg_wd_r, rg_clr_i, rg_clr_l, rg_clr_r, rg_clr_a, rg_clr_n, true_and, and_true, Nat.reduceAdd, Nat.reduceLeDiff, ↓Te_E_isSaid, rg_rt_e, rg_fit_ie, rg_fit_ve, rg_fit_1e, rg_fit_0e, rg_fit_be]
  exact loop 0 w _ ⟨by omega, rg_fr_rf _ _, fun _ _ => rfl, hG⟩
end
section
/-! Edges: ways, the graph's making, its kind, what passes a walk -/
theorem BS.rem {x : Int32} {p : Nat → Bool} (h : BS x p) {i : Nat} (hi : i < 9) : BS (x &&& ((nI 1 <<< (nI i &&& 31)) ^^^ (-1))) (fun k => p k && !decide (k = i)) := by
  refine ⟨fun k hk => ?_, fun k hk => ?_⟩
  · rw [b_and, b_xor, bt_sh hi (by omega), b_m1 k (by omega), h.1 k hk, Bool.xor_true]
  · rw [b_and, h.2 k hk, Bool.false_and]
theorem BS.or {x y : Int32} {p q : Nat → Bool} (h : BS x p) (g : BS y q) : BS (x ||| y) (fun k => p k || q k) :=
  ⟨fun k hk => by rw [b_or, h.1 k hk, g.1 k hk], fun k hk => by rw [b_or, h.2 k hk, g.2 k hk]; rfl⟩
theorem BS.and {x y : Int32} {p q : Nat → Bool} (h : BS x p) (g : BS y q) : BS (x &&& y) (fun k => p k && q k) :=
  ⟨fun k hk => by rw [b_and, h.1 k hk, g.1 k hk], fun k hk => by rw [b_and, h.2 k hk, g.2 k hk]; rfl⟩
theorem BS.one {i : Nat} (hi : i < 9) : BS (nI 1 <<< (nI i &&& 31)) (fun k => decide (k = i)) :=
  ⟨fun k hk => bt_sh hi (by omega), fun k hk => by
    rcases Nat.lt_or_ge k 32 with q | q
    · rw [bt_sh hi q, decide_eq_false (by omega)]
    · exact bt_hi q⟩
theorem BS.eq {x y : Int32} {p q : Nat → Bool} (h : BS x p) (g : BS y q) : (x = y) = ∀ j, j < 9 → p j = q j := by
  apply propext
  constructor
  · rintro rfl j hj
    rw [← h.1 j hj, ← g.1 j hj]
  · intro e
    apply b_ext
    intro i _
    rcases Nat.lt_or_ge i 9 with hi | hi
    · rw [h.1 i hi, g.1 i hi, e i hi]
    · rw [h.2 i hi, g.2 i hi]
theorem BS.eq0 {x : Int32} {p : Nat → Bool} (h : BS x p) : (x = 0) = ∀ j, j < 9 → p j = false := by
  rw [← nI_0]
  exact h.eq BS.zero
/-- ways: n + 1 edges -/
def pth (E : Nat → Nat → Bool) : Nat → Nat → Nat → Prop
  | 0, i, j => E i j = true
  | n + 1, i, j => ∃ k, k < 9 ∧ E i k = true ∧ pth E n k j
def TC (E : Nat → Nat → Bool) (i j : Nat) : Prop := ∃ n, pth E n i j
noncomputable def rcB (E : Nat → Nat → Bool) (i j : Nat) : Bool := @decide (TC E i j) (Classical.propDecidable _)
theorem rcB_iff {E : Nat → Nat → Bool} {i j : Nat} : rcB E i j = true ↔ TC E i j := @decide_eq_true_iff _ (Classical.propDecidable _)
theorem TC.tr {E : Nat → Nat → Bool} {i k j : Nat} (hk : k < 9) : TC E i k → TC E k j → TC E i j := by
  rintro ⟨n, h⟩ ⟨m, g⟩
  refine ⟨n + m + 1, ?_⟩
  induction n generalizing i with
  | zero =>
    rw [Nat.zero_add]
    exact ⟨k, hk, h, g⟩
  | succ n ih =>
    obtain ⟨a, ha, h1, h2⟩ := h
    rw [show n + 1 + m + 1 = (n + m + 1) + 1 by omega]
    exact ⟨a, ha, h1, ih h2⟩
def stW (R : Nat → Nat → Bool) (t : Nat) : Nat → Nat → Bool := fun a j => R a j || (R a t && R t j)
def Rw (E : Nat → Nat → Bool) : Nat → Nat → Nat → Bool
  | 0 => E
  | t + 1 => stW (Rw E t) t
theorem Rw_closed (E : Nat → Nat → Bool) : ∀ t k i j, k < t → Rw E t i k = true → Rw E t k j = true → Rw E t i j = true := by
  intro t
  induction t with
  | zero => intro k i j h; omega
  | succ t ih =>
    intro k i j hk h1 h2
    simp only [Rw, stW, Bool.or_eq_true, Bool.and_eq_true] at h1 h2 ⊢
    by_cases hkt : k = t
    · subst hkt
      right
      exact ⟨by rcases h1 with h | h; exact h; exact h.1, by rcases h2 with h | h; exact h; exact h.2⟩
    · have hk : k < t := by omega
      rcases h1 with h1 | ⟨h1, h3⟩ <;> rcases h2 with h2 | ⟨h2, h4⟩
      · exact Or.inl (ih k i j hk h1 h2)
      · exact Or.inr ⟨ih k i t hk h1 h2, h4⟩
      · exact Or.inr ⟨h1, ih k t j hk h3 h2⟩
      · exact Or.inr ⟨h1, h4⟩
theorem Rw_has (E : Nat → Nat → Bool) : ∀ t i j, E i j = true → Rw E t i j = true := by
  intro t
  induction t with
  | zero => exact fun i j h => h
  | succ t ih =>
    intro i j h
    simp only [Rw, stW, Bool.or_eq_true]
    exact Or.inl (ih i j h)
theorem Rw_sound (E : Nat → Nat → Bool) : ∀ t, t ≤ 9 → ∀ i j, Rw E t i j = true → TC E i j := by
  intro t
  induction t with
  | zero => exact fun _ i j h => ⟨0, h⟩
  | succ t ih =>
    intro ht i j h
    simp only [Rw, stW, Bool.or_eq_true, Bool.and_eq_true] at h
    rcases h with h | ⟨h, g⟩
    · exact ih (by omega) i j h
    · exact TC.tr (by omega) (ih (by omega) _ _ h) (ih (by omega) _ _ g)
theorem Rw_rc (E : Nat → Nat → Bool) (i j : Nat) : Rw E 9 i j = rcB E i j := by
  rw [Bool.eq_iff_iff, rcB_iff]
  refine ⟨Rw_sound E 9 (by omega) i j, ?_⟩
  rintro ⟨n, h⟩
  induction n generalizing i with
  | zero => exact Rw_has E 9 i j h
  | succ n ih =>
    obtain ⟨k, hk, h1, h2⟩ := h
    exact Rw_closed E 9 k i j hk (Rw_has E 9 i k h1) (ih k h2)
/-- an edge that is left -/
def kE (hg : Nat → Nat → Nat) (a b : Nat) : Bool := kp hg (9 * a + b)
-- E.findReached
def P_E_findReached : rg_P := (rg_F_E, [(134, 2, 0, T_G_holds)], [], [], [], [], 0)
def T_E_findReached : rg_T := fun as w K => match as with
  | [.ref 4] => ∃ E, (∀ a, a < 9 → BS (w.1 10 a) (E a)) ∧ ∀ w', rg_fr [12] w w' → (∀ a, a < 9 → BS (w'.1 12 a) (rcB E a)) → K none w'
  | _ => False
theorem Te_E_findReached  (w : rg_W) (K : Option Value → rg_W → Prop) : T_E_findReached [.ref 4] w K = (∃ E, (∀ a, a < 9 → BS (w.1 10 a) (E a)) ∧ ∀ w', rg_fr [12] w w' → (∀ a, a < 9 → BS (w'.1 12 a) (rcB E a)) → K none w') := rfl
theorem r_E_findReached : ∀ as w K, T_E_findReached as w K → ∃ r, as = .ref 4 :: r := by
  intro as w K h
  unfold T_E_findReached at h
  split at h
  · exact ⟨_, rfl⟩
  · exact h.elim
theorem G_E_findReached (l : Launch) : rg_Good l y_E_findReached c_E_findReached 3 none 1 T_E_findReached := by
  refine rg_good_of (P := P_E_findReached) (by decide) (rg_pok rg_F_E_ok (rg_cons (cw_E_67 (G_G_holds l) (by decide)) rg_nil)) ?_
  intro as w K Z hT hZ
  unfold T_E_findReached at hT
  split at hT
  rotate_left
  · exact hT.elim
  refine ⟨Nat.le_of_ble_eq_true rfl, ?_⟩
  show Z 0 [.ref 4, .null, .null] [] w 0
  obtain ⟨E, hE, hK⟩ := hT
  have l3 : ∀ (t i : Nat) (w1 : rg_W), (t < 9 ∧ i ≤ 9 ∧ rg_fr [12] w w1 ∧ ∀ a, a < 9 → BS (w1.1 12 a) (if a < i then stW (Rw E t) t a else Rw E t a)) →
      (∀ w2 : rg_W, rg_fr [12] w w2 → (∀ a, a < 9 → BS (w2.1 12 a) (Rw E (t + 1) a)) → ∀ a2 : Value, Z 28 [.ref 4, .int (nI (t + 1)), a2] [] w2 0) → Z 36 [.ref 4, .int (nI t), .int (nI i)] [] w1 0 := by
    intro t i w1 hI hout
    revert i w1
    refine rg_lp2 _ _ (fun i _ => 9 - i) ?_
    intro i w1 ⟨ht, hi, hf, hB⟩ ih
    rcases Nat.lt_or_ge i 9 with hi9 | hi9
    · have vi : vp_in (nI i) 9 := vp_in_nI hi9 (by omega)
      have vt : vp_in (nI t) 9 := vp_in_nI ht (by omega)
      have ci : (nI i).toNatClampNeg = i := nI_clamp (by omega)
      have ct : (nI t).toNatClampNeg = t := nI_clamp (by omega)
      have Bi : BS (w1.1 12 i) (Rw E t i) := by have := hB i hi9; rwa [if_neg (by omega)] at this
      have Bt : BS (w1.1 12 t) (Rw E t t) := by
        have := hB t ht
        by_cases h : t < i
        · rw [if_pos h] at this
          refine this.cg fun j _ => ?_
          unfold stW
          cases Rw E t t j <;> cases Rw E t t t <;> rfl
        · rwa [if_neg h] at this
      refine hZ (rg_cut [2, 28, 36]) 400 36 _ _ _ ?_; simp only [rg_e_iload_2 (cut := rg_cut [2, 28, 36]) (f := true) d_E_findReached_36 rfl 37 rfl, rg_e_bipush (cut := rg_cut [2, 28, 36]) (f := false) d_E_findReached_37 rfl 39 rfl (nI 9) rg_kb_9, rg_e_icmp_ge (cut := rg_cut [2, 28, 36]) (f := false) d_E_findReached_39 rfl 42 rfl 76 rfl, rg_e_aload_0 (cut := rg_cut [2, 28, 36]) (f := false) d_E_findReached_42 rfl 43 rfl, rg_e_getr (P := P_E_findReached) (cut := rg_cut [2, 28, 36]) (f := false) d_E_findReached_43 rfl 46 rfl 4 2 7 12 rfl (fun _ => rfl), rg_e_iload_2 (cut := rg_cut [2, 28, 36]) (f := false) d_E_findReached_46 rfl 47 rfl, rg_e_iald (cut := rg_cut [2, 28, 36]) (f := false) d_E_findReached_47 rfl 48 rfl 12 9 rfl, rg_e_iload_1 (cut := rg_cut [2, 28, 36]) (f := false) d_E_findReached_48 rfl 49 rfl, rg_e_cs2 (P := P_E_findReached) (cut := rg_cut [2, 28, 36]) (f := false) d_E_findReached_49 rfl T_G_holds rfl, rg_e_if_eq (cut := rg_cut [2, 28, 36]) (f := false) d_E_findReached_52 rfl 55 rfl 70 rfl, rg_e_aload_0 (cut := rg_cut [2, 28, 36]) (f := false) d_E_findReached_55 rfl 56 rfl, rg_e_getr (P := P_E_findReached) (cut := rg_cut [2, 28, 36]) (f := false) d_E_findReached_56 rfl 59 rfl 4 2 7 12 rfl (fun _ => rfl), rg_e_iload_2 (cut := rg_cut [2, 28, 36]) (f := false) d_E_findReached_59 rfl 60 rfl, rg_e_dup2ri (cut := rg_cut [2, 28, 36]) (f := false) d_E_findReached_60 rfl 61 rfl, rg_e_iald (cut := rg_cut [2, 28, 36]) (f := false) d_E_findReached_61 rfl 62 rfl 12 9 rfl, rg_e_aload_0 (cut := rg_cut [2, 28, 36]) (f := false) d_E_findReached_62 rfl 63 rfl, rg_e_getr (P := P_E_findReached) (cut := rg_cut [2, 28, 36]) (f := false) d_E_findReached_63 rfl 66 rfl 4 2 7 12 rfl (fun _ => rfl), rg_e_iload_1 (cut := rg_cut [2, 28, 36]) (f := false) d_E_findReached_66 rfl 67 rfl, rg_e_iald (cut := rg_cut [2, 28, 36]) (f := false) d_E_findReached_67 rfl 68 rfl 12 9 rfl, rg_e_ior (cut := rg_cut [2, 28, 36]) (f := false) d_E_findReached_68 rfl 69 rfl, rg_e_iast (cut := rg_cut [2, 28, 36]) (f := false) d_E_findReached_69 rfl 70 rfl 12 9 rfl, rg_e_iinc_2 (cut := rg_cut [2, 28, 36]) (f := false) d_E_findReached_70 rfl 73 rfl (nI 1) rg_ki_1, rg_e_goto (cut := rg_cut [2, 28, 36]) (f := false) d_E_findReached_73 rfl 36 rfl, rg_e_iinc_1 (cut := rg_cut [2, 28, 36]) (f := false) d_E_findReached_76 rfl 79 rfl (nI 1) rg_ki_1, rg_e_goto (cut := rg_cut [2, 28, 36]) (f := false) d_E_findReached_79 rfl 28 rfl, rg_e_cut (cut := rg_cut [2, 28, 36]) 2 rfl, rg_e_cut (cut := rg_cut [2, 28, 36]) 28 rfl, rg_e_cut (cut := rg_cut [2, 28, 36]) 36 rfl, rg_nx_i, rg_nx_v, rg_wd_n, rg_wd_i, rg_wd_l, rg_wd_r, rg_clr_i, rg_clr_l, rg_clr_r, rg_clr_a, rg_clr_n, true_and, and_true, Nat.reduceAdd, Nat.reduceLeDiff, ↓Te_G_holds, rg_rt_e, rg_fit_ie, rg_fit_ve, rg_fit_1e, rg_fit_0e, rg_fit_be, vi, vt, ci, ct, zI_eq, nI_add]
      rw [nI_lep (by omega) (by omega), Bi.h ht]
      refine ⟨fun h => by omega, fun _ => ⟨fun h => ?_, fun h => ?_⟩⟩
      · refine ih (i + 1) w1 ⟨ht, by omega, hf, fun a ha => ?_⟩ (by omega)
        by_cases hai : a = i
        · subst hai
          rw [if_pos (by omega)]
          refine Bi.cg fun j _ => ?_
          unfold stW
          rw [h]
          simp
        · have := hB a ha
          by_cases h : a < i
          · rw [if_pos h] at this; rw [if_pos (by omega)]; exact this
          · rw [if_neg h] at this; rw [if_neg (by omega)]; exact this
      · have h : Rw E t i t = true := by simpa using h
        refine ih (i + 1) _ ⟨ht, by omega, rg_fr_up hf (by decide) _ _, fun a ha => ?_⟩ (by omega)
        rw [rg_up_s]
        by_cases hai : a = i
        · subst hai
          rw [if_pos (by omega), upd_s]
          refine (Bi.or Bt).cg fun j _ => ?_
          unfold stW
          rw [h]
          simp
        · rw [upd_n hai]
          have := hB a ha
          by_cases h : a < i
          · rw [if_pos h] at this; rw [if_pos (by omega)]; exact this
          · rw [if_neg h] at this; rw [if_neg (by omega)]; exact this
    · obtain rfl : i = 9 := by omega
      refine hZ (rg_cut [2, 28, 36]) 400 36 _ _ _ ?_; simp only [rg_e_iload_2 (cut := rg_cut [2, 28, 36]) (f := true) d_E_findReached_36 rfl 37 rfl, rg_e_bipush (cut := rg_cut [2, 28, 36]) (f := false) d_E_findReached_37 rfl 39 rfl (nI 9) rg_kb_9, rg_e_icmp_ge (cut := rg_cut [2, 28, 36]) (f := false) d_E_findReached_39 rfl 42 rfl 76 rfl, rg_e_aload_0 (cut := rg_cut [2, 28, 36]) (f := false) d_E_findReached_42 rfl 43 rfl, rg_e_getr (P := P_E_findReached) (cut := rg_cut [2, 28, 36]) (f := false) d_E_findReached_43 rfl 46 rfl 4 2 7 12 rfl (fun _ => rfl), rg_e_iload_2 (cut := rg_cut [2, 28, 36]) (f := false) d_E_findReached_46 rfl 47 rfl, rg_e_iald (cut := rg_cut [2, 28, 36]) (f := false) d_E_findReached_47 rfl 48 rfl 12 9 rfl, rg_e_iload_1 (cut := rg_cut [2, 28, 36]) (f := false) d_E_findReached_48 rfl 49 rfl, rg_e_cs2 (P := P_E_findReached) (cut := rg_cut [2, 28, 36]) (f := false) d_E_findReached_49 rfl T_G_holds rfl, rg_e_if_eq (cut := rg_cut [2, 28, 36]) (f := false) d_E_findReached_52 rfl 55 rfl 70 rfl, rg_e_aload_0 (cut := rg_cut [2, 28, 36]) (f := false) d_E_findReached_55 rfl 56 rfl, rg_e_getr (P := P_E_findReached) (cut := rg_cut [2, 28, 36]) (f := false) d_E_findReached_56 rfl 59 rfl 4 2 7 12 rfl (fun _ => rfl), rg_e_iload_2 (cut := rg_cut [2, 28, 36]) (f := false) d_E_findReached_59 rfl 60 rfl, rg_e_dup2ri (cut := rg_cut [2, 28, 36]) (f := false) d_E_findReached_60 rfl 61 rfl, rg_e_iald (cut := rg_cut [2, 28, 36]) (f := false) d_E_findReached_61 rfl 62 rfl 12 9 rfl, rg_e_aload_0 (cut := rg_cut [2, 28, 36]) (f := false) d_E_findReached_62 rfl 63 rfl, rg_e_getr (P := P_E_findReached) (cut := rg_cut [2, 28, 36]) (f := false) d_E_findReached_63 rfl 66 rfl 4 2 7 12 rfl (fun _ => rfl), rg_e_iload_1 (cut := rg_cut [2, 28, 36]) (f := false) d_E_findReached_66 rfl 67 rfl, rg_e_iald (cut := rg_cut [2, 28, 36]) (f := false) d_E_findReached_67 rfl 68 rfl 12 9 rfl, rg_e_ior (cut := rg_cut [2, 28, 36]) (f := false) d_E_findReached_68 rfl 69 rfl, rg_e_iast (cut := rg_cut [2, 28, 36]) (f := false) d_E_findReached_69 rfl 70 rfl 12 9 rfl, rg_e_iinc_2 (cut := rg_cut [2, 28, 36]) (f := false) d_E_findReached_70 rfl 73 rfl (nI 1) rg_ki_1, rg_e_goto (cut := rg_cut [2, 28, 36]) (f := false) d_E_findReached_73 rfl 36 rfl, rg_e_iinc_1 (cut := rg_cut [2, 28, 36]) (f := false) d_E_findReached_76 rfl 79 rfl (nI 1) rg_ki_1, rg_e_goto (cut := rg_cut [2, 28, 36]) (f := false) d_E_findReached_79 rfl 28 rfl, rg_e_cut (cut := rg_cut [2, 28, 36]) 2 rfl, rg_e_cut (cut := rg_cut [2, 28, 36]) 28 rfl, rg_e_cut (cut := rg_cut [2, 28, 36]) 36 rfl, rg_nx_i, rg_nx_v, rg_wd_n, rg_wd_i, rg_wd_l, rg_wd_r, rg_clr_i, rg_clr_l, rg_clr_r, rg_clr_a, rg_clr_n, true_and, and_true, Nat.reduceAdd, Nat.reduceLeDiff, ↓Te_G_holds, rg_rt_e, rg_fit_ie, rg_fit_ve, rg_fit_1e, rg_fit_0e, rg_fit_be, nI_add]
      refine ⟨fun _ => hout w1 hf (fun a ha => ?_) _, fun h => absurd (nI_le hi9 (by omega)) h⟩
      have := hB a ha
      rwa [if_pos ha] at this
  have l2 : ∀ (t : Nat) (w1 : rg_W) (a2 : Value), (t ≤ 9 ∧ rg_fr [12] w w1 ∧ ∀ a, a < 9 → BS (w1.1 12 a) (Rw E t a)) → Z 28 [.ref 4, .int (nI t), a2] [] w1 0 := by
    refine rg_lp3 _ _ (fun t _ _ => 9 - t) ?_
    intro t w1 a2 ⟨ht, hf, hB⟩ ih
    refine hZ (rg_cut [2, 28, 36]) 400 28 _ _ _ ?_; simp only [rg_e_iload_1 (cut := rg_cut [2, 28, 36]) (f := true) d_E_findReached_28 rfl 29 rfl, rg_e_bipush (cut := rg_cut [2, 28, 36]) (f := false) d_E_findReached_29 rfl 31 rfl (nI 9) rg_kb_9, rg_e_icmp_ge (cut := rg_cut [2, 28, 36]) (f := false) d_E_findReached_31 rfl 34 rfl 82 rfl, rg_e_iconst (cut := rg_cut [2, 28, 36]) (f := false) d_E_findReached_34 rfl 35 rfl (nI 0) rg_ki_0, rg_e_istore_2 (cut := rg_cut [2, 28, 36]) (f := false) d_E_findReached_35 rfl 36 rfl, rg_e_vret (cut := rg_cut [2, 28, 36]) (f := false) d_E_findReached_82 rfl, rg_e_cut (cut := rg_cut [2, 28, 36]) 2 rfl, rg_e_cut (cut := rg_cut [2, 28, 36]) 28 rfl, rg_e_cut (cut := rg_cut [2, 28, 36]) 36 rfl, rg_nx_i, rg_nx_v, rg_wd_n, rg_wd_i, rg_wd_l, rg_wd_r, rg_clr_i, rg_clr_l, rg_clr_r, rg_clr_a, rg_clr_n, true_and, and_true, Nat.reduceAdd, Nat.reduceLeDiff, ↓Te_G_holds, rg_rt_e, rg_fit_ie, rg_fit_ve, rg_fit_1e, rg_fit_0e, rg_fit_be]
    rw [nI_lep (by omega) (by omega)]
    refine ⟨fun h => ?_, fun h => ?_⟩
    · obtain rfl : t = 9 := by omega
      exact hK w1 hf (fun a ha => (hB a ha).cg fun j _ => Rw_rc E a j)
    · exact l3 t 0 w1 ⟨by omega, by omega, hf, fun a ha => by rw [if_neg (by omega)]; exact hB a ha⟩ (fun w2 g1 g2 a2 => ih (t + 1) w2 a2 ⟨by omega, g1, g2⟩ (by omega))
  have l1 : ∀ (i : Nat) (w1 : rg_W) (a2 : Value), (i ≤ 9 ∧ rg_fr [12] w w1 ∧ ∀ a, a < i → BS (w1.1 12 a) (E a)) → Z 2 [.ref 4, .int (nI i), a2] [] w1 0 := by
    refine rg_lp3 _ _ (fun i _ _ => 9 - i) ?_
    intro i w1 a2 ⟨hi, hf, hB⟩ ih
    rcases Nat.lt_or_ge i 9 with hi9 | hi9
    · have vi : vp_in (nI i) 9 := vp_in_nI hi9 (by omega)
      have ci : (nI i).toNatClampNeg = i := nI_clamp (by omega)
      refine hZ (rg_cut [2, 28, 36]) 400 2 _ _ _ ?_; simp only [rg_e_iload_1 (cut := rg_cut [2, 28, 36]) (f := true) d_E_findReached_2 rfl 3 rfl, rg_e_bipush (cut := rg_cut [2, 28, 36]) (f := false) d_E_findReached_3 rfl 5 rfl (nI 9) rg_kb_9, rg_e_icmp_ge (cut := rg_cut [2, 28, 36]) (f := false) d_E_findReached_5 rfl 8 rfl 26 rfl, rg_e_aload_0 (cut := rg_cut [2, 28, 36]) (f := false) d_E_findReached_8 rfl 9 rfl, rg_e_getr (P := P_E_findReached) (cut := rg_cut [2, 28, 36]) (f := false) d_E_findReached_9 rfl 12 rfl 4 2 7 12 rfl (fun _ => rfl), rg_e_iload_1 (cut := rg_cut [2, 28, 36]) (f := false) d_E_findReached_12 rfl 13 rfl, rg_e_aload_0 (cut := rg_cut [2, 28, 36]) (f := false) d_E_findReached_13 rfl 14 rfl, rg_e_getr (P := P_E_findReached) (cut := rg_cut [2, 28, 36]) (f := false) d_E_findReached_14 rfl 17 rfl 4 2 5 10 rfl (fun _ => rfl), rg_e_iload_1 (cut := rg_cut [2, 28, 36]) (f := false) d_E_findReached_17 rfl 18 rfl, rg_e_iald (cut := rg_cut [2, 28, 36]) (f := false) d_E_findReached_18 rfl 19 rfl 10 9 rfl, rg_e_iast (cut := rg_cut [2, 28, 36]) (f := false) d_E_findReached_19 rfl 20 rfl 12 9 rfl, rg_e_iinc_1 (cut := rg_cut [2, 28, 36]) (f := false) d_E_findReached_20 rfl 23 rfl (nI 1) rg_ki_1, rg_e_goto (cut := rg_cut [2, 28, 36]) (f := false) d_E_findReached_23 rfl 2 rfl, rg_e_iconst (cut := rg_cut [2, 28, 36]) (f := false) d_E_findReached_26 rfl 27 rfl (nI 0) rg_ki_0, rg_e_istore_1 (cut := rg_cut [2, 28, 36]) (f := false) d_E_findReached_27 rfl 28 rfl, rg_e_cut (cut := rg_cut [2, 28, 36]) 2 rfl, rg_e_cut (cut := rg_cut [2, 28, 36]) 28 rfl, rg_e_cut (cut := rg_cut [2, 28, 36]) 36 rfl, rg_nx_i, rg_nx_v, rg_wd_n, rg_wd_i, rg_wd_l, rg_wd_r, rg_clr_i, rg_clr_l, rg_clr_r, rg_clr_a, rg_clr_n, true_and, and_true, Nat.reduceAdd, Nat.reduceLeDiff, ↓Te_G_holds, rg_rt_e, rg_fit_ie, rg_fit_ve, rg_fit_1e, rg_fit_0e, rg_fit_be, vi, ci, nI_add]
      rw [nI_lep (by omega) (by omega)]
      refine ⟨fun h => by omega, fun _ => ih (i + 1) _ _ ⟨by omega, rg_fr_up hf (by decide) _ _, fun a ha => ?_⟩ (by omega)⟩
      rw [rg_up_s]
      by_cases hai : a = i
      · subst hai
        rw [upd_s, hf.1 10 (by decide)]
        exact hE a hi9
      · rw [upd_n hai]
        exact hB a (by omega)
    · obtain rfl : i = 9 := by omega
      refine hZ (rg_cut [2, 28, 36]) 400 2 _ _ _ ?_; simp only [rg_e_iload_1 (cut := rg_cut [2, 28, 36]) (f := true) d_E_findReached_2 rfl 3 rfl, rg_e_bipush (cut := rg_cut [2, 28, 36]) (f := false) d_E_findReached_3 rfl 5 rfl (nI 9) rg_kb_9, rg_e_icmp_ge (cut := rg_cut [2, 28, 36]) (f := false) d_E_findReached_5 rfl 8 rfl 26 rfl, rg_e_aload_0 (cut := rg_cut [2, 28, 36]) (f := false) d_E_findReached_8 rfl 9 rfl, rg_e_getr (P := P_E_findReached) (cut := rg_cut [2, 28, 36]) (f := false) d_E_findReached_9 rfl 12 rfl 4 2 7 12 rfl (fun _ => rfl), rg_e_iload_1 (cut := rg_cut [2, 28, 36]) (f := false) d_E_findReached_12 rfl 13 rfl, rg_e_aload_0 (cut := rg_cut [2, 28, 36]) (f := false) d_E_findReached_13 rfl 14 rfl, rg_e_getr (P := P_E_findReached) (cut := rg_cut [2, 28, 36]) (f := false) d_E_findReached_14 rfl 17 rfl 4 2 5 10 rfl (fun _ => rfl), rg_e_iload_1 (cut := rg_cut [2, 28, 36]) (f := false) d_E_findReached_17 rfl 18 rfl, rg_e_iald (cut := rg_cut [2, 28, 36]) (f := false) d_E_findReached_18 rfl 19 rfl 10 9 rfl, rg_e_iast (cut := rg_cut [2, 28, 36]) (f := false) d_E_findReached_19 rfl 20 rfl 12 9 rfl, rg_e_iinc_1 (cut := rg_cut [2, 28, 36]) (f := false) d_E_findReached_20 rfl 23 rfl (nI 1) rg_ki_1, rg_e_goto (cut := rg_cut [2, 28, 36]) (f := false) d_E_findReached_23 rfl 2 rfl, rg_e_iconst (cut := rg_cut [2, 28, 36]) (f := false) d_E_findReached_26 rfl 27 rfl (nI 0) rg_ki_0, rg_e_istore_1 (cut := rg_cut [2, 28, 36]) (f := false) d_E_findReached_27 rfl 28 rfl, rg_e_cut (cut := rg_cut [2, 28, 36]) 2 rfl, rg_e_cut (cut := rg_cut [2, 28, 36]) 28 rfl, rg_e_cut (cut := rg_cut [2, 28, 36]) 36 rfl, rg_nx_i, rg_nx_v, rg_wd_n, rg_wd_i, rg_wd_l, rg_wd_r, rg_clr_i, rg_clr_l, rg_clr_r, rg_clr_a, rg_clr_n, true_and, and_true, Nat.reduceAdd, Nat.reduceLeDiff, ↓Te_G_holds, rg_rt_e, rg_fit_ie, rg_fit_ve, rg_fit_1e, rg_fit_0e, rg_fit_be]
      exact ⟨fun _ => l2 0 w1 _ ⟨by omega, hf, hB⟩, fun h => absurd (nI_le hi9 (by omega)) h⟩
  refine hZ (rg_cut [2, 28, 36]) 400 0 _ _ _ ?_; simp only [rg_e_iconst (cut := rg_cut [2, 28, 36]) (f := true) d_E_findReached_0 rfl 1 rfl (nI 0) rg_ki_0, rg_e_istore_1 (cut := rg_cut [2, 28, 36]) (f := false) d_E_findReached_1 rfl 2 rfl, rg_e_cut (cut := rg_cut [2, 28, 36]) 2 rfl, rg_e_cut (cut := rg_cut [2, 28, 36]) 28 rfl, rg_e_cut (cut := rg_cut [2, 28, 36]) 36 rfl, rg_nx_i, rg_nx_v, rg_wd_n, rg_wd_i, rg_wd_l, rg_wd_r, rg_clr_i, rg_clr_l, rg_clr_r, rg_clr_a, rg_clr_n, true_and, and_true, Nat.reduceAdd, Nat.reduceLeDiff, ↓Te_G_holds, rg_rt_e, rg_fit_ie, rg_fit_ve, rg_fit_1e, rg_fit_0e, rg_fit_be]
  exact l1 0 w _ ⟨by omega, rg_fr_rf _ _, fun a ha => absurd ha (by omega)⟩
/-- the graph of hg over the nodes nd, as Edges holds it -/
def GrW (nd : Nat → Bool) (hg : Nat → Nat → Nat) (w : rg_W) : Prop := BS (w.1 4 8) nd ∧ w.1 4 9 = nI (cnF (hgC hg) 81) ∧ GE hg 81 w ∧ ∀ a, a < 9 → BS (w.1 12 a) (rcB (kE hg) a)
/-- firstOut -/
def FoW (hg : Nat → Nat → Nat) (w : rg_W) : Prop := ∀ i, i ≤ 9 → w.1 9 i = nI (esT hg (9 * i)).length
theorem hgN_ok (nr : Nat) {ln pk : Nat → Nat} {w : rg_W} (hR : Rd nr ln pk w) (least : Nat) : (∀ a b, hgN nr ln pk least a b ≤ 12) ∧ ∀ i, hgN nr ln pk least i i = 0 := by
  refine ⟨fun a b => ?_, fun i => ?_⟩
  · unfold hgN
    split
    · rename_i h
      have := (hR.2.2 b (ndN_lt h.2.2)).2.1
      split <;> omega
    · omega
  · unfold hgN
    rw [if_neg (by simp)]
-- E.make
def P_E_make : rg_P := (rg_F_E, [(93, 2, 0, T_E_findNodes), (101, 3, 0, T_E_layAll), (109, 2, 0, T_E_keepUnsaid), (117, 1, 0, T_E_findReached)], [], [], [], [], 0)
def T_E_make : rg_T := fun as w K => match as with
  | [.ref 4, .ref 1, .int least] => ∃ nr ln pk least', Rd nr ln pk w ∧ w.1 4 8 = nI 0 ∧ w.1 4 9 = nI 0 ∧ w.1 4 10 = nI 0 ∧ (∀ a, a < 9 → w.1 10 a = nI 0 ∧ w.1 11 a = nI 0) ∧ least = nI least' ∧ 1 ≤ least' ∧ least' ≤ 12 ∧ ∀ w', rg_fr [4, 5, 6, 7, 8, 9, 10, 11, 12] w w' → GrW (ndN nr ln pk) (hgN nr ln pk least') w' → FoW (hgN nr ln pk least') w' → K none w'
  | _ => False
theorem Te_E_make (least : Int32) (w : rg_W) (K : Option Value → rg_W → Prop) : T_E_make [.ref 4, .ref 1, .int least] w K = (∃ nr ln pk least', Rd nr ln pk w ∧ w.1 4 8 = nI 0 ∧ w.1 4 9 = nI 0 ∧ w.1 4 10 = nI 0 ∧ (∀ a, a < 9 → w.1 10 a = nI 0 ∧ w.1 11 a = nI 0) ∧ least = nI least' ∧ 1 ≤ least' ∧ least' ≤ 12 ∧ ∀ w', rg_fr [4, 5, 6, 7, 8, 9, 10, 11, 12] w w' → GrW (ndN nr ln pk) (hgN nr ln pk least') w' → FoW (hgN nr ln pk least') w' → K none w') := rfl
theorem r_E_make : ∀ as w K, T_E_make as w K → ∃ r, as = .ref 4 :: r := by
  intro as w K h
  unfold T_E_make at h
  split at h
  · exact ⟨_, rfl⟩
  · exact h.elim
theorem G_E_make (l : Launch) : rg_Good l y_E_make c_E_make 4 none 4 T_E_make := by
  refine rg_good_of (P := P_E_make) (by decide) (rg_pok rg_F_E_ok (rg_cons (cw_E_46 (G_E_findNodes l) (by decide) r_E_findNodes) (rg_cons (cw_E_50 (G_E_layAll l) (by decide) r_E_layAll) (rg_cons (cw_E_54 (G_E_keepUnsaid l) (by decide) r_E_keepUnsaid) (rg_cons (cw_E_58 (G_E_findReached l) (by decide) r_E_findReached) rg_nil))))) ?_
  intro as w K Z hT hZ
  unfold T_E_make at hT
  split at hT
  rotate_left
  · exact hT.elim
  rename_i least
  refine ⟨Nat.le_of_ble_eq_true rfl, ?_⟩
  show Z 0 [.ref 4, .ref 1, .int least, .null] [] w 0
  obtain ⟨nr, ln, pk, least', hR, h8, h9, h10, hab, rfl, l1, l2, hK⟩ := hT
  have hok := hgN_ok nr hR least'
  have hlb : ∀ t, t ≤ 81 → (esT (hgN nr ln pk least') t).length ≤ 81 := fun t ht => by have := esT_len hok.2 t ht; omega
  have loop : ∀ (i : Nat) (w1 : rg_W), (i ≤ 9 ∧ rg_fr [4, 5, 6, 7, 8, 9, 10, 11, 12] w w1 ∧ BS (w1.1 4 8) (ndN nr ln pk) ∧ w1.1 4 9 = nI (cnF (hgC (hgN nr ln pk least')) 81) ∧ Hg (hgN nr ln pk least') w1 ∧ GE (hgN nr ln pk least') (9 * i) w1 ∧ ∀ q, q < i → w1.1 9 q = nI (esT (hgN nr ln pk least') (9 * q)).length) → Z 13 [.ref 4, .ref 1, .int (nI least'), .int (nI i)] [] w1 0 := by
    refine rg_lp2 _ _ (fun i _ => 9 - i) ?_
    intro i w1 ⟨hi, hf, g1, g2, g3, g4, g5⟩ ih
    have hc := g4.1
    rcases Nat.lt_or_ge i 9 with hi9 | hi9
    · have vi : vp_in (nI i) 10 := vp_in_nI (by omega) (by omega)
      have ci : (nI i).toNatClampNeg = i := nI_clamp (by omega)
      refine hZ (rg_cut [13]) 400 13 _ _ _ ?_; simp only [rg_e_iload_3 (cut := rg_cut [13]) (f := true) d_E_make_13 rfl 14 rfl, rg_e_bipush (cut := rg_cut [13]) (f := false) d_E_make_14 rfl 16 rfl (nI 9) rg_kb_9, rg_e_icmp_ge (cut := rg_cut [13]) (f := false) d_E_make_16 rfl 19 rfl 40 rfl, rg_e_aload_0 (cut := rg_cut [13]) (f := false) d_E_make_19 rfl 20 rfl, rg_e_getr (P := P_E_make) (cut := rg_cut [13]) (f := false) d_E_make_20 rfl 23 rfl 4 2 4 9 rfl (fun _ => rfl), rg_e_iload_3 (cut := rg_cut [13]) (f := false) d_E_make_23 rfl 24 rfl, rg_e_aload_0 (cut := rg_cut [13]) (f := false) d_E_make_24 rfl 25 rfl, rg_e_geti (P := P_E_make) (cut := rg_cut [13]) (f := false) d_E_make_25 rfl 28 rfl 4 2 10 rfl (fun _ => rfl), rg_e_iast (cut := rg_cut [13]) (f := false) d_E_make_28 rfl 29 rfl 9 10 rfl, rg_e_aload_0 (cut := rg_cut [13]) (f := false) d_E_make_29 rfl 30 rfl, rg_e_iload_3 (cut := rg_cut [13]) (f := false) d_E_make_30 rfl 31 rfl, rg_e_cv2 (P := P_E_make) (cut := rg_cut [13]) (f := false) d_E_make_31 rfl T_E_keepUnsaid rfl, rg_e_iinc_3 (cut := rg_cut [13]) (f := false) d_E_make_34 rfl 37 rfl (nI 1) rg_ki_1, rg_e_goto (cut := rg_cut [13]) (f := false) d_E_make_37 rfl 13 rfl, rg_e_aload_0 (cut := rg_cut [13]) (f := false) d_E_make_40 rfl 41 rfl, rg_e_getr (P := P_E_make) (cut := rg_cut [13]) (f := false) d_E_make_41 rfl 44 rfl 4 2 4 9 rfl (fun _ => rfl), rg_e_bipush (cut := rg_cut [13]) (f := false) d_E_make_44 rfl 46 rfl (nI 9) rg_kb_9, rg_e_aload_0 (cut := rg_cut [13]) (f := false) d_E_make_46 rfl 47 rfl, rg_e_geti (P := P_E_make) (cut := rg_cut [13]) (f := false) d_E_make_47 rfl 50 rfl 4 2 10 rfl (fun _ => rfl), rg_e_iast (cut := rg_cut [13]) (f := false) d_E_make_50 rfl 51 rfl 9 10 rfl, rg_e_aload_0 (cut := rg_cut [13]) (f := false) d_E_make_51 rfl 52 rfl, rg_e_cv1 (P := P_E_make) (cut := rg_cut [13]) (f := false) d_E_make_52 rfl T_E_findReached rfl, rg_e_vret (cut := rg_cut [13]) (f := false) d_E_make_55 rfl, rg_e_cut (cut := rg_cut [13]) 13 rfl, rg_nx_i, rg_nx_v, rg_wd_n, rg_wd_i, rg_wd_l, rg_wd_r, rg_clr_i, rg_clr_l, rg_clr_r, rg_clr_a, rg_clr_n, true_and, and_true, Nat.reduceAdd, Nat.reduceLeDiff, ↓Te_E_findNodes, ↓Te_E_layAll, ↓Te_E_keepUnsaid, ↓Te_E_findReached, rg_rt_e, rg_fit_ie, rg_fit_ve, rg_fit_1e, rg_fit_0e, rg_fit_be, vi, ci, nI_add, hc]
      rw [nI_lep (by omega) (by omega)]
      refine ⟨fun h => by omega, fun _ => ⟨hgN nr ln pk least', i, ⟨fun t ht => by rw [rg_up_n (by decide)]; exact g3.1 t ht, g3.2⟩, rfl, hi9, g4.fr (by rw [rg_up_n (by decide)]) (rg_up_n (by decide)) (rg_up_n (by decide)) (rg_up_n (by decide)) (rg_up_n (by decide)) (rg_up_n (by decide)), fun w' f1 f2 f3 => ?_⟩⟩
      refine ih (i + 1) w' ⟨by omega, rg_fr_tr (rg_fr_up hf (by decide) _ _) (rg_fr_sub f1 (by decide)), ?_, ?_, ⟨fun t ht => ?_, g3.2⟩, f3, fun q hq => ?_⟩ (by omega)
      · rw [f2 8 (by decide), rg_up_n (by decide)]; exact g1
      · rw [f2 9 (by decide), rg_up_n (by decide)]; exact g2
      · rw [f1.1 5 (by decide), rg_up_n (by decide)]; exact g3.1 t ht
      · rw [f1.1 9 (by decide), rg_up_s]
        by_cases hqi : q = i
        · subst hqi
          rw [upd_s]
        · rw [upd_n hqi]
          exact g5 q (by omega)
    · obtain rfl : i = 9 := by omega
      have v9 : vp_in (nI 9) 10 := vp_in_nI (by omega) (by omega)
      have c9 : (nI 9).toNatClampNeg = 9 := nI_clamp (by omega)
      refine hZ (rg_cut [13]) 400 13 _ _ _ ?_; simp only [rg_e_iload_3 (cut := rg_cut [13]) (f := true) d_E_make_13 rfl 14 rfl, rg_e_bipush (cut := rg_cut [13]) (f := false) d_E_make_14 rfl 16 rfl (nI 9) rg_kb_9, rg_e_icmp_ge (cut := rg_cut [13]) (f := false) d_E_make_16 rfl 19 rfl 40 rfl, rg_e_aload_0 (cut := rg_cut [13]) (f := false) d_E_make_19 rfl 20 rfl, rg_e_getr (P := P_E_make) (cut := rg_cut [13]) (f := false) d_E_make_20 rfl 23 rfl 4 2 4 9 rfl (fun _ => rfl), rg_e_iload_3 (cut := rg_cut [13]) (f := false) d_E_make_23 rfl 24 rfl, rg_e_aload_0 (cut := rg_cut [13]) (f := false) d_E_make_24 rfl 25 rfl, rg_e_geti (P := P_E_make) (cut := rg_cut [13]) (f := false) d_E_make_25 rfl 28 rfl 4 2 10 rfl (fun _ => rfl), rg_e_iast (cut := rg_cut [13]) (f := false) d_E_make_28 rfl 29 rfl 9 10 rfl, rg_e_aload_0 (cut := rg_cut [13]) (f := false) d_E_make_29 rfl 30 rfl, rg_e_iload_3 (cut := rg_cut [13]) (f := false) d_E_make_30 rfl 31 rfl, rg_e_cv2 (P := P_E_make) (cut := rg_cut [13]) (f := false) d_E_make_31 rfl T_E_keepUnsaid rfl, rg_e_iinc_3 (cut := rg_cut [13]) (f := false) d_E_make_34 rfl 37 rfl (nI 1) rg_ki_1, rg_e_goto (cut := rg_cut [13]) (f := false) d_E_make_37 rfl 13 rfl, rg_e_aload_0 (cut := rg_cut [13]) (f := false) d_E_make_40 rfl 41 rfl, rg_e_getr (P := P_E_make) (cut := rg_cut [13]) (f := false) d_E_make_41 rfl 44 rfl 4 2 4 9 rfl (fun _ => rfl), rg_e_bipush (cut := rg_cut [13]) (f := false) d_E_make_44 rfl 46 rfl (nI 9) rg_kb_9, rg_e_aload_0 (cut := rg_cut [13]) (f := false) d_E_make_46 rfl 47 rfl, rg_e_geti (P := P_E_make) (cut := rg_cut [13]) (f := false) d_E_make_47 rfl 50 rfl 4 2 10 rfl (fun _ => rfl), rg_e_iast (cut := rg_cut [13]) (f := false) d_E_make_50 rfl 51 rfl 9 10 rfl, rg_e_aload_0 (cut := rg_cut [13]) (f := false) d_E_make_51 rfl 52 rfl, rg_e_cv1 (P := P_E_make) (cut := rg_cut [13]) (f := false) d_E_make_52 rfl T_E_findReached rfl, rg_e_vret (cut := rg_cut [13]) (f := false) d_E_make_55 rfl, rg_e_cut (cut := rg_cut [13]) 13 rfl, rg_nx_i, rg_nx_v, rg_wd_n, rg_wd_i, rg_wd_l, rg_wd_r, rg_clr_i, rg_clr_l, rg_clr_r, rg_clr_a, rg_clr_n, true_and, and_true, Nat.reduceAdd, Nat.reduceLeDiff, ↓Te_E_findNodes, ↓Te_E_layAll, ↓Te_E_keepUnsaid, ↓Te_E_findReached, rg_rt_e, rg_fit_ie, rg_fit_ve, rg_fit_1e, rg_fit_0e, rg_fit_be, v9, c9, hc]
      refine ⟨fun _ => ⟨kE (hgN nr ln pk least'), fun a ha => ?_, fun w' f1 f2 => ?_⟩, fun h => absurd (nI_le hi9 (by omega)) h⟩
      · rw [rg_up_n (by decide)]
        refine (g4.2.2.1 a ha).cg fun b hb => ?_
        rw [decide_eq_true (by omega)]
        rfl
      · have k4 : w'.1 4 = w1.1 4 := by rw [f1.1 4 (by decide), rg_up_n (by decide)]
        have k9 : w'.1 9 = upd (w1.1 9) 9 (nI (esT (hgN nr ln pk least') (9 * 9)).length) := by rw [f1.1 9 (by decide), rg_up_s]
        refine hK w' (rg_fr_tr (rg_fr_up hf (by decide) _ _) (rg_fr_sub f1 (by decide))) ⟨by rw [k4]; exact g1, by rw [k4]; exact g2, ?_, f2⟩ (fun q hq => ?_)
        · refine g4.fr (by rw [k4]) ?_ ?_ ?_ ?_ ?_ <;> rw [f1.1 _ (by decide), rg_up_n (by decide)]
        · rw [k9]
          by_cases hq9 : q = 9
          · subst hq9
            rw [upd_s]
          · rw [upd_n hq9]
            exact g5 q (by omega)
  refine hZ (rg_cut [13]) 400 0 _ _ _ ?_; simp only [rg_e_aload_0 (cut := rg_cut [13]) (f := true) d_E_make_0 rfl 1 rfl, rg_e_aload_1 (cut := rg_cut [13]) (f := false) d_E_make_1 rfl 2 rfl, rg_e_cv2 (P := P_E_make) (cut := rg_cut [13]) (f := false) d_E_make_2 rfl T_E_findNodes rfl, rg_e_aload_0 (cut := rg_cut [13]) (f := false) d_E_make_5 rfl 6 rfl, rg_e_aload_1 (cut := rg_cut [13]) (f := false) d_E_make_6 rfl 7 rfl, rg_e_iload_2 (cut := rg_cut [13]) (f := false) d_E_make_7 rfl 8 rfl, rg_e_cv3 (P := P_E_make) (cut := rg_cut [13]) (f := false) d_E_make_8 rfl T_E_layAll rfl, rg_e_iconst (cut := rg_cut [13]) (f := false) d_E_make_11 rfl 12 rfl (nI 0) rg_ki_0, rg_e_istore_3 (cut := rg_cut [13]) (f := false) d_E_make_12 rfl 13 rfl, rg_e_cut (cut := rg_cut [13]) 13 rfl, rg_nx_i, rg_nx_v, rg_wd_n, rg_wd_i, rg_wd_l, rg_wd_r, rg_clr_i, rg_clr_l, rg_clr_r, rg_clr_a, rg_clr_n, true_and, and_true, Nat.reduceAdd, Nat.reduceLeDiff, ↓Te_E_findNodes, ↓Te_E_layAll, ↓Te_E_keepUnsaid, ↓Te_E_findReached, rg_rt_e, rg_fit_ie, rg_fit_ve, rg_fit_1e, rg_fit_0e, rg_fit_be]
  refine ⟨nr, ln, pk, hR, h8, fun v hv => ⟨nr, ln, pk, least', hR.fr (rg_up_n (by decide)) (rg_up_n (by decide)) (rg_up_n (by decide)), by rw [rg_up_ss]; exact hv, by rw [rg_up_s, upd_n (by decide)]; exact h9, rfl, l1, l2, fun w' f1 f2 f3 f4 => ?_⟩⟩
  have hf : rg_fr [4, 5, 6, 7, 8, 9, 10, 11, 12] w w' := rg_fr_tr (rg_fr_up (rg_fr_rf _ _) (by decide) _ _) (rg_fr_sub f1 (by decide))
  have e10 : w'.1 10 = w.1 10 := by rw [f1.1 10 (by decide), rg_up_n (by decide)]
  have e11 : w'.1 11 = w.1 11 := by rw [f1.1 11 (by decide), rg_up_n (by decide)]
  refine loop 0 w' ⟨by omega, hf, ?_, f3, ⟨f4, hok⟩, ⟨?_, fun k hk => absurd hk (Nat.not_lt_zero k), fun a ha => ?_, fun b hb => ?_⟩, fun q hq => absurd hq (by omega)⟩
  · rw [f2 8 (by decide), rg_up_ss]; exact hv
  · rw [f2 10 (by decide), rg_up_s, upd_n (by decide)]; exact h10
  · rw [e10, (hab a ha).1]
    exact BS.zero.cg fun b _ => by simp
  · rw [e11, (hab b hb).2]
    exact BS.zero.cg fun a _ => by simp
end
section
/-! bitCount; the graph's kind; what passes a walk -/
def usI (x : Int32) (k : Nat) : Int32 := (x.toUInt32 >>> ((nI k).toUInt32 &&& Int32.toUInt32 31)).toInt32
def bc1 (x : Int32) : Int32 := x - (usI x 1 &&& nI 1431655765)
def bc2 (x : Int32) : Int32 := (x &&& nI 858993459) + (usI x 2 &&& nI 858993459)
def bc3 (x : Int32) : Int32 := (x + usI x 4) &&& nI 252645135
def bc4 (x : Int32) : Int32 := x + usI x 8
def bc5 (x : Int32) : Int32 := x + usI x 16
def bcI (x : Int32) : Int32 := bc5 (bc4 (bc3 (bc2 (bc1 x)))) &&& nI 63
theorem bcI_ok : ∀ a, a < 512 → bcI (nI a) = nI (cnF (fun i => Nat.testBit a i) 9) := by decide +kernel
theorem cnF_cg {p q : Nat → Bool} : ∀ n, (∀ i, i < n → p i = q i) → cnF p n = cnF q n
  | 0, _ => rfl
  | n + 1, h => by
    unfold cnF
    rw [cnF_cg n (fun i hi => h i (by omega)), h n (by omega)]
theorem BS.num {x : Int32} {p : Nat → Bool} (h : BS x p) : ∃ a, a < 512 ∧ x = nI a ∧ ∀ i, i < 9 → a.testBit i = p i := by
  refine ⟨x.toBitVec.toNat, ?_, ?_, fun i hi => ?_⟩
  · exact Nat.lt_pow_two_of_testBit (n := 9) _ (fun i hi => by rw [← bt_toNat]; exact h.2 i hi)
  · apply b_ext
    intro i hi
    rw [bt_nI _ _ hi, bt_toNat]
  · rw [← bt_toNat]
    exact h.1 i hi
theorem bcI_bs {x : Int32} {p : Nat → Bool} (h : BS x p) : bcI x = nI (cnF p 9) := by
  obtain ⟨a, ha, rfl, hp⟩ := h.num
  rw [bcI_ok a ha, cnF_cg 9 hp]
theorem rg_F_J_ok (own : String) : ∀ q ∈ rg_F_J, rg_FOk own q := fun _ h => absurd h List.not_mem_nil
-- J.bitCount
def P_J_bitCount : rg_P := (rg_F_J, [], [(265, nI 1431655765), (266, nI 858993459), (267, nI 252645135)], [], [], [], 0)
def T_J_bitCount : rg_T := fun as w K => match as with
  | [.int x] => K (some (.int (bcI x))) w
  | _ => False
theorem Te_J_bitCount (x : Int32) (w : rg_W) (K : Option Value → rg_W → Prop) : T_J_bitCount [.int x] w K = (K (some (.int (bcI x))) w) := rfl
theorem G_J_bitCount (l : Launch) : rg_Good l y_J_bitCount c_J_bitCount 1 (some .int) 0 T_J_bitCount := by
  refine rg_good_of (P := P_J_bitCount) (by decide +kernel) ⟨rg_F_J_ok _, rg_nil, ?_, fun _ h => absurd h List.not_mem_nil, rfl⟩ ?_
  · refine List.forall_mem_cons.mpr ⟨rg_in rfl (by decide +kernel), List.forall_mem_cons.mpr ⟨rg_in rfl (by decide +kernel), List.forall_mem_cons.mpr ⟨rg_in rfl (by decide +kernel), fun _ h => absurd h List.not_mem_nil⟩⟩⟩
  intro as w K Z hT hZ
  unfold T_J_bitCount at hT
  split at hT
  rotate_left
  · exact hT.elim
  rename_i x
  refine ⟨Nat.le_of_ble_eq_true rfl, ?_⟩
  show Z 0 [.int x] [] w 0
  refine hZ (rg_cut []) 400 0 _ _ _ ?_; simp only [rg_e_iload_0 (cut := rg_cut []) (f := true) d_J_bitCount_0 rfl 1 rfl, rg_e_iload_0 (cut := rg_cut []) (f := false) d_J_bitCount_1 rfl 2 rfl, rg_e_iconst (cut := rg_cut []) (f := false) d_J_bitCount_2 rfl 3 rfl (nI 1) rg_ki_1, rg_e_iushr (cut := rg_cut []) (f := false) d_J_bitCount_3 rfl 4 rfl, rg_e_ldcw (P := P_J_bitCount) (cut := rg_cut []) (f := false) d_J_bitCount_4 rfl 7 rfl (nI 1431655765) rfl, rg_e_iand (cut := rg_cut []) (f := false) d_J_bitCount_7 rfl 8 rfl, rg_e_isub (cut := rg_cut []) (f := false) d_J_bitCount_8 rfl 9 rfl, rg_e_istore_0 (cut := rg_cut []) (f := false) d_J_bitCount_9 rfl 10 rfl, rg_e_iload_0 (cut := rg_cut []) (f := false) d_J_bitCount_10 rfl 11 rfl, rg_e_ldcw (P := P_J_bitCount) (cut := rg_cut []) (f := false) d_J_bitCount_11 rfl 14 rfl (nI 858993459) rfl, rg_e_iand (cut := rg_cut []) (f := false) d_J_bitCount_14 rfl 15 rfl, rg_e_iload_0 (cut := rg_cut []) (f := false) d_J_bitCount_15 rfl 16 rfl, rg_e_iconst (cut := rg_cut []) (f := false) d_J_bitCount_16 rfl 17 rfl (nI 2) rg_ki_2, rg_e_iushr (cut := rg_cut []) (f := false) d_J_bitCount_17 rfl 18 rfl, rg_e_ldcw (P := P_J_bitCount) (cut := rg_cut []) (f := false) d_J_bitCount_18 rfl 21 rfl (nI 858993459) rfl, rg_e_iand (cut := rg_cut []) (f := false) d_J_bitCount_21 rfl 22 rfl, rg_e_iadd (cut := rg_cut []) (f := false) d_J_bitCount_22 rfl 23 rfl, rg_e_istore_0 (cut := rg_cut []) (f := false) d_J_bitCount_23 rfl 24 rfl, rg_e_iload_0 (cut := rg_cut []) (f := false) d_J_bitCount_24 rfl 25 rfl, rg_e_iload_0 (cut := rg_cut []) (f := false) d_J_bitCount_25 rfl 26 rfl, rg_e_iconst (cut := rg_cut []) (f := false) d_J_bitCount_26 rfl 27 rfl (nI 4) rg_ki_4, rg_e_iushr (cut := rg_cut []) (f := false) d_J_bitCount_27 rfl 28 rfl, rg_e_iadd (cut := rg_cut []) (f := false) d_J_bitCount_28 rfl 29 rfl, rg_e_ldcw (P := P_J_bitCount) (cut := rg_cut []) (f := false) d_J_bitCount_29 rfl 32 rfl (nI 252645135) rfl, rg_e_iand (cut := rg_cut []) (f := false) d_J_bitCount_32 rfl 33 rfl, rg_e_istore_0 (cut := rg_cut []) (f := false) d_J_bitCount_33 rfl 34 rfl, rg_e_iload_0 (cut := rg_cut []) (f := false) d_J_bitCount_34 rfl 35 rfl, rg_e_iload_0 (cut := rg_cut []) (f := false) d_J_bitCount_35 rfl 36 rfl, rg_e_bipush (cut := rg_cut []) (f := false) d_J_bitCount_36 rfl 38 rfl (nI 8) rg_kb_8, rg_e_iushr (cut := rg_cut []) (f := false) d_J_bitCount_38 rfl 39 rfl, rg_e_iadd (cut := rg_cut []) (f := false) d_J_bitCount_39 rfl 40 rfl, rg_e_istore_0 (cut := rg_cut []) (f := false) d_J_bitCount_40 rfl 41 rfl, rg_e_iload_0 (cut := rg_cut []) (f := false) d_J_bitCount_41 rfl 42 rfl, rg_e_iload_0 (cut := rg_cut []) (f := false) d_J_bitCount_42 rfl 43 rfl, rg_e_bipush (cut := rg_cut []) (f := false) d_J_bitCount_43 rfl 45 rfl (nI 16) rg_kb_16, rg_e_iushr (cut := rg_cut []) (f := false) d_J_bitCount_45 rfl 46 rfl, rg_e_iadd (cut := rg_cut []) (f := false) d_J_bitCount_46 rfl 47 rfl, rg_e_istore_0 (cut := rg_cut []) (f := false) d_J_bitCount_47 rfl 48 rfl, rg_e_iload_0 (cut := rg_cut []) (f := false) d_J_bitCount_48 rfl 49 rfl, rg_e_bipush (cut := rg_cut []) (f := false) d_J_bitCount_49 rfl 51 rfl (nI 63) rg_kb_63, rg_e_iand (cut := rg_cut []) (f := false) d_J_bitCount_51 rfl 52 rfl, rg_e_iret (cut := rg_cut []) (f := false) d_J_bitCount_52 rfl, rg_nx_i, rg_nx_v, rg_wd_n, rg_wd_i, rg_wd_l, rg_wd_r, rg_clr_i, rg_clr_l, rg_clr_r, rg_clr_a, rg_clr_n, true_and, and_true, Nat.reduceAdd, Nat.reduceLeDiff, rg_rt_e, rg_fit_ie, rg_fit_ve, rg_fit_1e, rg_fit_0e, rg_fit_be]
  exact hT
/-- the graph's kind -/
noncomputable def shN (nd : Nat → Bool) (hg : Nat → Nat → Nat) : Nat := if (esT hg 81).length = 0 then 0 else if (List.range 9).any (fun i => nd i && !(List.range 9).all (fun j => rcB (kE hg) i j == nd j)) = true then 0 else if (esT hg 81).length = cnF nd 9 then 1 else 2
theorem all9 {p q : Nat → Bool} : (List.range 9).all (fun j => p j == q j) = true ↔ ∀ j, j < 9 → p j = q j := by
  rw [List.all_eq_true]
  exact ⟨fun h j hj => by simpa using h j (List.mem_range.mpr hj), fun h j hj => by simpa using h j (List.mem_range.mp hj)⟩
-- E.shape
def P_E_shape : rg_P := (rg_F_E, [(134, 2, 0, T_G_holds), (164, 1, 0, T_J_bitCount)], [], [], [], [], 0)
def T_E_shape : rg_T := fun as w K => match as with
  | [.ref 4] => ∃ nd hg, GrW nd hg w ∧ (∀ i, hg i i = 0) ∧ K (some (.int (nI (shN nd hg)))) w
  | _ => False
theorem Te_E_shape  (w : rg_W) (K : Option Value → rg_W → Prop) : T_E_shape [.ref 4] w K = (∃ nd hg, GrW nd hg w ∧ (∀ i, hg i i = 0) ∧ K (some (.int (nI (shN nd hg)))) w) := rfl
theorem r_E_shape : ∀ as w K, T_E_shape as w K → ∃ r, as = .ref 4 :: r := by
  intro as w K h
  unfold T_E_shape at h
  split at h
  · exact ⟨_, rfl⟩
  · exact h.elim
theorem G_E_shape (l : Launch) : rg_Good l y_E_shape c_E_shape 2 (some .int) 1 T_E_shape := by
  refine rg_good_of (P := P_E_shape) (by decide) (rg_pok rg_F_E_ok (rg_cons (cw_E_67 (G_G_holds l) (by decide)) (rg_cons (cw_E_82 (G_J_bitCount l) (by decide)) rg_nil))) ?_
  intro as w K Z hT hZ
  unfold T_E_shape at hT
  split at hT
  rotate_left
  · exact hT.elim
  refine ⟨Nat.le_of_ble_eq_true rfl, ?_⟩
  show Z 0 [.ref 4, .null] [] w 0
  obtain ⟨nd, hg, ⟨hB, -, hG, hr⟩, h0, hK⟩ := hT
  have hc := hG.1
  have hlen := esT_len h0 81 (by omega)
  have hcn := cnF_le nd 9
  have loop : ∀ i, (i ≤ 9 ∧ (esT hg 81).length ≠ 0 ∧ ∀ b, b < i → (nd b && !(List.range 9).all (fun j => rcB (kE hg) b j == nd j)) = false) → Z 11 [.ref 4, .int (nI i)] [] w 0 := by
    refine rg_lp1 _ _ (fun i => 9 - i) ?_
    intro i ⟨hi, hl, hno⟩ ih
    rcases Nat.lt_or_ge i 9 with hi9 | hi9
    · have vi : vp_in (nI i) 9 := vp_in_nI hi9 (by omega)
      have ci : (nI i).toNatClampNeg = i := nI_clamp (by omega)
      have next : (nd i && !(List.range 9).all (fun j => rcB (kE hg) i j == nd j)) = false → Z 11 [.ref 4, .int (nI (i + 1))] [] w 0 := fun h =>
        ih (i + 1) ⟨by omega, hl, fun b hb => by
          by_cases hbi : b = i
          · subst hbi; exact h
          · exact hno b (by omega)⟩ (by omega)
      refine hZ (rg_cut [11]) 400 11 _ _ _ ?_; simp only [rg_e_iload_1 (cut := rg_cut [11]) (f := true) d_E_shape_11 rfl 12 rfl, rg_e_bipush (cut := rg_cut [11]) (f := false) d_E_shape_12 rfl 14 rfl (nI 9) rg_kb_9, rg_e_icmp_ge (cut := rg_cut [11]) (f := false) d_E_shape_14 rfl 17 rfl 49 rfl, rg_e_aload_0 (cut := rg_cut [11]) (f := false) d_E_shape_17 rfl 18 rfl, rg_e_geti (P := P_E_shape) (cut := rg_cut [11]) (f := false) d_E_shape_18 rfl 21 rfl 4 2 8 rfl (fun _ => rfl), rg_e_iload_1 (cut := rg_cut [11]) (f := false) d_E_shape_21 rfl 22 rfl, rg_e_cs2 (P := P_E_shape) (cut := rg_cut [11]) (f := false) d_E_shape_22 rfl T_G_holds rfl, rg_e_if_eq (cut := rg_cut [11]) (f := false) d_E_shape_25 rfl 28 rfl 43 rfl, rg_e_aload_0 (cut := rg_cut [11]) (f := false) d_E_shape_28 rfl 29 rfl, rg_e_getr (P := P_E_shape) (cut := rg_cut [11]) (f := false) d_E_shape_29 rfl 32 rfl 4 2 7 12 rfl (fun _ => rfl), rg_e_iload_1 (cut := rg_cut [11]) (f := false) d_E_shape_32 rfl 33 rfl, rg_e_iald (cut := rg_cut [11]) (f := false) d_E_shape_33 rfl 34 rfl 12 9 rfl, rg_e_aload_0 (cut := rg_cut [11]) (f := false) d_E_shape_34 rfl 35 rfl, rg_e_geti (P := P_E_shape) (cut := rg_cut [11]) (f := false) d_E_shape_35 rfl 38 rfl 4 2 8 rfl (fun _ => rfl), rg_e_icmp_eq (cut := rg_cut [11]) (f := false) d_E_shape_38 rfl 41 rfl 43 rfl, rg_e_iconst (cut := rg_cut [11]) (f := false) d_E_shape_41 rfl 42 rfl (nI 0) rg_ki_0, rg_e_iret (cut := rg_cut [11]) (f := false) d_E_shape_42 rfl, rg_e_iinc_1 (cut := rg_cut [11]) (f := false) d_E_shape_43 rfl 46 rfl (nI 1) rg_ki_1, rg_e_goto (cut := rg_cut [11]) (f := false) d_E_shape_46 rfl 11 rfl, rg_e_aload_0 (cut := rg_cut [11]) (f := false) d_E_shape_49 rfl 50 rfl, rg_e_geti (P := P_E_shape) (cut := rg_cut [11]) (f := false) d_E_shape_50 rfl 53 rfl 4 2 10 rfl (fun _ => rfl), rg_e_aload_0 (cut := rg_cut [11]) (f := false) d_E_shape_53 rfl 54 rfl, rg_e_geti (P := P_E_shape) (cut := rg_cut [11]) (f := false) d_E_shape_54 rfl 57 rfl 4 2 8 rfl (fun _ => rfl), rg_e_cs1 (P := P_E_shape) (cut := rg_cut [11]) (f := false) d_E_shape_57 rfl T_J_bitCount rfl, rg_e_icmp_ne (cut := rg_cut [11]) (f := false) d_E_shape_60 rfl 63 rfl 67 rfl, rg_e_iconst (cut := rg_cut [11]) (f := false) d_E_shape_63 rfl 64 rfl (nI 1) rg_ki_1, rg_e_goto (cut := rg_cut [11]) (f := false) d_E_shape_64 rfl 68 rfl, rg_e_iconst (cut := rg_cut [11]) (f := false) d_E_shape_67 rfl 68 rfl (nI 2) rg_ki_2, rg_e_iret (cut := rg_cut [11]) (f := false) d_E_shape_68 rfl, rg_e_cut (cut := rg_cut [11]) 11 rfl, rg_nx_i, rg_nx_v, rg_wd_n, rg_wd_i, rg_wd_l, rg_wd_r, rg_clr_i, rg_clr_l, rg_clr_r, rg_clr_a, rg_clr_n, true_and, and_true, Nat.reduceAdd, Nat.reduceLeDiff, ↓Te_G_holds, ↓Te_J_bitCount, rg_rt_e, rg_fit_ie, rg_fit_ve, rg_fit_1e, rg_fit_0e, rg_fit_be, vi, ci, zI_eq, nI_add, hc]
      rw [nI_lep (by omega) (by omega), hB.h hi9, (hr i hi9).eq hB]
      refine ⟨fun h => by omega, fun _ => ⟨fun h => next (by rw [h]; rfl), fun h => ⟨fun h1 => next (by rw [all9.mpr h1]; simp), fun h1 => ?_⟩⟩⟩
      have h : nd i = true := by simpa using h
      have h1 : (List.range 9).all (fun j => rcB (kE hg) i j == nd j) = false := by
        rw [Bool.eq_false_iff]
        exact fun z => h1 (all9.mp z)
      have : shN nd hg = 0 := by
        unfold shN
        rw [if_neg hl, if_pos]
        exact List.any_eq_true.mpr ⟨i, List.mem_range.mpr hi9, by rw [h, h1]; rfl⟩
      rw [this] at hK
      exact hK
    · obtain rfl : i = 9 := by omega
      refine hZ (rg_cut [11]) 400 11 _ _ _ ?_; simp only [rg_e_iload_1 (cut := rg_cut [11]) (f := true) d_E_shape_11 rfl 12 rfl, rg_e_bipush (cut := rg_cut [11]) (f := false) d_E_shape_12 rfl 14 rfl (nI 9) rg_kb_9, rg_e_icmp_ge (cut := rg_cut [11]) (f := false) d_E_shape_14 rfl 17 rfl 49 rfl, rg_e_aload_0 (cut := rg_cut [11]) (f := false) d_E_shape_17 rfl 18 rfl, rg_e_geti (P := P_E_shape) (cut := rg_cut [11]) (f := false) d_E_shape_18 rfl 21 rfl 4 2 8 rfl (fun _ => rfl), rg_e_iload_1 (cut := rg_cut [11]) (f := false) d_E_shape_21 rfl 22 rfl, rg_e_cs2 (P := P_E_shape) (cut := rg_cut [11]) (f := false) d_E_shape_22 rfl T_G_holds rfl, rg_e_if_eq (cut := rg_cut [11]) (f := false) d_E_shape_25 rfl 28 rfl 43 rfl, rg_e_aload_0 (cut := rg_cut [11]) (f := false) d_E_shape_28 rfl 29 rfl, rg_e_getr (P := P_E_shape) (cut := rg_cut [11]) (f := false) d_E_shape_29 rfl 32 rfl 4 2 7 12 rfl (fun _ => rfl), rg_e_iload_1 (cut := rg_cut [11]) (f := false) d_E_shape_32 rfl 33 rfl, rg_e_iald (cut := rg_cut [11]) (f := false) d_E_shape_33 rfl 34 rfl 12 9 rfl, rg_e_aload_0 (cut := rg_cut [11]) (f := false) d_E_shape_34 rfl 35 rfl, rg_e_geti (P := P_E_shape) (cut := rg_cut [11]) (f := false) d_E_shape_35 rfl 38 rfl 4 2 8 rfl (fun _ => rfl), rg_e_icmp_eq (cut := rg_cut [11]) (f := false) d_E_shape_38 rfl 41 rfl 43 rfl, rg_e_iconst (cut := rg_cut [11]) (f := false) d_E_shape_41 rfl 42 rfl (nI 0) rg_ki_0, rg_e_iret (cut := rg_cut [11]) (f := false) d_E_shape_42 rfl, rg_e_iinc_1 (cut := rg_cut [11]) (f := false) d_E_shape_43 rfl 46 rfl (nI 1) rg_ki_1, rg_e_goto (cut := rg_cut [11]) (f := false) d_E_shape_46 rfl 11 rfl, rg_e_aload_0 (cut := rg_cut [11]) (f := false) d_E_shape_49 rfl 50 rfl, rg_e_geti (P := P_E_shape) (cut := rg_cut [11]) (f := false) d_E_shape_50 rfl 53 rfl 4 2 10 rfl (fun _ => rfl), rg_e_aload_0 (cut := rg_cut [11]) (f := false) d_E_shape_53 rfl 54 rfl, rg_e_geti (P := P_E_shape) (cut := rg_cut [11]) (f := false) d_E_shape_54 rfl 57 rfl 4 2 8 rfl (fun _ => rfl), rg_e_cs1 (P := P_E_shape) (cut := rg_cut [11]) (f := false) d_E_shape_57 rfl T_J_bitCount rfl, rg_e_icmp_ne (cut := rg_cut [11]) (f := false) d_E_shape_60 rfl 63 rfl 67 rfl, rg_e_iconst (cut := rg_cut [11]) (f := false) d_E_shape_63 rfl 64 rfl (nI 1) rg_ki_1, rg_e_goto (cut := rg_cut [11]) (f := false) d_E_shape_64 rfl 68 rfl, rg_e_iconst (cut := rg_cut [11]) (f := false) d_E_shape_67 rfl 68 rfl (nI 2) rg_ki_2, rg_e_iret (cut := rg_cut [11]) (f := false) d_E_shape_68 rfl, rg_e_cut (cut := rg_cut [11]) 11 rfl, rg_nx_i, rg_nx_v, rg_wd_n, rg_wd_i, rg_wd_l, rg_wd_r, rg_clr_i, rg_clr_l, rg_clr_r, rg_clr_a, rg_clr_n, true_and, and_true, Nat.reduceAdd, Nat.reduceLeDiff, ↓Te_G_holds, ↓Te_J_bitCount, rg_rt_e, rg_fit_ie, rg_fit_ve, rg_fit_1e, rg_fit_0e, rg_fit_be, hc]
      refine ⟨fun _ => ?_, fun h => absurd (nI_le hi9 (by omega)) h⟩
      rw [bcI_bs hB, nI_eqp (by omega) (by omega)]
      have hsh : shN nd hg = if (esT hg 81).length = cnF nd 9 then 1 else 2 := by
        unfold shN
        rw [if_neg hl, if_neg]
        rw [List.any_eq_true]
        rintro ⟨b, hb, h⟩
        rw [hno b (List.mem_range.mp hb)] at h
        cases h
      rw [hsh] at hK
      refine ⟨fun h => ?_, fun h => ?_⟩
      · rw [if_neg h] at hK; exact hK
      · rw [if_pos (Classical.not_not.mp h)] at hK; exact hK
  refine hZ (rg_cut [11]) 400 0 _ _ _ ?_; simp only [rg_e_aload_0 (cut := rg_cut [11]) (f := true) d_E_shape_0 rfl 1 rfl, rg_e_geti (P := P_E_shape) (cut := rg_cut [11]) (f := false) d_E_shape_1 rfl 4 rfl 4 2 10 rfl (fun _ => rfl), rg_e_if_ne (cut := rg_cut [11]) (f := false) d_E_shape_4 rfl 7 rfl 9 rfl, rg_e_iconst (cut := rg_cut [11]) (f := false) d_E_shape_7 rfl 8 rfl (nI 0) rg_ki_0, rg_e_iret (cut := rg_cut [11]) (f := false) d_E_shape_8 rfl, rg_e_iconst (cut := rg_cut [11]) (f := false) d_E_shape_9 rfl 10 rfl (nI 0) rg_ki_0, rg_e_istore_1 (cut := rg_cut [11]) (f := false) d_E_shape_10 rfl 11 rfl, rg_e_cut (cut := rg_cut [11]) 11 rfl, rg_nx_i, rg_nx_v, rg_wd_n, rg_wd_i, rg_wd_l, rg_wd_r, rg_clr_i, rg_clr_l, rg_clr_r, rg_clr_a, rg_clr_n, true_and, and_true, Nat.reduceAdd, Nat.reduceLeDiff, ↓Te_G_holds, ↓Te_J_bitCount, rg_rt_e, rg_fit_ie, rg_fit_ve, rg_fit_1e, rg_fit_0e, rg_fit_be, hc]
  rw [nI_eq0 (by omega)]
  refine ⟨fun h => loop 0 ⟨by omega, h, fun b hb => absurd hb (by omega)⟩, fun h => ?_⟩
  have : shN nd hg = 0 := by unfold shN; rw [if_pos (Classical.not_not.mp h)]
  rw [this] at hK
  exact hK
/-- a way from where the later edge begins to where the earlier one ends, not by them -/
noncomputable def pbN (hg : Nat → Nat → Nat) (fe te fl tl : Nat) : Bool := (List.range 9).any (fun i => (kE hg fl i && !decide (i = tl)) && (List.range 9).any (fun k => (decide (k = i) || rcB (kE hg) i k) && (kE hg k te && !decide (k = fe))))
noncomputable def pbE (hg : Nat → Nat → Nat) (e l : Nat) : Bool := pbN hg ((esT hg 81).getD e 0 / 9) ((esT hg 81).getD e 0 % 9) ((esT hg 81).getD l 0 / 9) ((esT hg 81).getD l 0 % 9)
theorem esT_lt {hg : Nat → Nat → Nat} {t k : Nat} (h : k < (esT hg t).length) : (esT hg t).getD k 0 < t ∧ kp hg ((esT hg t).getD k 0) = true := by
  have hm : (esT hg t).getD k 0 ∈ esT hg t := by
    rw [List.getD_eq_getElem?_getD, List.getElem?_eq_getElem h]
    exact List.getElem_mem h
  obtain ⟨h1, h2⟩ := List.mem_filter.mp hm
  exact ⟨List.mem_range.mp h1, h2⟩
/-- the edges and the ways, as Edges holds them -/
def GrE (hg : Nat → Nat → Nat) (w : rg_W) : Prop := GE hg 81 w ∧ (∀ a, a < 9 → BS (w.1 12 a) (rcB (kE hg) a)) ∧ ∀ i, hg i i = 0
theorem GrW.e {nd : Nat → Bool} {hg : Nat → Nat → Nat} {w : rg_W} (h : GrW nd hg w) (h0 : ∀ i, hg i i = 0) : GrE hg w := ⟨h.2.2.1, h.2.2.2, h0⟩
-- E.isPassedBy
def P_E_isPassedBy : rg_P := (rg_F_E, [(134, 2, 0, T_G_holds)], [], [], [], [], 0)
def T_E_isPassedBy : rg_T := fun as w K => match as with
  | [.ref 4, .int ee, .int ll] => ∃ hg e l, GrE hg w ∧ ee = nI e ∧ ll = nI l ∧ e < (esT hg 81).length ∧ l < (esT hg 81).length ∧ K (some (.int (zI (pbE hg e l)))) w
  | _ => False
theorem Te_E_isPassedBy (ee : Int32) (ll : Int32) (w : rg_W) (K : Option Value → rg_W → Prop) : T_E_isPassedBy [.ref 4, .int ee, .int ll] w K = (∃ hg e l, GrE hg w ∧ ee = nI e ∧ ll = nI l ∧ e < (esT hg 81).length ∧ l < (esT hg 81).length ∧ K (some (.int (zI (pbE hg e l)))) w) := rfl
theorem r_E_isPassedBy : ∀ as w K, T_E_isPassedBy as w K → ∃ r, as = .ref 4 :: r := by
  intro as w K h
  unfold T_E_isPassedBy at h
  split at h
  · exact ⟨_, rfl⟩
  · exact h.elim
theorem G_E_isPassedBy (l : Launch) : rg_Good l y_E_isPassedBy c_E_isPassedBy 6 (some .boolean) 1 T_E_isPassedBy := by
  refine rg_good_of (P := P_E_isPassedBy) (by decide) (rg_pok rg_F_E_ok (rg_cons (cw_E_67 (G_G_holds l) (by decide)) rg_nil)) ?_
  intro as w K Z hT hZ
  unfold T_E_isPassedBy at hT
  split at hT
  rotate_left
  · exact hT.elim
  rename_i ee ll
  refine ⟨Nat.le_of_ble_eq_true rfl, ?_⟩
  show Z 0 [.ref 4, .int ee, .int ll, .null, .null, .null] [] w 0
  obtain ⟨hg, e, l', ⟨hG, hr, h0⟩, rfl, rfl, he, hl, hK⟩ := hT
  have hlen := esT_len h0 81 (by omega)
  obtain ⟨ge1, ge2, -⟩ := hG.2.1 e he
  obtain ⟨gl1, gl2, -⟩ := hG.2.1 l' hl
  obtain ⟨te, -⟩ := esT_lt he
  obtain ⟨tl, -⟩ := esT_lt hl
  have ce : (nI e).toNatClampNeg = e := nI_clamp (by omega)
  have cl : (nI l').toNatClampNeg = l' := nI_clamp (by omega)
  have ve : vp_in (nI e) 72 := vp_in_nI (by omega) (by omega)
  have vl : vp_in (nI l') 72 := vp_in_nI (by omega) (by omega)
  unfold pbE at hK
  generalize (esT hg 81).getD e 0 = x at *
  generalize (esT hg 81).getD l' 0 = y at *
  have v1 : vp_in (nI (x / 9)) 9 := vp_in_nI (by omega) (by omega)
  have v2 : vp_in (nI (x % 9)) 9 := vp_in_nI (by omega) (by omega)
  have v3 : vp_in (nI (y / 9)) 9 := vp_in_nI (by omega) (by omega)
  have v4 : vp_in (nI (y % 9)) 9 := vp_in_nI (by omega) (by omega)
  have c1 : (nI (x / 9)).toNatClampNeg = x / 9 := nI_clamp (by omega)
  have c2 : (nI (x % 9)).toNatClampNeg = x % 9 := nI_clamp (by omega)
  have c3 : (nI (y / 9)).toNatClampNeg = y / 9 := nI_clamp (by omega)
  have c4 : (nI (y % 9)).toNatClampNeg = y % 9 := nI_clamp (by omega)
  have hS : BS (w.1 10 (y / 9) &&& ((nI 1 <<< (nI (y % 9) &&& 31)) ^^^ (-1))) (fun i => kE hg (y / 9) i && !decide (i = y % 9)) :=
    ((hG.2.2.1 (y / 9) (by omega)).rem (by omega)).cg fun i hi => by rw [decide_eq_true (by omega)]; rfl
  have hN : BS (w.1 11 (x % 9) &&& ((nI 1 <<< (nI (x / 9) &&& 31)) ^^^ (-1))) (fun k => kE hg k (x % 9) && !decide (k = x / 9)) :=
    ((hG.2.2.2 (x % 9) (by omega)).rem (by omega)).cg fun i hi => by rw [decide_eq_true (by omega)]; rfl
  have loop : ∀ i, (i ≤ 9 ∧ ∀ b, b < i → ((kE hg (y / 9) b && !decide (b = y % 9)) && (List.range 9).any (fun k => (decide (k = b) || rcB (kE hg) b k) && (kE hg k (x % 9) && !decide (k = x / 9)))) = false) → Z 50 [.ref 4, .int (nI e), .int (nI l'), .int (w.1 10 (y / 9) &&& ((nI 1 <<< (nI (y % 9) &&& 31)) ^^^ (-1))), .int (w.1 11 (x % 9) &&& ((nI 1 <<< (nI (x / 9) &&& 31)) ^^^ (-1))), .int (nI i)] [] w 0 := by
    refine rg_lp1 _ _ (fun i => 9 - i) ?_
    intro i ⟨hi, hno⟩ ih
    rcases Nat.lt_or_ge i 9 with hi9 | hi9
    · have vi : vp_in (nI i) 9 := vp_in_nI hi9 (by omega)
      have ci : (nI i).toNatClampNeg = i := nI_clamp (by omega)
      have next : ((kE hg (y / 9) i && !decide (i = y % 9)) && (List.range 9).any (fun k => (decide (k = i) || rcB (kE hg) i k) && (kE hg k (x % 9) && !decide (k = x / 9)))) = false → Z 50 [.ref 4, .int (nI e), .int (nI l'), .int (w.1 10 (y / 9) &&& ((nI 1 <<< (nI (y % 9) &&& 31)) ^^^ (-1))), .int (w.1 11 (x % 9) &&& ((nI 1 <<< (nI (x / 9) &&& 31)) ^^^ (-1))), .int (nI (i + 1))] [] w 0 := fun h =>
        ih (i + 1) ⟨by omega, fun b hb => by
          by_cases hbi : b = i
          · subst hbi; exact h
          · exact hno b (by omega)⟩ (by omega)
      refine hZ (rg_cut [50]) 400 50 _ _ _ ?_; simp only [rg_e_iload_5 (cut := rg_cut [50]) (f := true) d_E_isPassedBy_50 rfl 52 rfl, rg_e_bipush (cut := rg_cut [50]) (f := false) d_E_isPassedBy_52 rfl 54 rfl (nI 9) rg_kb_9, rg_e_icmp_ge (cut := rg_cut [50]) (f := false) d_E_isPassedBy_54 rfl 57 rfl 92 rfl, rg_e_iload_3 (cut := rg_cut [50]) (f := false) d_E_isPassedBy_57 rfl 58 rfl, rg_e_iload_5 (cut := rg_cut [50]) (f := false) d_E_isPassedBy_58 rfl 60 rfl, rg_e_cs2 (P := P_E_isPassedBy) (cut := rg_cut [50]) (f := false) d_E_isPassedBy_60 rfl T_G_holds rfl, rg_e_if_eq (cut := rg_cut [50]) (f := false) d_E_isPassedBy_63 rfl 66 rfl 86 rfl, rg_e_iconst (cut := rg_cut [50]) (f := false) d_E_isPassedBy_66 rfl 67 rfl (nI 1) rg_ki_1, rg_e_iload_5 (cut := rg_cut [50]) (f := false) d_E_isPassedBy_67 rfl 69 rfl, rg_e_ishl (cut := rg_cut [50]) (f := false) d_E_isPassedBy_69 rfl 70 rfl, rg_e_aload_0 (cut := rg_cut [50]) (f := false) d_E_isPassedBy_70 rfl 71 rfl, rg_e_getr (P := P_E_isPassedBy) (cut := rg_cut [50]) (f := false) d_E_isPassedBy_71 rfl 74 rfl 4 2 7 12 rfl (fun _ => rfl), rg_e_iload_5 (cut := rg_cut [50]) (f := false) d_E_isPassedBy_74 rfl 76 rfl, rg_e_iald (cut := rg_cut [50]) (f := false) d_E_isPassedBy_76 rfl 77 rfl 12 9 rfl, rg_e_ior (cut := rg_cut [50]) (f := false) d_E_isPassedBy_77 rfl 78 rfl, rg_e_iload_4 (cut := rg_cut [50]) (f := false) d_E_isPassedBy_78 rfl 80 rfl, rg_e_iand (cut := rg_cut [50]) (f := false) d_E_isPassedBy_80 rfl 81 rfl, rg_e_if_eq (cut := rg_cut [50]) (f := false) d_E_isPassedBy_81 rfl 84 rfl 86 rfl, rg_e_iconst (cut := rg_cut [50]) (f := false) d_E_isPassedBy_84 rfl 85 rfl (nI 1) rg_ki_1, rg_e_iret (cut := rg_cut [50]) (f := false) d_E_isPassedBy_85 rfl, rg_e_iinc_5 (cut := rg_cut [50]) (f := false) d_E_isPassedBy_86 rfl 89 rfl (nI 1) rg_ki_1, rg_e_goto (cut := rg_cut [50]) (f := false) d_E_isPassedBy_89 rfl 50 rfl, rg_e_iconst (cut := rg_cut [50]) (f := false) d_E_isPassedBy_92 rfl 93 rfl (nI 0) rg_ki_0, rg_e_iret (cut := rg_cut [50]) (f := false) d_E_isPassedBy_93 rfl, rg_e_cut (cut := rg_cut [50]) 50 rfl, rg_nx_i, rg_nx_v, rg_wd_n, rg_wd_i, rg_wd_l, rg_wd_r, rg_clr_i, rg_clr_l, rg_clr_r, rg_clr_a, rg_clr_n, true_and, and_true, Nat.reduceAdd, Nat.reduceLeDiff, ↓Te_G_holds, rg_rt_e, rg_fit_ie, rg_fit_ve, rg_fit_1e, rg_fit_0e, rg_fit_be, vi, ci, zI_eq, nI_add]
      rw [nI_lep (by omega) (by omega), hS.h hi9, (((BS.one hi9).or (hr i hi9)).and hN).eq0]
      refine ⟨fun h => by omega, fun _ => ⟨fun h => next (by rw [h, Bool.false_and]), fun h => ⟨fun h1 => next ?_, fun h1 => ?_⟩⟩⟩
      · rw [List.any_eq_false.mpr (fun k hk => by rw [h1 k (List.mem_range.mp hk)]; decide), Bool.and_false]
      · have h : (kE hg (y / 9) i && !decide (i = y % 9)) = true := by
          rw [Bool.eq_false_iff] at h
          exact Classical.not_not.mp h
        have h2 : (List.range 9).any (fun k => (decide (k = i) || rcB (kE hg) i k) && (kE hg k (x % 9) && !decide (k = x / 9))) = true := by
          rw [← Bool.not_eq_false]
          intro z
          refine h1 (fun k hk => ?_)
          have := List.any_eq_false.mp z k (List.mem_range.mpr hk)
          rw [Bool.eq_false_iff]
          exact this
        have : pbN hg (x / 9) (x % 9) (y / 9) (y % 9) = true := List.any_eq_true.mpr ⟨i, List.mem_range.mpr hi9, by rw [h, h2]; rfl⟩
        rw [this] at hK
        exact hK
    · obtain rfl : i = 9 := by omega
      refine hZ (rg_cut [50]) 400 50 _ _ _ ?_; simp only [rg_e_iload_5 (cut := rg_cut [50]) (f := true) d_E_isPassedBy_50 rfl 52 rfl, rg_e_bipush (cut := rg_cut [50]) (f := false) d_E_isPassedBy_52 rfl 54 rfl (nI 9) rg_kb_9, rg_e_icmp_ge (cut := rg_cut [50]) (f := false) d_E_isPassedBy_54 rfl 57 rfl 92 rfl, rg_e_iload_3 (cut := rg_cut [50]) (f := false) d_E_isPassedBy_57 rfl 58 rfl, rg_e_iload_5 (cut := rg_cut [50]) (f := false) d_E_isPassedBy_58 rfl 60 rfl, rg_e_cs2 (P := P_E_isPassedBy) (cut := rg_cut [50]) (f := false) d_E_isPassedBy_60 rfl T_G_holds rfl, rg_e_if_eq (cut := rg_cut [50]) (f := false) d_E_isPassedBy_63 rfl 66 rfl 86 rfl, rg_e_iconst (cut := rg_cut [50]) (f := false) d_E_isPassedBy_66 rfl 67 rfl (nI 1) rg_ki_1, rg_e_iload_5 (cut := rg_cut [50]) (f := false) d_E_isPassedBy_67 rfl 69 rfl, rg_e_ishl (cut := rg_cut [50]) (f := false) d_E_isPassedBy_69 rfl 70 rfl, rg_e_aload_0 (cut := rg_cut [50]) (f := false) d_E_isPassedBy_70 rfl 71 rfl, rg_e_getr (P := P_E_isPassedBy) (cut := rg_cut [50]) (f := false) d_E_isPassedBy_71 rfl 74 rfl 4 2 7 12 rfl (fun _ => rfl), rg_e_iload_5 (cut := rg_cut [50]) (f := false) d_E_isPassedBy_74 rfl 76 rfl, rg_e_iald (cut := rg_cut [50]) (f := false) d_E_isPassedBy_76 rfl 77 rfl 12 9 rfl, rg_e_ior (cut := rg_cut [50]) (f := false) d_E_isPassedBy_77 rfl 78 rfl, rg_e_iload_4 (cut := rg_cut [50]) (f := false) d_E_isPassedBy_78 rfl 80 rfl, rg_e_iand (cut := rg_cut [50]) (f := false) d_E_isPassedBy_80 rfl 81 rfl, rg_e_if_eq (cut := rg_cut [50]) (f := false) d_E_isPassedBy_81 rfl 84 rfl 86 rfl, rg_e_iconst (cut := rg_cut [50]) (f := false) d_E_isPassedBy_84 rfl 85 rfl (nI 1) rg_ki_1, rg_e_iret (cut := rg_cut [50]) (f := false) d_E_isPassedBy_85 rfl, rg_e_iinc_5 (cut := rg_cut [50]) (f := false) d_E_isPassedBy_86 rfl 89 rfl (nI 1) rg_ki_1, rg_e_goto (cut := rg_cut [50]) (f := false) d_E_isPassedBy_89 rfl 50 rfl, rg_e_iconst (cut := rg_cut [50]) (f := false) d_E_isPassedBy_92 rfl 93 rfl (nI 0) rg_ki_0, rg_e_iret (cut := rg_cut [50]) (f := false) d_E_isPassedBy_93 rfl, rg_e_cut (cut := rg_cut [50]) 50 rfl, rg_nx_i, rg_nx_v, rg_wd_n, rg_wd_i, rg_wd_l, rg_wd_r, rg_clr_i, rg_clr_l, rg_clr_r, rg_clr_a, rg_clr_n, true_and, and_true, Nat.reduceAdd, Nat.reduceLeDiff, ↓Te_G_holds, rg_rt_e, rg_fit_ie, rg_fit_ve, rg_fit_1e, rg_fit_0e, rg_fit_be]
      refine ⟨fun _ => ?_, fun h => absurd (nI_le hi9 (by omega)) h⟩
      have : pbN hg (x / 9) (x % 9) (y / 9) (y % 9) = false := List.any_eq_false.mpr (fun b hb => by rw [hno b (List.mem_range.mp hb)]; decide)
      rw [this] at hK
      exact hK
  refine hZ (rg_cut [50]) 400 0 _ _ _ ?_; simp only [rg_e_aload_0 (cut := rg_cut [50]) (f := true) d_E_isPassedBy_0 rfl 1 rfl, rg_e_getr (P := P_E_isPassedBy) (cut := rg_cut [50]) (f := false) d_E_isPassedBy_1 rfl 4 rfl 4 2 5 10 rfl (fun _ => rfl), rg_e_aload_0 (cut := rg_cut [50]) (f := false) d_E_isPassedBy_4 rfl 5 rfl, rg_e_getr (P := P_E_isPassedBy) (cut := rg_cut [50]) (f := false) d_E_isPassedBy_5 rfl 8 rfl 4 2 1 6 rfl (fun _ => rfl), rg_e_iload_2 (cut := rg_cut [50]) (f := false) d_E_isPassedBy_8 rfl 9 rfl, rg_e_iald (cut := rg_cut [50]) (f := false) d_E_isPassedBy_9 rfl 10 rfl 6 72 rfl, rg_e_iald (cut := rg_cut [50]) (f := false) d_E_isPassedBy_10 rfl 11 rfl 10 9 rfl, rg_e_iconst (cut := rg_cut [50]) (f := false) d_E_isPassedBy_11 rfl 12 rfl (nI 1) rg_ki_1, rg_e_aload_0 (cut := rg_cut [50]) (f := false) d_E_isPassedBy_12 rfl 13 rfl, rg_e_getr (P := P_E_isPassedBy) (cut := rg_cut [50]) (f := false) d_E_isPassedBy_13 rfl 16 rfl 4 2 2 7 rfl (fun _ => rfl), rg_e_iload_2 (cut := rg_cut [50]) (f := false) d_E_isPassedBy_16 rfl 17 rfl, rg_e_iald (cut := rg_cut [50]) (f := false) d_E_isPassedBy_17 rfl 18 rfl 7 72 rfl, rg_e_ishl (cut := rg_cut [50]) (f := false) d_E_isPassedBy_18 rfl 19 rfl, rg_e_iconst (cut := rg_cut [50]) (f := false) d_E_isPassedBy_19 rfl 20 rfl (-1) rg_ki_m1, rg_e_ixor (cut := rg_cut [50]) (f := false) d_E_isPassedBy_20 rfl 21 rfl, rg_e_iand (cut := rg_cut [50]) (f := false) d_E_isPassedBy_21 rfl 22 rfl, rg_e_istore_3 (cut := rg_cut [50]) (f := false) d_E_isPassedBy_22 rfl 23 rfl, rg_e_aload_0 (cut := rg_cut [50]) (f := false) d_E_isPassedBy_23 rfl 24 rfl, rg_e_getr (P := P_E_isPassedBy) (cut := rg_cut [50]) (f := false) d_E_isPassedBy_24 rfl 27 rfl 4 2 6 11 rfl (fun _ => rfl), rg_e_aload_0 (cut := rg_cut [50]) (f := false) d_E_isPassedBy_27 rfl 28 rfl, rg_e_getr (P := P_E_isPassedBy) (cut := rg_cut [50]) (f := false) d_E_isPassedBy_28 rfl 31 rfl 4 2 2 7 rfl (fun _ => rfl), rg_e_iload_1 (cut := rg_cut [50]) (f := false) d_E_isPassedBy_31 rfl 32 rfl, rg_e_iald (cut := rg_cut [50]) (f := false) d_E_isPassedBy_32 rfl 33 rfl 7 72 rfl, rg_e_iald (cut := rg_cut [50]) (f := false) d_E_isPassedBy_33 rfl 34 rfl 11 9 rfl, rg_e_iconst (cut := rg_cut [50]) (f := false) d_E_isPassedBy_34 rfl 35 rfl (nI 1) rg_ki_1, rg_e_aload_0 (cut := rg_cut [50]) (f := false) d_E_isPassedBy_35 rfl 36 rfl, rg_e_getr (P := P_E_isPassedBy) (cut := rg_cut [50]) (f := false) d_E_isPassedBy_36 rfl 39 rfl 4 2 1 6 rfl (fun _ => rfl), rg_e_iload_1 (cut := rg_cut [50]) (f := false) d_E_isPassedBy_39 rfl 40 rfl, rg_e_iald (cut := rg_cut [50]) (f := false) d_E_isPassedBy_40 rfl 41 rfl 6 72 rfl, rg_e_ishl (cut := rg_cut [50]) (f := false) d_E_isPassedBy_41 rfl 42 rfl, rg_e_iconst (cut := rg_cut [50]) (f := false) d_E_isPassedBy_42 rfl 43 rfl (-1) rg_ki_m1, rg_e_ixor (cut := rg_cut [50]) (f := false) d_E_isPassedBy_43 rfl 44 rfl, rg_e_iand (cut := rg_cut [50]) (f := false) d_E_isPassedBy_44 rfl 45 rfl, rg_e_istore_4 (cut := rg_cut [50]) (f := false) d_E_isPassedBy_45 rfl 47 rfl, rg_e_iconst (cut := rg_cut [50]) (f := false) d_E_isPassedBy_47 rfl 48 rfl (nI 0) rg_ki_0, rg_e_istore_5 (cut := rg_cut [50]) (f := false) d_E_isPassedBy_48 rfl 50 rfl, rg_e_cut (cut := rg_cut [50]) 50 rfl, rg_nx_i, rg_nx_v, rg_wd_n, rg_wd_i, rg_wd_l, rg_wd_r, rg_clr_i, rg_clr_l, rg_clr_r, rg_clr_a, rg_clr_n, true_and, and_true, Nat.reduceAdd, Nat.reduceLeDiff, ↓Te_G_holds, rg_rt_e, rg_fit_ie, rg_fit_ve, rg_fit_1e, rg_fit_0e, rg_fit_be, ce, cl, ve, vl, ge1, ge2, gl1, gl2, v1, v2, v3, v4, c1, c2, c3, c4]
  exact loop 0 ⟨by omega, fun b hb => absurd hb (by omega)⟩
end
section
/-! Walks: steps of the search -/
def eN (hg : Nat → Nat → Nat) : Nat := (esT hg 81).length
def sr (hg : Nat → Nat → Nat) (e : Nat) : Nat := (esT hg 81).getD e 0 / 9
def ds (hg : Nat → Nat → Nat) (e : Nat) : Nat := (esT hg 81).getD e 0 % 9
theorem eN_le {hg : Nat → Nat → Nat} (h0 : ∀ i, hg i i = 0) : eN hg ≤ 72 := by
  have := esT_len h0 81 (by omega)
  unfold eN
  omega
theorem sr_lt {hg : Nat → Nat → Nat} {e : Nat} (h : e < eN hg) : sr hg e < 9 ∧ ds hg e < 9 := by
  have := (esT_lt h).1
  unfold sr ds
  omega
theorem GrE.at {hg : Nat → Nat → Nat} {w : rg_W} (h : GrE hg w) {e : Nat} (he : e < eN hg) : w.1 6 e = nI (sr hg e) ∧ w.1 7 e = nI (ds hg e) ∧ w.1 8 e = nI (hg (sr hg e) (ds hg e)) := h.1.2.1 e he
theorem GrE.fr {hg : Nat → Nat → Nat} {w w' : rg_W} (h : GrE hg w) (hf : rg_fr [13, 14, 15, 16, 17] w w') : GrE hg w' :=
  ⟨h.1.fr (by rw [hf.1 4 (by decide)]) (hf.1 6 (by decide)) (hf.1 7 (by decide)) (hf.1 8 (by decide)) (hf.1 10 (by decide)) (hf.1 11 (by decide)), fun a ha => by rw [hf.1 12 (by decide)]; exact h.2.1 a ha, h.2.2⟩
theorem FoW.fr {hg : Nat → Nat → Nat} {w w' : rg_W} (h : FoW hg w) (hf : rg_fr [13, 14, 15, 16, 17] w w') : FoW hg w' := fun i hi => by rw [hf.1 9 (by decide)]; exact h i hi
theorem gD_mem {t : List Nat} {i : Nat} (h : i < t.length) : t.getD i 0 ∈ t := by
  rw [List.getD_eq_getElem?_getD, List.getElem?_eq_getElem h]
  exact List.getElem_mem h
theorem all_ix {t : List Nat} {p : Nat → Bool} : t.all p = true ↔ ∀ i, i < t.length → p (t.getD i 0) = true := by
  rw [List.all_eq_true]
  constructor
  · exact fun h i hi => h _ (gD_mem hi)
  · intro h x hx
    obtain ⟨i, hi⟩ := List.getElem?_of_mem hx
    have hl := (List.getElem?_eq_some_iff.mp hi).1
    have := h i hl
    rwa [List.getD_eq_getElem?_getD, hi] at this
theorem all_no {t : List Nat} {p : Nat → Bool} {i : Nat} (hi : i < t.length) (h : p (t.getD i 0) = false) : t.all p = false := by
  rw [Bool.eq_false_iff]
  intro z
  have := all_ix.mp z i hi
  rw [h] at this
  cases this
/-- the trail -/
def Tr (hg : Nat → Nat → Nat) (t : List Nat) (w : rg_W) : Prop := w.1 13 6 = nI t.length ∧ t.length ≤ 40 ∧ (∀ f ∈ t, f < eN hg) ∧ ∀ i, i < t.length → w.1 16 i = nI (t.getD i 0)
-- W.stepOn
def P_W_stepOn : rg_P := (rg_F_W, [], [], [], [], [], 0)
def T_W_stepOn : rg_T := fun as w K => match as with
  | [.ref 13, .int e] => ∃ hg e' m, GrE hg w ∧ FoW hg w ∧ e = nI e' ∧ e' < eN hg ∧ w.1 13 6 = nI m ∧ m < 40 ∧ K none (rg_up (rg_up (rg_up w 16 m (nI e')) 17 m (nI (esT hg (9 * ds hg e')).length)) 13 6 (nI (m + 1)))
  | _ => False
theorem Te_W_stepOn (e : Int32) (w : rg_W) (K : Option Value → rg_W → Prop) : T_W_stepOn [.ref 13, .int e] w K = (∃ hg e' m, GrE hg w ∧ FoW hg w ∧ e = nI e' ∧ e' < eN hg ∧ w.1 13 6 = nI m ∧ m < 40 ∧ K none (rg_up (rg_up (rg_up w 16 m (nI e')) 17 m (nI (esT hg (9 * ds hg e')).length)) 13 6 (nI (m + 1)))) := rfl
theorem r_W_stepOn : ∀ as w K, T_W_stepOn as w K → ∃ r, as = .ref 13 :: r := by
  intro as w K h
  unfold T_W_stepOn at h
  split at h
  · exact ⟨_, rfl⟩
  · exact h.elim
theorem G_W_stepOn (l : Launch) : rg_Good l y_W_stepOn c_W_stepOn 2 none 0 T_W_stepOn := by
  refine rg_good_of (P := P_W_stepOn) (by decide) (rg_pok rg_F_W_ok rg_nil) ?_
  intro as w K Z hT hZ
  unfold T_W_stepOn at hT
  split at hT
  rotate_left
  · exact hT.elim
  rename_i e
  refine ⟨Nat.le_of_ble_eq_true rfl, ?_⟩
  show Z 0 [.ref 13, .int e] [] w 0
  obtain ⟨hg, e', m, hG, hF, rfl, he, hm, hm40, hK⟩ := hT
  have h72 := eN_le hG.2.2
  have hl := sr_lt he
  have vm : vp_in (nI m) 40 := vp_in_nI hm40 (by omega)
  have cm : (nI m).toNatClampNeg = m := nI_clamp (by omega)
  have ve : vp_in (nI e') 72 := vp_in_nI (by omega) (by omega)
  have ce : (nI e').toNatClampNeg = e' := nI_clamp (by omega)
  have vd : vp_in (nI (ds hg e')) 10 := vp_in_nI (by omega) (by omega)
  have cd : (nI (ds hg e')).toNatClampNeg = ds hg e' := nI_clamp (by omega)
  have e7 := (hG.at he).2.1
  have e9 := hF (ds hg e') (by omega)
  refine hZ (rg_cut []) 400 0 _ _ _ ?_; simp only [rg_e_aload_0 (cut := rg_cut []) (f := true) d_W_stepOn_0 rfl 1 rfl, rg_e_getr (P := P_W_stepOn) (cut := rg_cut []) (f := false) d_W_stepOn_1 rfl 4 rfl 13 3 4 16 rfl (fun _ => rfl), rg_e_aload_0 (cut := rg_cut []) (f := false) d_W_stepOn_4 rfl 5 rfl, rg_e_geti (P := P_W_stepOn) (cut := rg_cut []) (f := false) d_W_stepOn_5 rfl 8 rfl 13 3 6 rfl (fun _ => rfl), rg_e_iload_1 (cut := rg_cut []) (f := false) d_W_stepOn_8 rfl 9 rfl, rg_e_iast (cut := rg_cut []) (f := false) d_W_stepOn_9 rfl 10 rfl 16 40 rfl, rg_e_aload_0 (cut := rg_cut []) (f := false) d_W_stepOn_10 rfl 11 rfl, rg_e_getr (P := P_W_stepOn) (cut := rg_cut []) (f := false) d_W_stepOn_11 rfl 14 rfl 13 3 5 17 rfl (fun _ => rfl), rg_e_aload_0 (cut := rg_cut []) (f := false) d_W_stepOn_14 rfl 15 rfl, rg_e_geti (P := P_W_stepOn) (cut := rg_cut []) (f := false) d_W_stepOn_15 rfl 18 rfl 13 3 6 rfl (fun _ => rfl), rg_e_aload_0 (cut := rg_cut []) (f := false) d_W_stepOn_18 rfl 19 rfl, rg_e_getr (P := P_W_stepOn) (cut := rg_cut []) (f := false) d_W_stepOn_19 rfl 22 rfl 13 3 0 4 rfl (fun _ => rfl), rg_e_getr (P := P_W_stepOn) (cut := rg_cut []) (f := false) d_W_stepOn_22 rfl 25 rfl 4 2 4 9 rfl (fun _ => rfl), rg_e_aload_0 (cut := rg_cut []) (f := false) d_W_stepOn_25 rfl 26 rfl, rg_e_getr (P := P_W_stepOn) (cut := rg_cut []) (f := false) d_W_stepOn_26 rfl 29 rfl 13 3 0 4 rfl (fun _ => rfl), rg_e_getr (P := P_W_stepOn) (cut := rg_cut []) (f := false) d_W_stepOn_29 rfl 32 rfl 4 2 2 7 rfl (fun _ => rfl), rg_e_iload_1 (cut := rg_cut []) (f := false) d_W_stepOn_32 rfl 33 rfl, rg_e_iald (cut := rg_cut []) (f := false) d_W_stepOn_33 rfl 34 rfl 7 72 rfl, rg_e_iald (cut := rg_cut []) (f := false) d_W_stepOn_34 rfl 35 rfl 9 10 rfl, rg_e_iast (cut := rg_cut []) (f := false) d_W_stepOn_35 rfl 36 rfl 17 40 rfl, rg_e_aload_0 (cut := rg_cut []) (f := false) d_W_stepOn_36 rfl 37 rfl, rg_e_dupr (cut := rg_cut []) (f := false) d_W_stepOn_37 rfl 38 rfl, rg_e_geti (P := P_W_stepOn) (cut := rg_cut []) (f := false) d_W_stepOn_38 rfl 41 rfl 13 3 6 rfl (fun _ => rfl), rg_e_iconst (cut := rg_cut []) (f := false) d_W_stepOn_41 rfl 42 rfl (nI 1) rg_ki_1, rg_e_iadd (cut := rg_cut []) (f := false) d_W_stepOn_42 rfl 43 rfl, rg_e_put (P := P_W_stepOn) (cut := rg_cut []) (f := false) d_W_stepOn_43 rfl 46 rfl 13 3 6 rfl rfl, rg_e_vret (cut := rg_cut []) (f := false) d_W_stepOn_46 rfl, rg_nx_i, rg_nx_v, rg_wd_n, rg_wd_i, rg_wd_l, rg_wd_r, rg_clr_i, rg_clr_l, rg_clr_r, rg_clr_a, rg_clr_n, true_and, and_true, Nat.reduceAdd, Nat.reduceLeDiff, rg_rt_e, rg_fit_ie, rg_fit_ve, rg_fit_1e, rg_fit_0e, rg_fit_be, vm, cm, ve, ce, vd, cd, e7, e9, hm, nI_add, rg_up_n, ne_eq, not_false_eq_true, Nat.reduceEqDiff]
  exact hK
-- W.staysSafeBehind
def P_W_staysSafeBehind : rg_P := (rg_F_W, [(137, 3, 0, T_E_isPassedBy)], [], [], [], [], 0)
def T_W_staysSafeBehind : rg_T := fun as w K => match as with
  | [.ref 13, .int e] => ∃ hg e' t, GrE hg w ∧ Tr hg t w ∧ e = nI e' ∧ e' < eN hg ∧ K (some (.int (zI (t.all (fun f => !pbE hg f e'))))) w
  | _ => False
theorem Te_W_staysSafeBehind (e : Int32) (w : rg_W) (K : Option Value → rg_W → Prop) : T_W_staysSafeBehind [.ref 13, .int e] w K = (∃ hg e' t, GrE hg w ∧ Tr hg t w ∧ e = nI e' ∧ e' < eN hg ∧ K (some (.int (zI (t.all (fun f => !pbE hg f e'))))) w) := rfl
theorem r_W_staysSafeBehind : ∀ as w K, T_W_staysSafeBehind as w K → ∃ r, as = .ref 13 :: r := by
  intro as w K h
  unfold T_W_staysSafeBehind at h
  split at h
  · exact ⟨_, rfl⟩
  · exact h.elim
theorem G_W_staysSafeBehind (l : Launch) : rg_Good l y_W_staysSafeBehind c_W_staysSafeBehind 3 (some .boolean) 2 T_W_staysSafeBehind := by
  refine rg_good_of (P := P_W_staysSafeBehind) (by decide) (rg_pok rg_F_W_ok (rg_cons (cw_W_68 (G_E_isPassedBy l) (by decide) r_E_isPassedBy) rg_nil)) ?_
  intro as w K Z hT hZ
  unfold T_W_staysSafeBehind at hT
  split at hT
  rotate_left
  · exact hT.elim
  rename_i e
  refine ⟨Nat.le_of_ble_eq_true rfl, ?_⟩
  show Z 0 [.ref 13, .int e, .null] [] w 0
  obtain ⟨hg, e', t, hG, hT, rfl, he, hK⟩ := hT
  obtain ⟨h1, h2, h3, h4⟩ := id hT
  have loop : ∀ i, (i ≤ t.length ∧ ∀ b, b < i → (!pbE hg (t.getD b 0) e') = true) → Z 2 [.ref 13, .int (nI e'), .int (nI i)] [] w 0 := by
    refine rg_lp1 _ _ (fun i => t.length - i) ?_
    intro i ⟨hi, hno⟩ ih
    rcases Nat.lt_or_ge i t.length with hi9 | hi9
    · have vi : vp_in (nI i) 40 := vp_in_nI (by omega) (by omega)
      have ci : (nI i).toNatClampNeg = i := nI_clamp (by omega)
      have et := h4 i hi9
      refine hZ (rg_cut [2]) 400 2 _ _ _ ?_; simp only [rg_e_iload_2 (cut := rg_cut [2]) (f := true) d_W_staysSafeBehind_2 rfl 3 rfl, rg_e_aload_0 (cut := rg_cut [2]) (f := false) d_W_staysSafeBehind_3 rfl 4 rfl, rg_e_geti (P := P_W_staysSafeBehind) (cut := rg_cut [2]) (f := false) d_W_staysSafeBehind_4 rfl 7 rfl 13 3 6 rfl (fun _ => rfl), rg_e_icmp_ge (cut := rg_cut [2]) (f := false) d_W_staysSafeBehind_7 rfl 10 rfl 35 rfl, rg_e_aload_0 (cut := rg_cut [2]) (f := false) d_W_staysSafeBehind_10 rfl 11 rfl, rg_e_getr (P := P_W_staysSafeBehind) (cut := rg_cut [2]) (f := false) d_W_staysSafeBehind_11 rfl 14 rfl 13 3 0 4 rfl (fun _ => rfl), rg_e_aload_0 (cut := rg_cut [2]) (f := false) d_W_staysSafeBehind_14 rfl 15 rfl, rg_e_getr (P := P_W_staysSafeBehind) (cut := rg_cut [2]) (f := false) d_W_staysSafeBehind_15 rfl 18 rfl 13 3 4 16 rfl (fun _ => rfl), rg_e_iload_2 (cut := rg_cut [2]) (f := false) d_W_staysSafeBehind_18 rfl 19 rfl, rg_e_iald (cut := rg_cut [2]) (f := false) d_W_staysSafeBehind_19 rfl 20 rfl 16 40 rfl, rg_e_iload_1 (cut := rg_cut [2]) (f := false) d_W_staysSafeBehind_20 rfl 21 rfl, rg_e_cv3 (P := P_W_staysSafeBehind) (cut := rg_cut [2]) (f := false) d_W_staysSafeBehind_21 rfl T_E_isPassedBy rfl, rg_e_if_eq (cut := rg_cut [2]) (f := false) d_W_staysSafeBehind_24 rfl 27 rfl 29 rfl, rg_e_iconst (cut := rg_cut [2]) (f := false) d_W_staysSafeBehind_27 rfl 28 rfl (nI 0) rg_ki_0, rg_e_iret (cut := rg_cut [2]) (f := false) d_W_staysSafeBehind_28 rfl, rg_e_iinc_2 (cut := rg_cut [2]) (f := false) d_W_staysSafeBehind_29 rfl 32 rfl (nI 1) rg_ki_1, rg_e_goto (cut := rg_cut [2]) (f := false) d_W_staysSafeBehind_32 rfl 2 rfl, rg_e_iconst (cut := rg_cut [2]) (f := false) d_W_staysSafeBehind_35 rfl 36 rfl (nI 1) rg_ki_1, rg_e_iret (cut := rg_cut [2]) (f := false) d_W_staysSafeBehind_36 rfl, rg_e_cut (cut := rg_cut [2]) 2 rfl, rg_nx_i, rg_nx_v, rg_wd_n, rg_wd_i, rg_wd_l, rg_wd_r, rg_clr_i, rg_clr_l, rg_clr_r, rg_clr_a, rg_clr_n, true_and, and_true, Nat.reduceAdd, Nat.reduceLeDiff, ↓Te_E_isPassedBy, rg_rt_e, rg_fit_ie, rg_fit_ve, rg_fit_1e, rg_fit_0e, rg_fit_be, vi, ci, et, h1, zI_eq, nI_add]
      refine ⟨fun h => absurd h (nI_ge hi9 (by omega)), fun _ => ⟨hg, t.getD i 0, e', hG, rfl, rfl, h3 _ (gD_mem hi9), he, fun h => ?_, fun h => ?_⟩⟩
      · refine ih (i + 1) ⟨by omega, fun b hb => ?_⟩ (by omega)
        by_cases hbi : b = i
        · subst hbi; rw [h]; rfl
        · exact hno b (by omega)
      · have h : pbE hg (t.getD i 0) e' = true := by simpa using h
        rw [all_no (p := fun f => !pbE hg f e') hi9 (by rw [h]; rfl)] at hK
        exact hK
    · obtain rfl : i = t.length := by omega
      refine hZ (rg_cut [2]) 400 2 _ _ _ ?_; simp only [rg_e_iload_2 (cut := rg_cut [2]) (f := true) d_W_staysSafeBehind_2 rfl 3 rfl, rg_e_aload_0 (cut := rg_cut [2]) (f := false) d_W_staysSafeBehind_3 rfl 4 rfl, rg_e_geti (P := P_W_staysSafeBehind) (cut := rg_cut [2]) (f := false) d_W_staysSafeBehind_4 rfl 7 rfl 13 3 6 rfl (fun _ => rfl), rg_e_icmp_ge (cut := rg_cut [2]) (f := false) d_W_staysSafeBehind_7 rfl 10 rfl 35 rfl, rg_e_aload_0 (cut := rg_cut [2]) (f := false) d_W_staysSafeBehind_10 rfl 11 rfl, rg_e_getr (P := P_W_staysSafeBehind) (cut := rg_cut [2]) (f := false) d_W_staysSafeBehind_11 rfl 14 rfl 13 3 0 4 rfl (fun _ => rfl), rg_e_aload_0 (cut := rg_cut [2]) (f := false) d_W_staysSafeBehind_14 rfl 15 rfl, rg_e_getr (P := P_W_staysSafeBehind) (cut := rg_cut [2]) (f := false) d_W_staysSafeBehind_15 rfl 18 rfl 13 3 4 16 rfl (fun _ => rfl), rg_e_iload_2 (cut := rg_cut [2]) (f := false) d_W_staysSafeBehind_18 rfl 19 rfl, rg_e_iald (cut := rg_cut [2]) (f := false) d_W_staysSafeBehind_19 rfl 20 rfl 16 40 rfl, rg_e_iload_1 (cut := rg_cut [2]) (f := false) d_W_staysSafeBehind_20 rfl 21 rfl, rg_e_cv3 (P := P_W_staysSafeBehind) (cut := rg_cut [2]) (f := false) d_W_staysSafeBehind_21 rfl T_E_isPassedBy rfl, rg_e_if_eq (cut := rg_cut [2]) (f := false) d_W_staysSafeBehind_24 rfl 27 rfl 29 rfl, rg_e_iconst (cut := rg_cut [2]) (f := false) d_W_staysSafeBehind_27 rfl 28 rfl (nI 0) rg_ki_0, rg_e_iret (cut := rg_cut [2]) (f := false) d_W_staysSafeBehind_28 rfl, rg_e_iinc_2 (cut := rg_cut [2]) (f := false) d_W_staysSafeBehind_29 rfl 32 rfl (nI 1) rg_ki_1, rg_e_goto (cut := rg_cut [2]) (f := false) d_W_staysSafeBehind_32 rfl 2 rfl, rg_e_iconst (cut := rg_cut [2]) (f := false) d_W_staysSafeBehind_35 rfl 36 rfl (nI 1) rg_ki_1, rg_e_iret (cut := rg_cut [2]) (f := false) d_W_staysSafeBehind_36 rfl, rg_e_cut (cut := rg_cut [2]) 2 rfl, rg_nx_i, rg_nx_v, rg_wd_n, rg_wd_i, rg_wd_l, rg_wd_r, rg_clr_i, rg_clr_l, rg_clr_r, rg_clr_a, rg_clr_n, true_and, and_true, Nat.reduceAdd, Nat.reduceLeDiff, ↓Te_E_isPassedBy, rg_rt_e, rg_fit_ie, rg_fit_ve, rg_fit_1e, rg_fit_0e, rg_fit_be, h1]
      refine ⟨fun _ => ?_, fun h => absurd (nI_le (Nat.le_refl _) (by omega)) h⟩
      rw [all_ix.mpr hno] at hK
      exact hK
  refine hZ (rg_cut [2]) 400 0 _ _ _ ?_; simp only [rg_e_iconst (cut := rg_cut [2]) (f := true) d_W_staysSafeBehind_0 rfl 1 rfl (nI 0) rg_ki_0, rg_e_istore_2 (cut := rg_cut [2]) (f := false) d_W_staysSafeBehind_1 rfl 2 rfl, rg_e_cut (cut := rg_cut [2]) 2 rfl, rg_nx_i, rg_nx_v, rg_wd_n, rg_wd_i, rg_wd_l, rg_wd_r, rg_clr_i, rg_clr_l, rg_clr_r, rg_clr_a, rg_clr_n, true_and, and_true, Nat.reduceAdd, Nat.reduceLeDiff, ↓Te_E_isPassedBy, rg_rt_e, rg_fit_ie, rg_fit_ve, rg_fit_1e, rg_fit_0e, rg_fit_be]
  exact loop 0 ⟨by omega, fun b hb => absurd hb (by omega)⟩
-- W.staysSafeBefore
def P_W_staysSafeBefore : rg_P := (rg_F_W, [(137, 3, 0, T_E_isPassedBy)], [], [], [], [], 0)
def T_W_staysSafeBefore : rg_T := fun as w K => match as with
  | [.ref 13, .int e] => ∃ hg e' t, GrE hg w ∧ Tr hg t w ∧ e = nI e' ∧ e' < eN hg ∧ K (some (.int (zI (t.all (fun f => !pbE hg e' f))))) w
  | _ => False
theorem Te_W_staysSafeBefore (e : Int32) (w : rg_W) (K : Option Value → rg_W → Prop) : T_W_staysSafeBefore [.ref 13, .int e] w K = (∃ hg e' t, GrE hg w ∧ Tr hg t w ∧ e = nI e' ∧ e' < eN hg ∧ K (some (.int (zI (t.all (fun f => !pbE hg e' f))))) w) := rfl
theorem r_W_staysSafeBefore : ∀ as w K, T_W_staysSafeBefore as w K → ∃ r, as = .ref 13 :: r := by
  intro as w K h
  unfold T_W_staysSafeBefore at h
  split at h
  · exact ⟨_, rfl⟩
  · exact h.elim
theorem G_W_staysSafeBefore (l : Launch) : rg_Good l y_W_staysSafeBefore c_W_staysSafeBefore 3 (some .boolean) 2 T_W_staysSafeBefore := by
  refine rg_good_of (P := P_W_staysSafeBefore) (by decide) (rg_pok rg_F_W_ok (rg_cons (cw_W_68 (G_E_isPassedBy l) (by decide) r_E_isPassedBy) rg_nil)) ?_
  intro as w K Z hT hZ
  unfold T_W_staysSafeBefore at hT
  split at hT
  rotate_left
  · exact hT.elim
  rename_i e
  refine ⟨Nat.le_of_ble_eq_true rfl, ?_⟩
  show Z 0 [.ref 13, .int e, .null] [] w 0
  obtain ⟨hg, e', t, hG, hT, rfl, he, hK⟩ := hT
  obtain ⟨h1, h2, h3, h4⟩ := id hT
  have loop : ∀ i, (i ≤ t.length ∧ ∀ b, b < i → (!pbE hg e' (t.getD b 0)) = true) → Z 2 [.ref 13, .int (nI e'), .int (nI i)] [] w 0 := by
    refine rg_lp1 _ _ (fun i => t.length - i) ?_
    intro i ⟨hi, hno⟩ ih
    rcases Nat.lt_or_ge i t.length with hi9 | hi9
    · have vi : vp_in (nI i) 40 := vp_in_nI (by omega) (by omega)
      have ci : (nI i).toNatClampNeg = i := nI_clamp (by omega)
      have et := h4 i hi9
      refine hZ (rg_cut [2]) 400 2 _ _ _ ?_; simp only [rg_e_iload_2 (cut := rg_cut [2]) (f := true) d_W_staysSafeBefore_2 rfl 3 rfl, rg_e_aload_0 (cut := rg_cut [2]) (f := false) d_W_staysSafeBefore_3 rfl 4 rfl, rg_e_geti (P := P_W_staysSafeBefore) (cut := rg_cut [2]) (f := false) d_W_staysSafeBefore_4 rfl 7 rfl 13 3 6 rfl (fun _ => rfl), rg_e_icmp_ge (cut := rg_cut [2]) (f := false) d_W_staysSafeBefore_7 rfl 10 rfl 35 rfl, rg_e_aload_0 (cut := rg_cut [2]) (f := false) d_W_staysSafeBefore_10 rfl 11 rfl, rg_e_getr (P := P_W_staysSafeBefore) (cut := rg_cut [2]) (f := false) d_W_staysSafeBefore_11 rfl 14 rfl 13 3 0 4 rfl (fun _ => rfl), rg_e_iload_1 (cut := rg_cut [2]) (f := false) d_W_staysSafeBefore_14 rfl 15 rfl, rg_e_aload_0 (cut := rg_cut [2]) (f := false) d_W_staysSafeBefore_15 rfl 16 rfl, rg_e_getr (P := P_W_staysSafeBefore) (cut := rg_cut [2]) (f := false) d_W_staysSafeBefore_16 rfl 19 rfl 13 3 4 16 rfl (fun _ => rfl), rg_e_iload_2 (cut := rg_cut [2]) (f := false) d_W_staysSafeBefore_19 rfl 20 rfl, rg_e_iald (cut := rg_cut [2]) (f := false) d_W_staysSafeBefore_20 rfl 21 rfl 16 40 rfl, rg_e_cv3 (P := P_W_staysSafeBefore) (cut := rg_cut [2]) (f := false) d_W_staysSafeBefore_21 rfl T_E_isPassedBy rfl, rg_e_if_eq (cut := rg_cut [2]) (f := false) d_W_staysSafeBefore_24 rfl 27 rfl 29 rfl, rg_e_iconst (cut := rg_cut [2]) (f := false) d_W_staysSafeBefore_27 rfl 28 rfl (nI 0) rg_ki_0, rg_e_iret (cut := rg_cut [2]) (f := false) d_W_staysSafeBefore_28 rfl, rg_e_iinc_2 (cut := rg_cut [2]) (f := false) d_W_staysSafeBefore_29 rfl 32 rfl (nI 1) rg_ki_1, rg_e_goto (cut := rg_cut [2]) (f := false) d_W_staysSafeBefore_32 rfl 2 rfl, rg_e_iconst (cut := rg_cut [2]) (f := false) d_W_staysSafeBefore_35 rfl 36 rfl (nI 1) rg_ki_1, rg_e_iret (cut := rg_cut [2]) (f := false) d_W_staysSafeBefore_36 rfl, rg_e_cut (cut := rg_cut [2]) 2 rfl, rg_nx_i, rg_nx_v, rg_wd_n, rg_wd_i, rg_wd_l, rg_wd_r, rg_clr_i, rg_clr_l, rg_clr_r, rg_clr_a, rg_clr_n, true_and, and_true, Nat.reduceAdd, Nat.reduceLeDiff, ↓Te_E_isPassedBy, rg_rt_e, rg_fit_ie, rg_fit_ve, rg_fit_1e, rg_fit_0e, rg_fit_be, vi, ci, et, h1, zI_eq, nI_add]
      refine ⟨fun h => absurd h (nI_ge hi9 (by omega)), fun _ => ⟨hg, e', t.getD i 0, hG, rfl, rfl, he, h3 _ (gD_mem hi9), fun h => ?_, fun h => ?_⟩⟩
      · refine ih (i + 1) ⟨by omega, fun b hb => ?_⟩ (by omega)
        by_cases hbi : b = i
        · subst hbi; rw [h]; rfl
        · exact hno b (by omega)
      · have h : pbE hg e' (t.getD i 0) = true := by simpa using h
        rw [all_no (p := fun f => !pbE hg e' f) hi9 (by rw [h]; rfl)] at hK
        exact hK
    · obtain rfl : i = t.length := by omega
      refine hZ (rg_cut [2]) 400 2 _ _ _ ?_; simp only [rg_e_iload_2 (cut := rg_cut [2]) (f := true) d_W_staysSafeBefore_2 rfl 3 rfl, rg_e_aload_0 (cut := rg_cut [2]) (f := false) d_W_staysSafeBefore_3 rfl 4 rfl, rg_e_geti (P := P_W_staysSafeBefore) (cut := rg_cut [2]) (f := false) d_W_staysSafeBefore_4 rfl 7 rfl 13 3 6 rfl (fun _ => rfl), rg_e_icmp_ge (cut := rg_cut [2]) (f := false) d_W_staysSafeBefore_7 rfl 10 rfl 35 rfl, rg_e_aload_0 (cut := rg_cut [2]) (f := false) d_W_staysSafeBefore_10 rfl 11 rfl, rg_e_getr (P := P_W_staysSafeBefore) (cut := rg_cut [2]) (f := false) d_W_staysSafeBefore_11 rfl 14 rfl 13 3 0 4 rfl (fun _ => rfl), rg_e_iload_1 (cut := rg_cut [2]) (f := false) d_W_staysSafeBefore_14 rfl 15 rfl, rg_e_aload_0 (cut := rg_cut [2]) (f := false) d_W_staysSafeBefore_15 rfl 16 rfl, rg_e_getr (P := P_W_staysSafeBefore) (cut := rg_cut [2]) (f := false) d_W_staysSafeBefore_16 rfl 19 rfl 13 3 4 16 rfl (fun _ => rfl), rg_e_iload_2 (cut := rg_cut [2]) (f := false) d_W_staysSafeBefore_19 rfl 20 rfl, rg_e_iald (cut := rg_cut [2]) (f := false) d_W_staysSafeBefore_20 rfl 21 rfl 16 40 rfl, rg_e_cv3 (P := P_W_staysSafeBefore) (cut := rg_cut [2]) (f := false) d_W_staysSafeBefore_21 rfl T_E_isPassedBy rfl, rg_e_if_eq (cut := rg_cut [2]) (f := false) d_W_staysSafeBefore_24 rfl 27 rfl 29 rfl, rg_e_iconst (cut := rg_cut [2]) (f := false) d_W_staysSafeBefore_27 rfl 28 rfl (nI 0) rg_ki_0, rg_e_iret (cut := rg_cut [2]) (f := false) d_W_staysSafeBefore_28 rfl, rg_e_iinc_2 (cut := rg_cut [2]) (f := false) d_W_staysSafeBefore_29 rfl 32 rfl (nI 1) rg_ki_1, rg_e_goto (cut := rg_cut [2]) (f := false) d_W_staysSafeBefore_32 rfl 2 rfl, rg_e_iconst (cut := rg_cut [2]) (f := false) d_W_staysSafeBefore_35 rfl 36 rfl (nI 1) rg_ki_1, rg_e_iret (cut := rg_cut [2]) (f := false) d_W_staysSafeBefore_36 rfl, rg_e_cut (cut := rg_cut [2]) 2 rfl, rg_nx_i, rg_nx_v, rg_wd_n, rg_wd_i, rg_wd_l, rg_wd_r, rg_clr_i, rg_clr_l, rg_clr_r, rg_clr_a, rg_clr_n, true_and, and_true, Nat.reduceAdd, Nat.reduceLeDiff, ↓Te_E_isPassedBy, rg_rt_e, rg_fit_ie, rg_fit_ve, rg_fit_1e, rg_fit_0e, rg_fit_be, h1]
      refine ⟨fun _ => ?_, fun h => absurd (nI_le (Nat.le_refl _) (by omega)) h⟩
      rw [all_ix.mpr hno] at hK
      exact hK
  refine hZ (rg_cut [2]) 400 0 _ _ _ ?_; simp only [rg_e_iconst (cut := rg_cut [2]) (f := true) d_W_staysSafeBefore_0 rfl 1 rfl (nI 0) rg_ki_0, rg_e_istore_2 (cut := rg_cut [2]) (f := false) d_W_staysSafeBefore_1 rfl 2 rfl, rg_e_cut (cut := rg_cut [2]) 2 rfl, rg_nx_i, rg_nx_v, rg_wd_n, rg_wd_i, rg_wd_l, rg_wd_r, rg_clr_i, rg_clr_l, rg_clr_r, rg_clr_a, rg_clr_n, true_and, and_true, Nat.reduceAdd, Nat.reduceLeDiff, ↓Te_E_isPassedBy, rg_rt_e, rg_fit_ie, rg_fit_ve, rg_fit_1e, rg_fit_0e, rg_fit_be]
  exact loop 0 ⟨by omega, fun b hb => absurd hb (by omega)⟩
/-- the first of k numbers from x on that has p -/
def nbF (p : Nat → Bool) : Nat → Nat → Option Nat
  | _, 0 => none
  | x, k + 1 => if p x = true then some x else nbF p (x + 1) k
/-- the last edge of a trail -/
def lst (t : List Nat) : Nat := t.getD (t.length - 1) 0
noncomputable def sfB (hg : Nat → Nat → Nat) (t : List Nat) (e : Nat) : Bool := t.all (fun f => !pbE hg f e)
theorem esT_mono (hg : Nat → Nat → Nat) {s t : Nat} (h : s ≤ t) : (esT hg s).length ≤ (esT hg t).length := by
  induction t with
  | zero =>
    obtain rfl : s = 0 := by omega
    exact Nat.le_refl _
  | succ t ih =>
    by_cases hs : s = t + 1
    · subst hs; exact Nat.le_refl _
    · rw [esT_s, List.length_append]
      have := ih (by omega)
      omega
-- W.nextBehind
def P_W_nextBehind : rg_P := (rg_F_W, [(129, 2, 0, T_W_staysSafeBehind)], [], [], [], [], 0)
def T_W_nextBehind : rg_T := fun as w K => match as with
  | [.ref 13] => ∃ hg t x, GrE hg w ∧ FoW hg w ∧ Tr hg t w ∧ 0 < t.length ∧ w.1 17 (t.length - 1) = nI x ∧ x < 2 ^ 30 ∧ (∀ e, nbF (sfB hg t) x ((esT hg (9 * (ds hg (lst t) + 1))).length - x) = some e → K (some (.int (nI e))) (rg_up w 17 (t.length - 1) (nI (e + 1)))) ∧ (nbF (sfB hg t) x ((esT hg (9 * (ds hg (lst t) + 1))).length - x) = none → K (some (.int (-1))) w)
  | _ => False
theorem Te_W_nextBehind  (w : rg_W) (K : Option Value → rg_W → Prop) : T_W_nextBehind [.ref 13] w K = (∃ hg t x, GrE hg w ∧ FoW hg w ∧ Tr hg t w ∧ 0 < t.length ∧ w.1 17 (t.length - 1) = nI x ∧ x < 2 ^ 30 ∧ (∀ e, nbF (sfB hg t) x ((esT hg (9 * (ds hg (lst t) + 1))).length - x) = some e → K (some (.int (nI e))) (rg_up w 17 (t.length - 1) (nI (e + 1)))) ∧ (nbF (sfB hg t) x ((esT hg (9 * (ds hg (lst t) + 1))).length - x) = none → K (some (.int (-1))) w)) := rfl
theorem r_W_nextBehind : ∀ as w K, T_W_nextBehind as w K → ∃ r, as = .ref 13 :: r := by
  intro as w K h
  unfold T_W_nextBehind at h
  split at h
  · exact ⟨_, rfl⟩
  · exact h.elim
theorem G_W_nextBehind (l : Launch) : rg_Good l y_W_nextBehind c_W_nextBehind 3 (some .int) 3 T_W_nextBehind := by
  refine rg_good_of (P := P_W_nextBehind) (by decide) (rg_pok rg_F_W_ok (rg_cons (cw_W_64 (G_W_staysSafeBehind l) (by decide) r_W_staysSafeBehind) rg_nil)) ?_
  intro as w K Z hT hZ
  unfold T_W_nextBehind at hT
  split at hT
  rotate_left
  · exact hT.elim
  refine ⟨Nat.le_of_ble_eq_true rfl, ?_⟩
  show Z 0 [.ref 13, .null, .null] [] w 0
  obtain ⟨hg, t, x, hG, hF, hT, ht0, hx, hx30, hK1, hK2⟩ := hT
  obtain ⟨h1, h2, h3, h4⟩ := id hT
  have h72 := eN_le hG.2.2
  have hle : lst t < eN hg := h3 _ (gD_mem (by omega))
  have hd := (sr_lt hle).2
  have s1 : nI t.length - nI 1 = nI (t.length - 1) := pk_sub (by omega)
  have v1 : vp_in (nI (t.length - 1)) 40 := vp_in_nI (by omega) (by omega)
  have c1 : (nI (t.length - 1)).toNatClampNeg = t.length - 1 := nI_clamp (by omega)
  have e1 := h4 (t.length - 1) (by omega)
  have v2 : vp_in (nI (t.getD (t.length - 1) 0)) 72 := vp_in_nI (by have := hle; unfold lst at this; omega) (by omega)
  have c2 : (nI (t.getD (t.length - 1) 0)).toNatClampNeg = lst t := nI_clamp (by have := hle; unfold lst at this; omega)
  have e2 := (hG.at hle).2.1
  have v3 : vp_in (nI (ds hg (lst t) + 1)) 10 := vp_in_nI (by omega) (by omega)
  have c3 : (nI (ds hg (lst t) + 1)).toNatClampNeg = ds hg (lst t) + 1 := nI_clamp (by omega)
  have e3 := hF (ds hg (lst t) + 1) (by omega)
  have hm := esT_mono hg (s := 9 * (ds hg (lst t) + 1)) (t := 81) (by omega)
  have hm2 : (esT hg (9 * (ds hg (lst t) + 1))).length ≤ eN hg := hm
  have loop : ∀ e, (nbF (sfB hg t) x ((esT hg (9 * (ds hg (lst t) + 1))).length - x) = nbF (sfB hg t) e ((esT hg (9 * (ds hg (lst t) + 1))).length - e) ∧ e < 2 ^ 30) → Z 32 [.ref 13, .int (nI (ds hg (lst t))), .int (nI e)] [] w 0 := by
    refine rg_lp1 _ _ (fun e => (esT hg (9 * (ds hg (lst t) + 1))).length - e) ?_
    intro e ⟨he, he30⟩ ih
    refine hZ (rg_cut [32]) 400 32 _ _ _ ?_; simp only [rg_e_iload_2 (cut := rg_cut [32]) (f := true) d_W_nextBehind_32 rfl 33 rfl, rg_e_aload_0 (cut := rg_cut [32]) (f := false) d_W_nextBehind_33 rfl 34 rfl, rg_e_getr (P := P_W_nextBehind) (cut := rg_cut [32]) (f := false) d_W_nextBehind_34 rfl 37 rfl 13 3 0 4 rfl (fun _ => rfl), rg_e_getr (P := P_W_nextBehind) (cut := rg_cut [32]) (f := false) d_W_nextBehind_37 rfl 40 rfl 4 2 4 9 rfl (fun _ => rfl), rg_e_iload_1 (cut := rg_cut [32]) (f := false) d_W_nextBehind_40 rfl 41 rfl, rg_e_iconst (cut := rg_cut [32]) (f := false) d_W_nextBehind_41 rfl 42 rfl (nI 1) rg_ki_1, rg_e_iadd (cut := rg_cut [32]) (f := false) d_W_nextBehind_42 rfl 43 rfl, rg_e_iald (cut := rg_cut [32]) (f := false) d_W_nextBehind_43 rfl 44 rfl 9 10 rfl, rg_e_icmp_ge (cut := rg_cut [32]) (f := false) d_W_nextBehind_44 rfl 47 rfl 77 rfl, rg_e_aload_0 (cut := rg_cut [32]) (f := false) d_W_nextBehind_47 rfl 48 rfl, rg_e_iload_2 (cut := rg_cut [32]) (f := false) d_W_nextBehind_48 rfl 49 rfl, rg_e_cv2 (P := P_W_nextBehind) (cut := rg_cut [32]) (f := false) d_W_nextBehind_49 rfl T_W_staysSafeBehind rfl, rg_e_if_eq (cut := rg_cut [32]) (f := false) d_W_nextBehind_52 rfl 55 rfl 71 rfl, rg_e_aload_0 (cut := rg_cut [32]) (f := false) d_W_nextBehind_55 rfl 56 rfl, rg_e_getr (P := P_W_nextBehind) (cut := rg_cut [32]) (f := false) d_W_nextBehind_56 rfl 59 rfl 13 3 5 17 rfl (fun _ => rfl), rg_e_aload_0 (cut := rg_cut [32]) (f := false) d_W_nextBehind_59 rfl 60 rfl, rg_e_geti (P := P_W_nextBehind) (cut := rg_cut [32]) (f := false) d_W_nextBehind_60 rfl 63 rfl 13 3 6 rfl (fun _ => rfl), rg_e_iconst (cut := rg_cut [32]) (f := false) d_W_nextBehind_63 rfl 64 rfl (nI 1) rg_ki_1, rg_e_isub (cut := rg_cut [32]) (f := false) d_W_nextBehind_64 rfl 65 rfl, rg_e_iload_2 (cut := rg_cut [32]) (f := false) d_W_nextBehind_65 rfl 66 rfl, rg_e_iconst (cut := rg_cut [32]) (f := false) d_W_nextBehind_66 rfl 67 rfl (nI 1) rg_ki_1, rg_e_iadd (cut := rg_cut [32]) (f := false) d_W_nextBehind_67 rfl 68 rfl, rg_e_iast (cut := rg_cut [32]) (f := false) d_W_nextBehind_68 rfl 69 rfl 17 40 rfl, rg_e_iload_2 (cut := rg_cut [32]) (f := false) d_W_nextBehind_69 rfl 70 rfl, rg_e_iret (cut := rg_cut [32]) (f := false) d_W_nextBehind_70 rfl, rg_e_iinc_2 (cut := rg_cut [32]) (f := false) d_W_nextBehind_71 rfl 74 rfl (nI 1) rg_ki_1, rg_e_goto (cut := rg_cut [32]) (f := false) d_W_nextBehind_74 rfl 32 rfl, rg_e_iconst (cut := rg_cut [32]) (f := false) d_W_nextBehind_77 rfl 78 rfl (-1) rg_ki_m1, rg_e_iret (cut := rg_cut [32]) (f := false) d_W_nextBehind_78 rfl, rg_e_cut (cut := rg_cut [32]) 32 rfl, rg_nx_i, rg_nx_v, rg_wd_n, rg_wd_i, rg_wd_l, rg_wd_r, rg_clr_i, rg_clr_l, rg_clr_r, rg_clr_a, rg_clr_n, true_and, and_true, Nat.reduceAdd, Nat.reduceLeDiff, ↓Te_W_staysSafeBehind, rg_rt_e, rg_fit_ie, rg_fit_ve, rg_fit_1e, rg_fit_0e, rg_fit_be, s1, v1, c1, v3, c3, e3, h1, zI_eq, nI_add]
    rw [nI_lep (by omega) (by omega)]
    refine ⟨fun h => hK2 ?_, fun h => ⟨hg, e, t, hG, hT, rfl, by omega, fun h1 => ?_, fun h1 => ?_⟩⟩
    · rw [he, Nat.sub_eq_zero_of_le h, nbF]
    · have h1 : sfB hg t e = false := h1
      refine ih (e + 1) ⟨?_, by omega⟩ (by omega)
      rw [he, show (esT hg (9 * (ds hg (lst t) + 1))).length - e = ((esT hg (9 * (ds hg (lst t) + 1))).length - (e + 1)) + 1 by omega, nbF, if_neg (by rw [h1]; decide)]
    · have h1 : sfB hg t e = true := by rw [← Bool.not_eq_false]; exact h1
      refine hK1 e ?_
      rw [he, show (esT hg (9 * (ds hg (lst t) + 1))).length - e = ((esT hg (9 * (ds hg (lst t) + 1))).length - (e + 1)) + 1 by omega, nbF, if_pos h1]
  refine hZ (rg_cut [32]) 400 0 _ _ _ ?_; simp only [rg_e_aload_0 (cut := rg_cut [32]) (f := true) d_W_nextBehind_0 rfl 1 rfl, rg_e_getr (P := P_W_nextBehind) (cut := rg_cut [32]) (f := false) d_W_nextBehind_1 rfl 4 rfl 13 3 0 4 rfl (fun _ => rfl), rg_e_getr (P := P_W_nextBehind) (cut := rg_cut [32]) (f := false) d_W_nextBehind_4 rfl 7 rfl 4 2 2 7 rfl (fun _ => rfl), rg_e_aload_0 (cut := rg_cut [32]) (f := false) d_W_nextBehind_7 rfl 8 rfl, rg_e_getr (P := P_W_nextBehind) (cut := rg_cut [32]) (f := false) d_W_nextBehind_8 rfl 11 rfl 13 3 4 16 rfl (fun _ => rfl), rg_e_aload_0 (cut := rg_cut [32]) (f := false) d_W_nextBehind_11 rfl 12 rfl, rg_e_geti (P := P_W_nextBehind) (cut := rg_cut [32]) (f := false) d_W_nextBehind_12 rfl 15 rfl 13 3 6 rfl (fun _ => rfl), rg_e_iconst (cut := rg_cut [32]) (f := false) d_W_nextBehind_15 rfl 16 rfl (nI 1) rg_ki_1, rg_e_isub (cut := rg_cut [32]) (f := false) d_W_nextBehind_16 rfl 17 rfl, rg_e_iald (cut := rg_cut [32]) (f := false) d_W_nextBehind_17 rfl 18 rfl 16 40 rfl, rg_e_iald (cut := rg_cut [32]) (f := false) d_W_nextBehind_18 rfl 19 rfl 7 72 rfl, rg_e_istore_1 (cut := rg_cut [32]) (f := false) d_W_nextBehind_19 rfl 20 rfl, rg_e_aload_0 (cut := rg_cut [32]) (f := false) d_W_nextBehind_20 rfl 21 rfl, rg_e_getr (P := P_W_nextBehind) (cut := rg_cut [32]) (f := false) d_W_nextBehind_21 rfl 24 rfl 13 3 5 17 rfl (fun _ => rfl), rg_e_aload_0 (cut := rg_cut [32]) (f := false) d_W_nextBehind_24 rfl 25 rfl, rg_e_geti (P := P_W_nextBehind) (cut := rg_cut [32]) (f := false) d_W_nextBehind_25 rfl 28 rfl 13 3 6 rfl (fun _ => rfl), rg_e_iconst (cut := rg_cut [32]) (f := false) d_W_nextBehind_28 rfl 29 rfl (nI 1) rg_ki_1, rg_e_isub (cut := rg_cut [32]) (f := false) d_W_nextBehind_29 rfl 30 rfl, rg_e_iald (cut := rg_cut [32]) (f := false) d_W_nextBehind_30 rfl 31 rfl 17 40 rfl, rg_e_istore_2 (cut := rg_cut [32]) (f := false) d_W_nextBehind_31 rfl 32 rfl, rg_e_cut (cut := rg_cut [32]) 32 rfl, rg_nx_i, rg_nx_v, rg_wd_n, rg_wd_i, rg_wd_l, rg_wd_r, rg_clr_i, rg_clr_l, rg_clr_r, rg_clr_a, rg_clr_n, true_and, and_true, Nat.reduceAdd, Nat.reduceLeDiff, ↓Te_W_staysSafeBehind, rg_rt_e, rg_fit_ie, rg_fit_ve, rg_fit_1e, rg_fit_0e, rg_fit_be, s1, v1, c1, e1, v2, c2, e2, hx, h1]
  exact loop x ⟨rfl, hx30⟩
noncomputable def preB (hg : Nat → Nat → Nat) (t : List Nat) : Bool := (List.range (eN hg)).any (fun e => decide (ds hg e = sr hg (t.getD 0 0)) && t.all (fun f => !pbE hg e f))
-- W.hasBefore
def P_W_hasBefore : rg_P := (rg_F_W, [(151, 2, 0, T_W_staysSafeBefore)], [], [], [], [], 0)
def T_W_hasBefore : rg_T := fun as w K => match as with
  | [.ref 13] => ∃ hg t, GrE hg w ∧ Tr hg t w ∧ 0 < t.length ∧ K (some (.int (zI (preB hg t)))) w
  | _ => False
theorem Te_W_hasBefore  (w : rg_W) (K : Option Value → rg_W → Prop) : T_W_hasBefore [.ref 13] w K = (∃ hg t, GrE hg w ∧ Tr hg t w ∧ 0 < t.length ∧ K (some (.int (zI (preB hg t)))) w) := rfl
theorem r_W_hasBefore : ∀ as w K, T_W_hasBefore as w K → ∃ r, as = .ref 13 :: r := by
  intro as w K h
  unfold T_W_hasBefore at h
  split at h
  · exact ⟨_, rfl⟩
  · exact h.elim
theorem G_W_hasBefore (l : Launch) : rg_Good l y_W_hasBefore c_W_hasBefore 2 (some .boolean) 3 T_W_hasBefore := by
  refine rg_good_of (P := P_W_hasBefore) (by decide) (rg_pok rg_F_W_ok (rg_cons (cw_W_75 (G_W_staysSafeBefore l) (by decide) r_W_staysSafeBefore) rg_nil)) ?_
  intro as w K Z hT hZ
  unfold T_W_hasBefore at hT
  split at hT
  rotate_left
  · exact hT.elim
  refine ⟨Nat.le_of_ble_eq_true rfl, ?_⟩
  show Z 0 [.ref 13, .null] [] w 0
  obtain ⟨hg, t, hG, hT, ht0, hK⟩ := hT
  obtain ⟨h1, h2, h3, h4⟩ := id hT
  have h72 := eN_le hG.2.2
  have h0 : t.getD 0 0 < eN hg := h3 _ (gD_mem ht0)
  have s0 := sr_lt h0
  have v0 : vp_in (nI 0) 40 := vp_in_nI (by omega) (by omega)
  have c0 : (nI 0).toNatClampNeg = 0 := nI_clamp (by omega)
  have e0 := h4 0 ht0
  have v1 : vp_in (nI (t.getD 0 0)) 72 := vp_in_nI (by omega) (by omega)
  have c1 : (nI (t.getD 0 0)).toNatClampNeg = t.getD 0 0 := nI_clamp (by omega)
  have e1 := (hG.at h0).1
  have hc : w.1 4 10 = nI (eN hg) := hG.1.1
  have loop : ∀ e, (e ≤ eN hg ∧ ∀ b, b < e → (decide (ds hg b = sr hg (t.getD 0 0)) && t.all (fun f => !pbE hg b f)) = false) → Z 2 [.ref 13, .int (nI e)] [] w 0 := by
    refine rg_lp1 _ _ (fun e => eN hg - e) ?_
    intro e ⟨he, hno⟩ ih
    rcases Nat.lt_or_ge e (eN hg) with he9 | he9
    · have ve : vp_in (nI e) 72 := vp_in_nI (by omega) (by omega)
      have ce : (nI e).toNatClampNeg = e := nI_clamp (by omega)
      have ee := (hG.at he9).2.1
      have se := sr_lt he9
      have next : (decide (ds hg e = sr hg (t.getD 0 0)) && t.all (fun f => !pbE hg e f)) = false → Z 2 [.ref 13, .int (nI (e + 1))] [] w 0 := fun h =>
        ih (e + 1) ⟨by omega, fun b hb => by
          by_cases hbi : b = e
          · subst hbi; exact h
          · exact hno b (by omega)⟩ (by omega)
      refine hZ (rg_cut [2]) 400 2 _ _ _ ?_; simp only [rg_e_iload_1 (cut := rg_cut [2]) (f := true) d_W_hasBefore_2 rfl 3 rfl, rg_e_aload_0 (cut := rg_cut [2]) (f := false) d_W_hasBefore_3 rfl 4 rfl, rg_e_getr (P := P_W_hasBefore) (cut := rg_cut [2]) (f := false) d_W_hasBefore_4 rfl 7 rfl 13 3 0 4 rfl (fun _ => rfl), rg_e_geti (P := P_W_hasBefore) (cut := rg_cut [2]) (f := false) d_W_hasBefore_7 rfl 10 rfl 4 2 10 rfl (fun _ => rfl), rg_e_icmp_ge (cut := rg_cut [2]) (f := false) d_W_hasBefore_10 rfl 13 rfl 55 rfl, rg_e_aload_0 (cut := rg_cut [2]) (f := false) d_W_hasBefore_13 rfl 14 rfl, rg_e_getr (P := P_W_hasBefore) (cut := rg_cut [2]) (f := false) d_W_hasBefore_14 rfl 17 rfl 13 3 0 4 rfl (fun _ => rfl), rg_e_getr (P := P_W_hasBefore) (cut := rg_cut [2]) (f := false) d_W_hasBefore_17 rfl 20 rfl 4 2 2 7 rfl (fun _ => rfl), rg_e_iload_1 (cut := rg_cut [2]) (f := false) d_W_hasBefore_20 rfl 21 rfl, rg_e_iald (cut := rg_cut [2]) (f := false) d_W_hasBefore_21 rfl 22 rfl 7 72 rfl, rg_e_aload_0 (cut := rg_cut [2]) (f := false) d_W_hasBefore_22 rfl 23 rfl, rg_e_getr (P := P_W_hasBefore) (cut := rg_cut [2]) (f := false) d_W_hasBefore_23 rfl 26 rfl 13 3 0 4 rfl (fun _ => rfl), rg_e_getr (P := P_W_hasBefore) (cut := rg_cut [2]) (f := false) d_W_hasBefore_26 rfl 29 rfl 4 2 1 6 rfl (fun _ => rfl), rg_e_aload_0 (cut := rg_cut [2]) (f := false) d_W_hasBefore_29 rfl 30 rfl, rg_e_getr (P := P_W_hasBefore) (cut := rg_cut [2]) (f := false) d_W_hasBefore_30 rfl 33 rfl 13 3 4 16 rfl (fun _ => rfl), rg_e_iconst (cut := rg_cut [2]) (f := false) d_W_hasBefore_33 rfl 34 rfl (nI 0) rg_ki_0, rg_e_iald (cut := rg_cut [2]) (f := false) d_W_hasBefore_34 rfl 35 rfl 16 40 rfl, rg_e_iald (cut := rg_cut [2]) (f := false) d_W_hasBefore_35 rfl 36 rfl 6 72 rfl, rg_e_icmp_ne (cut := rg_cut [2]) (f := false) d_W_hasBefore_36 rfl 39 rfl 49 rfl, rg_e_aload_0 (cut := rg_cut [2]) (f := false) d_W_hasBefore_39 rfl 40 rfl, rg_e_iload_1 (cut := rg_cut [2]) (f := false) d_W_hasBefore_40 rfl 41 rfl, rg_e_cv2 (P := P_W_hasBefore) (cut := rg_cut [2]) (f := false) d_W_hasBefore_41 rfl T_W_staysSafeBefore rfl, rg_e_if_eq (cut := rg_cut [2]) (f := false) d_W_hasBefore_44 rfl 47 rfl 49 rfl, rg_e_iconst (cut := rg_cut [2]) (f := false) d_W_hasBefore_47 rfl 48 rfl (nI 1) rg_ki_1, rg_e_iret (cut := rg_cut [2]) (f := false) d_W_hasBefore_48 rfl, rg_e_iinc_1 (cut := rg_cut [2]) (f := false) d_W_hasBefore_49 rfl 52 rfl (nI 1) rg_ki_1, rg_e_goto (cut := rg_cut [2]) (f := false) d_W_hasBefore_52 rfl 2 rfl, rg_e_iconst (cut := rg_cut [2]) (f := false) d_W_hasBefore_55 rfl 56 rfl (nI 0) rg_ki_0, rg_e_iret (cut := rg_cut [2]) (f := false) d_W_hasBefore_56 rfl, rg_e_cut (cut := rg_cut [2]) 2 rfl, rg_nx_i, rg_nx_v, rg_wd_n, rg_wd_i, rg_wd_l, rg_wd_r, rg_clr_i, rg_clr_l, rg_clr_r, rg_clr_a, rg_clr_n, true_and, and_true, Nat.reduceAdd, Nat.reduceLeDiff, ↓Te_W_staysSafeBefore, rg_rt_e, rg_fit_ie, rg_fit_ve, rg_fit_1e, rg_fit_0e, rg_fit_be, ve, ce, ee, v0, c0, e0, v1, c1, e1, hc, zI_eq, nI_add]
      rw [nI_eqp (by omega) (by omega)]
      refine ⟨fun h => absurd h (nI_ge he9 (by omega)), fun _ => ⟨fun h => next (by rw [decide_eq_false h, Bool.false_and]), fun h => ⟨hg, e, t, hG, hT, rfl, he9, fun h1 => next (by rw [h1, Bool.and_false]), fun h1 => ?_⟩⟩⟩
      have h1 : t.all (fun f => !pbE hg e f) = true := by simpa using h1
      have : preB hg t = true := List.any_eq_true.mpr ⟨e, List.mem_range.mpr he9, by rw [h1, decide_eq_true (Classical.not_not.mp h)]; rfl⟩
      rw [this] at hK
      exact hK
    · obtain rfl : e = eN hg := by omega
      refine hZ (rg_cut [2]) 400 2 _ _ _ ?_; simp only [rg_e_iload_1 (cut := rg_cut [2]) (f := true) d_W_hasBefore_2 rfl 3 rfl, rg_e_aload_0 (cut := rg_cut [2]) (f := false) d_W_hasBefore_3 rfl 4 rfl, rg_e_getr (P := P_W_hasBefore) (cut := rg_cut [2]) (f := false) d_W_hasBefore_4 rfl 7 rfl 13 3 0 4 rfl (fun _ => rfl), rg_e_geti (P := P_W_hasBefore) (cut := rg_cut [2]) (f := false) d_W_hasBefore_7 rfl 10 rfl 4 2 10 rfl (fun _ => rfl), rg_e_icmp_ge (cut := rg_cut [2]) (f := false) d_W_hasBefore_10 rfl 13 rfl 55 rfl, rg_e_aload_0 (cut := rg_cut [2]) (f := false) d_W_hasBefore_13 rfl 14 rfl, rg_e_getr (P := P_W_hasBefore) (cut := rg_cut [2]) (f := false) d_W_hasBefore_14 rfl 17 rfl 13 3 0 4 rfl (fun _ => rfl), rg_e_getr (P := P_W_hasBefore) (cut := rg_cut [2]) (f := false) d_W_hasBefore_17 rfl 20 rfl 4 2 2 7 rfl (fun _ => rfl), rg_e_iload_1 (cut := rg_cut [2]) (f := false) d_W_hasBefore_20 rfl 21 rfl, rg_e_iald (cut := rg_cut [2]) (f := false) d_W_hasBefore_21 rfl 22 rfl 7 72 rfl, rg_e_aload_0 (cut := rg_cut [2]) (f := false) d_W_hasBefore_22 rfl 23 rfl, rg_e_getr (P := P_W_hasBefore) (cut := rg_cut [2]) (f := false) d_W_hasBefore_23 rfl 26 rfl 13 3 0 4 rfl (fun _ => rfl), rg_e_getr (P := P_W_hasBefore) (cut := rg_cut [2]) (f := false) d_W_hasBefore_26 rfl 29 rfl 4 2 1 6 rfl (fun _ => rfl), rg_e_aload_0 (cut := rg_cut [2]) (f := false) d_W_hasBefore_29 rfl 30 rfl, rg_e_getr (P := P_W_hasBefore) (cut := rg_cut [2]) (f := false) d_W_hasBefore_30 rfl 33 rfl 13 3 4 16 rfl (fun _ => rfl), rg_e_iconst (cut := rg_cut [2]) (f := false) d_W_hasBefore_33 rfl 34 rfl (nI 0) rg_ki_0, rg_e_iald (cut := rg_cut [2]) (f := false) d_W_hasBefore_34 rfl 35 rfl 16 40 rfl, rg_e_iald (cut := rg_cut [2]) (f := false) d_W_hasBefore_35 rfl 36 rfl 6 72 rfl, rg_e_icmp_ne (cut := rg_cut [2]) (f := false) d_W_hasBefore_36 rfl 39 rfl 49 rfl, rg_e_aload_0 (cut := rg_cut [2]) (f := false) d_W_hasBefore_39 rfl 40 rfl, rg_e_iload_1 (cut := rg_cut [2]) (f := false) d_W_hasBefore_40 rfl 41 rfl, rg_e_cv2 (P := P_W_hasBefore) (cut := rg_cut [2]) (f := false) d_W_hasBefore_41 rfl T_W_staysSafeBefore rfl, rg_e_if_eq (cut := rg_cut [2]) (f := false) d_W_hasBefore_44 rfl 47 rfl 49 rfl, rg_e_iconst (cut := rg_cut [2]) (f := false) d_W_hasBefore_47 rfl 48 rfl (nI 1) rg_ki_1, rg_e_iret (cut := rg_cut [2]) (f := false) d_W_hasBefore_48 rfl, rg_e_iinc_1 (cut := rg_cut [2]) (f := false) d_W_hasBefore_49 rfl 52 rfl (nI 1) rg_ki_1, rg_e_goto (cut := rg_cut [2]) (f := false) d_W_hasBefore_52 rfl 2 rfl, rg_e_iconst (cut := rg_cut [2]) (f := false) d_W_hasBefore_55 rfl 56 rfl (nI 0) rg_ki_0, rg_e_iret (cut := rg_cut [2]) (f := false) d_W_hasBefore_56 rfl, rg_e_cut (cut := rg_cut [2]) 2 rfl, rg_nx_i, rg_nx_v, rg_wd_n, rg_wd_i, rg_wd_l, rg_wd_r, rg_clr_i, rg_clr_l, rg_clr_r, rg_clr_a, rg_clr_n, true_and, and_true, Nat.reduceAdd, Nat.reduceLeDiff, ↓Te_W_staysSafeBefore, rg_rt_e, rg_fit_ie, rg_fit_ve, rg_fit_1e, rg_fit_0e, rg_fit_be, hc]
      refine ⟨fun _ => ?_, fun h => absurd (nI_le (Nat.le_refl _) (by omega)) h⟩
      have : preB hg t = false := List.any_eq_false.mpr (fun b hb => by rw [hno b (List.mem_range.mp hb)]; decide)
      rw [this] at hK
      exact hK
  refine hZ (rg_cut [2]) 400 0 _ _ _ ?_; simp only [rg_e_iconst (cut := rg_cut [2]) (f := true) d_W_hasBefore_0 rfl 1 rfl (nI 0) rg_ki_0, rg_e_istore_1 (cut := rg_cut [2]) (f := false) d_W_hasBefore_1 rfl 2 rfl, rg_e_cut (cut := rg_cut [2]) 2 rfl, rg_nx_i, rg_nx_v, rg_wd_n, rg_wd_i, rg_wd_l, rg_wd_r, rg_clr_i, rg_clr_l, rg_clr_r, rg_clr_a, rg_clr_n, true_and, and_true, Nat.reduceAdd, Nat.reduceLeDiff, ↓Te_W_staysSafeBefore, rg_rt_e, rg_fit_ie, rg_fit_ve, rg_fit_1e, rg_fit_0e, rg_fit_be]
  exact loop 0 ⟨by omega, fun b hb => absurd hb (by omega)⟩
/-- the walks that are kept -/
def Ac (A : List (List Nat)) (w : rg_W) : Prop := w.1 13 3 = nI A.length ∧ A.length ≤ 50 ∧ ∀ k, k < A.length → (A.getD k []).length ≤ 40 ∧ w.1 15 k = nI (A.getD k []).length ∧ ∀ i, i < (A.getD k []).length → w.1 14 (40 * k + i) = nI ((A.getD k []).getD i 0)
theorem upd_id {f : Nat → Int32} {k : Nat} {x : Int32} (h : f k = x) : upd f k x = f := by
  funext j
  unfold upd
  by_cases e : j = k
  · rw [if_pos e, e, h]
  · rw [if_neg e]
-- W.keepTrail
def P_W_keepTrail : rg_P := (rg_F_W, [], [], [], [], [], 0)
def T_W_keepTrail : rg_T := fun as w K => match as with
  | [.ref 13] => ∃ hg t A, Tr hg t w ∧ Ac A w ∧ (A.length = 50 → K (some (.int (nI 0))) w) ∧ (A.length < 50 → ∀ w', rg_fr [13, 14, 15] w w' → (∀ q, q ≠ 3 → w'.1 13 q = w.1 13 q) → Ac (A ++ [t]) w' → K (some (.int (nI 1))) w')
  | _ => False
theorem Te_W_keepTrail  (w : rg_W) (K : Option Value → rg_W → Prop) : T_W_keepTrail [.ref 13] w K = (∃ hg t A, Tr hg t w ∧ Ac A w ∧ (A.length = 50 → K (some (.int (nI 0))) w) ∧ (A.length < 50 → ∀ w', rg_fr [13, 14, 15] w w' → (∀ q, q ≠ 3 → w'.1 13 q = w.1 13 q) → Ac (A ++ [t]) w' → K (some (.int (nI 1))) w')) := rfl
theorem r_W_keepTrail : ∀ as w K, T_W_keepTrail as w K → ∃ r, as = .ref 13 :: r := by
  intro as w K h
  unfold T_W_keepTrail at h
  split at h
  · exact ⟨_, rfl⟩
  · exact h.elim
theorem G_W_keepTrail (l : Launch) : rg_Good l y_W_keepTrail c_W_keepTrail 2 (some .boolean) 0 T_W_keepTrail := by
  refine rg_good_of (P := P_W_keepTrail) (by decide) (rg_pok rg_F_W_ok rg_nil) ?_
  intro as w K Z hT hZ
  unfold T_W_keepTrail at hT
  split at hT
  rotate_left
  · exact hT.elim
  refine ⟨Nat.le_of_ble_eq_true rfl, ?_⟩
  show Z 0 [.ref 13, .null] [] w 0
  obtain ⟨hg, t, A, hT, hA, hK0, hK1⟩ := hT
  obtain ⟨h1, h2, h3, h4⟩ := id hT
  obtain ⟨a1, a2, a3⟩ := id hA
  have loop : ∀ (i : Nat) (w1 : rg_W), (i ≤ t.length ∧ A.length < 50 ∧ rg_fr [13, 14, 15] w w1 ∧ w1.1 13 = w.1 13 ∧ w1.1 15 = w.1 15 ∧ (∀ q, q < 40 * A.length → w1.1 14 q = w.1 14 q) ∧ ∀ b, b < i → w1.1 14 (40 * A.length + b) = nI (t.getD b 0)) → Z 13 [.ref 13, .int (nI i)] [] w1 0 := by
    refine rg_lp2 _ _ (fun i _ => t.length - i) ?_
    intro i w1 ⟨hi, hl, hf, g13, g15, g14, gi⟩ ih
    have hc : w1.1 13 3 = nI A.length := by rw [g13]; exact a1
    have hln : w1.1 13 6 = nI t.length := by rw [g13]; exact h1
    rcases Nat.lt_or_ge i t.length with hi9 | hi9
    · have vi : vp_in (nI i) 40 := vp_in_nI (by omega) (by omega)
      have ci : (nI i).toNatClampNeg = i := nI_clamp (by omega)
      have x1 : nI A.length * nI 40 + nI i = nI (40 * A.length + i) := by rw [pk_mul, nI_add, Nat.mul_comm]
      have v1 : vp_in (nI (40 * A.length + i)) 2000 := vp_in_nI (by omega) (by omega)
      have c1 : (nI (40 * A.length + i)).toNatClampNeg = 40 * A.length + i := nI_clamp (by omega)
      have et : w1.1 16 i = nI (t.getD i 0) := by rw [hf.1 16 (by decide)]; exact h4 i hi9
      refine hZ (rg_cut [13]) 400 13 _ _ _ ?_; simp only [rg_e_iload_1 (cut := rg_cut [13]) (f := true) d_W_keepTrail_13 rfl 14 rfl, rg_e_aload_0 (cut := rg_cut [13]) (f := false) d_W_keepTrail_14 rfl 15 rfl, rg_e_geti (P := P_W_keepTrail) (cut := rg_cut [13]) (f := false) d_W_keepTrail_15 rfl 18 rfl 13 3 6 rfl (fun _ => rfl), rg_e_icmp_ge (cut := rg_cut [13]) (f := false) d_W_keepTrail_18 rfl 21 rfl 47 rfl, rg_e_aload_0 (cut := rg_cut [13]) (f := false) d_W_keepTrail_21 rfl 22 rfl, rg_e_getr (P := P_W_keepTrail) (cut := rg_cut [13]) (f := false) d_W_keepTrail_22 rfl 25 rfl 13 3 1 14 rfl (fun _ => rfl), rg_e_aload_0 (cut := rg_cut [13]) (f := false) d_W_keepTrail_25 rfl 26 rfl, rg_e_geti (P := P_W_keepTrail) (cut := rg_cut [13]) (f := false) d_W_keepTrail_26 rfl 29 rfl 13 3 3 rfl (fun _ => rfl), rg_e_bipush (cut := rg_cut [13]) (f := false) d_W_keepTrail_29 rfl 31 rfl (nI 40) rg_kb_40, rg_e_imul (cut := rg_cut [13]) (f := false) d_W_keepTrail_31 rfl 32 rfl, rg_e_iload_1 (cut := rg_cut [13]) (f := false) d_W_keepTrail_32 rfl 33 rfl, rg_e_iadd (cut := rg_cut [13]) (f := false) d_W_keepTrail_33 rfl 34 rfl, rg_e_aload_0 (cut := rg_cut [13]) (f := false) d_W_keepTrail_34 rfl 35 rfl, rg_e_getr (P := P_W_keepTrail) (cut := rg_cut [13]) (f := false) d_W_keepTrail_35 rfl 38 rfl 13 3 4 16 rfl (fun _ => rfl), rg_e_iload_1 (cut := rg_cut [13]) (f := false) d_W_keepTrail_38 rfl 39 rfl, rg_e_iald (cut := rg_cut [13]) (f := false) d_W_keepTrail_39 rfl 40 rfl 16 40 rfl, rg_e_iast (cut := rg_cut [13]) (f := false) d_W_keepTrail_40 rfl 41 rfl 14 2000 rfl, rg_e_iinc_1 (cut := rg_cut [13]) (f := false) d_W_keepTrail_41 rfl 44 rfl (nI 1) rg_ki_1, rg_e_goto (cut := rg_cut [13]) (f := false) d_W_keepTrail_44 rfl 13 rfl, rg_e_aload_0 (cut := rg_cut [13]) (f := false) d_W_keepTrail_47 rfl 48 rfl, rg_e_getr (P := P_W_keepTrail) (cut := rg_cut [13]) (f := false) d_W_keepTrail_48 rfl 51 rfl 13 3 2 15 rfl (fun _ => rfl), rg_e_aload_0 (cut := rg_cut [13]) (f := false) d_W_keepTrail_51 rfl 52 rfl, rg_e_geti (P := P_W_keepTrail) (cut := rg_cut [13]) (f := false) d_W_keepTrail_52 rfl 55 rfl 13 3 3 rfl (fun _ => rfl), rg_e_aload_0 (cut := rg_cut [13]) (f := false) d_W_keepTrail_55 rfl 56 rfl, rg_e_geti (P := P_W_keepTrail) (cut := rg_cut [13]) (f := false) d_W_keepTrail_56 rfl 59 rfl 13 3 6 rfl (fun _ => rfl), rg_e_iast (cut := rg_cut [13]) (f := false) d_W_keepTrail_59 rfl 60 rfl 15 50 rfl, rg_e_aload_0 (cut := rg_cut [13]) (f := false) d_W_keepTrail_60 rfl 61 rfl, rg_e_dupr (cut := rg_cut [13]) (f := false) d_W_keepTrail_61 rfl 62 rfl, rg_e_geti (P := P_W_keepTrail) (cut := rg_cut [13]) (f := false) d_W_keepTrail_62 rfl 65 rfl 13 3 3 rfl (fun _ => rfl), rg_e_iconst (cut := rg_cut [13]) (f := false) d_W_keepTrail_65 rfl 66 rfl (nI 1) rg_ki_1, rg_e_iadd (cut := rg_cut [13]) (f := false) d_W_keepTrail_66 rfl 67 rfl, rg_e_put (P := P_W_keepTrail) (cut := rg_cut [13]) (f := false) d_W_keepTrail_67 rfl 70 rfl 13 3 3 rfl rfl, rg_e_iconst (cut := rg_cut [13]) (f := false) d_W_keepTrail_70 rfl 71 rfl (nI 1) rg_ki_1, rg_e_iret (cut := rg_cut [13]) (f := false) d_W_keepTrail_71 rfl, rg_e_cut (cut := rg_cut [13]) 13 rfl, rg_nx_i, rg_nx_v, rg_wd_n, rg_wd_i, rg_wd_l, rg_wd_r, rg_clr_i, rg_clr_l, rg_clr_r, rg_clr_a, rg_clr_n, true_and, and_true, Nat.reduceAdd, Nat.reduceLeDiff, rg_rt_e, rg_fit_ie, rg_fit_ve, rg_fit_1e, rg_fit_0e, rg_fit_be, vi, ci, x1, v1, c1, et, hc, hln, nI_add]
      refine ⟨fun h => absurd h (nI_ge hi9 (by omega)), fun _ => ih (i + 1) _ ⟨by omega, hl, rg_fr_up hf (by decide) _ _, by rw [rg_up_n (by decide)]; exact g13, by rw [rg_up_n (by decide)]; exact g15, fun q hq => ?_, fun b hb => ?_⟩ (by omega)⟩
      · rw [rg_up_s, upd_n (by omega)]
        exact g14 q hq
      · rw [rg_up_s]
        by_cases hbi : b = i
        · subst hbi; rw [upd_s]
        · rw [upd_n (by omega)]
          exact gi b (by omega)
    · obtain rfl : i = t.length := by omega
      have vA : vp_in (nI A.length) 50 := vp_in_nI hl (by omega)
      have cA : (nI A.length).toNatClampNeg = A.length := nI_clamp (by omega)
      refine hZ (rg_cut [13]) 400 13 _ _ _ ?_; simp only [rg_e_iload_1 (cut := rg_cut [13]) (f := true) d_W_keepTrail_13 rfl 14 rfl, rg_e_aload_0 (cut := rg_cut [13]) (f := false) d_W_keepTrail_14 rfl 15 rfl, rg_e_geti (P := P_W_keepTrail) (cut := rg_cut [13]) (f := false) d_W_keepTrail_15 rfl 18 rfl 13 3 6 rfl (fun _ => rfl), rg_e_icmp_ge (cut := rg_cut [13]) (f := false) d_W_keepTrail_18 rfl 21 rfl 47 rfl, rg_e_aload_0 (cut := rg_cut [13]) (f := false) d_W_keepTrail_21 rfl 22 rfl, rg_e_getr (P := P_W_keepTrail) (cut := rg_cut [13]) (f := false) d_W_keepTrail_22 rfl 25 rfl 13 3 1 14 rfl (fun _ => rfl), rg_e_aload_0 (cut := rg_cut [13]) (f := false) d_W_keepTrail_25 rfl 26 rfl, rg_e_geti (P := P_W_keepTrail) (cut := rg_cut [13]) (f := false) d_W_keepTrail_26 rfl 29 rfl 13 3 3 rfl (fun _ => rfl), rg_e_bipush (cut := rg_cut [13]) (f := false) d_W_keepTrail_29 rfl 31 rfl (nI 40) rg_kb_40, rg_e_imul (cut := rg_cut [13]) (f := false) d_W_keepTrail_31 rfl 32 rfl, rg_e_iload_1 (cut := rg_cut [13]) (f := false) d_W_keepTrail_32 rfl 33 rfl, rg_e_iadd (cut := rg_cut [13]) (f := false) d_W_keepTrail_33 rfl 34 rfl, rg_e_aload_0 (cut := rg_cut [13]) (f := false) d_W_keepTrail_34 rfl 35 rfl, rg_e_getr (P := P_W_keepTrail) (cut := rg_cut [13]) (f := false) d_W_keepTrail_35 rfl 38 rfl 13 3 4 16 rfl (fun _ => rfl), rg_e_iload_1 (cut := rg_cut [13]) (f := false) d_W_keepTrail_38 rfl 39 rfl, rg_e_iald (cut := rg_cut [13]) (f := false) d_W_keepTrail_39 rfl 40 rfl 16 40 rfl, rg_e_iast (cut := rg_cut [13]) (f := false) d_W_keepTrail_40 rfl 41 rfl 14 2000 rfl, rg_e_iinc_1 (cut := rg_cut [13]) (f := false) d_W_keepTrail_41 rfl 44 rfl (nI 1) rg_ki_1, rg_e_goto (cut := rg_cut [13]) (f := false) d_W_keepTrail_44 rfl 13 rfl, rg_e_aload_0 (cut := rg_cut [13]) (f := false) d_W_keepTrail_47 rfl 48 rfl, rg_e_getr (P := P_W_keepTrail) (cut := rg_cut [13]) (f := false) d_W_keepTrail_48 rfl 51 rfl 13 3 2 15 rfl (fun _ => rfl), rg_e_aload_0 (cut := rg_cut [13]) (f := false) d_W_keepTrail_51 rfl 52 rfl, rg_e_geti (P := P_W_keepTrail) (cut := rg_cut [13]) (f := false) d_W_keepTrail_52 rfl 55 rfl 13 3 3 rfl (fun _ => rfl), rg_e_aload_0 (cut := rg_cut [13]) (f := false) d_W_keepTrail_55 rfl 56 rfl, rg_e_geti (P := P_W_keepTrail) (cut := rg_cut [13]) (f := false) d_W_keepTrail_56 rfl 59 rfl 13 3 6 rfl (fun _ => rfl), rg_e_iast (cut := rg_cut [13]) (f := false) d_W_keepTrail_59 rfl 60 rfl 15 50 rfl, rg_e_aload_0 (cut := rg_cut [13]) (f := false) d_W_keepTrail_60 rfl 61 rfl, rg_e_dupr (cut := rg_cut [13]) (f := false) d_W_keepTrail_61 rfl 62 rfl, rg_e_geti (P := P_W_keepTrail) (cut := rg_cut [13]) (f := false) d_W_keepTrail_62 rfl 65 rfl 13 3 3 rfl (fun _ => rfl), rg_e_iconst (cut := rg_cut [13]) (f := false) d_W_keepTrail_65 rfl 66 rfl (nI 1) rg_ki_1, rg_e_iadd (cut := rg_cut [13]) (f := false) d_W_keepTrail_66 rfl 67 rfl, rg_e_put (P := P_W_keepTrail) (cut := rg_cut [13]) (f := false) d_W_keepTrail_67 rfl 70 rfl 13 3 3 rfl rfl, rg_e_iconst (cut := rg_cut [13]) (f := false) d_W_keepTrail_70 rfl 71 rfl (nI 1) rg_ki_1, rg_e_iret (cut := rg_cut [13]) (f := false) d_W_keepTrail_71 rfl, rg_e_cut (cut := rg_cut [13]) 13 rfl, rg_nx_i, rg_nx_v, rg_wd_n, rg_wd_i, rg_wd_l, rg_wd_r, rg_clr_i, rg_clr_l, rg_clr_r, rg_clr_a, rg_clr_n, true_and, and_true, Nat.reduceAdd, Nat.reduceLeDiff, rg_rt_e, rg_fit_ie, rg_fit_ve, rg_fit_1e, rg_fit_0e, rg_fit_be, vA, cA, hc, hln, nI_add, rg_up_n, ne_eq, not_false_eq_true, Nat.reduceEqDiff]
      refine ⟨fun _ => hK1 hl _ (rg_fr_up (rg_fr_up hf (by decide) _ _) (by decide) _ _) (fun q hq => ?_) ⟨?_, ?_, fun k hk => ?_⟩, fun h => absurd (nI_le (Nat.le_refl _) (by omega)) h⟩
      · rw [rg_up_s, upd_n hq, rg_up_n (by decide), g13]
      · rw [rg_up_ss, List.length_append, List.length_singleton]
      · rw [List.length_append, List.length_singleton]; omega
      · rw [List.length_append, List.length_singleton] at hk
        simp only [rg_up_s, rg_up_n, ne_eq, not_false_eq_true, Nat.reduceEqDiff]
        by_cases hke : k = A.length
        · subst hke
          rw [getD_e, upd_s]
          exact ⟨h2, rfl, gi⟩
        · rw [getD_l (by omega), upd_n hke, g15]
          obtain ⟨q1, q2, q3⟩ := a3 k (by omega)
          exact ⟨q1, q2, fun i hi => by rw [g14 _ (by omega)]; exact q3 i hi⟩
  refine hZ (rg_cut [13]) 400 0 _ _ _ ?_; simp only [rg_e_aload_0 (cut := rg_cut [13]) (f := true) d_W_keepTrail_0 rfl 1 rfl, rg_e_geti (P := P_W_keepTrail) (cut := rg_cut [13]) (f := false) d_W_keepTrail_1 rfl 4 rfl 13 3 3 rfl (fun _ => rfl), rg_e_bipush (cut := rg_cut [13]) (f := false) d_W_keepTrail_4 rfl 6 rfl (nI 50) rg_kb_50, rg_e_icmp_ne (cut := rg_cut [13]) (f := false) d_W_keepTrail_6 rfl 9 rfl 11 rfl, rg_e_iconst (cut := rg_cut [13]) (f := false) d_W_keepTrail_9 rfl 10 rfl (nI 0) rg_ki_0, rg_e_iret (cut := rg_cut [13]) (f := false) d_W_keepTrail_10 rfl, rg_e_iconst (cut := rg_cut [13]) (f := false) d_W_keepTrail_11 rfl 12 rfl (nI 0) rg_ki_0, rg_e_istore_1 (cut := rg_cut [13]) (f := false) d_W_keepTrail_12 rfl 13 rfl, rg_e_cut (cut := rg_cut [13]) 13 rfl, rg_nx_i, rg_nx_v, rg_wd_n, rg_wd_i, rg_wd_l, rg_wd_r, rg_clr_i, rg_clr_l, rg_clr_r, rg_clr_a, rg_clr_n, true_and, and_true, Nat.reduceAdd, Nat.reduceLeDiff, rg_rt_e, rg_fit_ie, rg_fit_ve, rg_fit_1e, rg_fit_0e, rg_fit_be, a1]
  rw [nI_eqp (by omega) (by omega)]
  refine ⟨fun h => loop 0 w ⟨by omega, by omega, rg_fr_rf _ _, rfl, rfl, fun _ _ => rfl, fun b hb => absurd hb (by omega)⟩, fun h => hK0 (Classical.not_not.mp h)⟩
end
section
/-! Walks: the search -/
/-- an edge that may be put behind a trail -/
noncomputable def okB (hg : Nat → Nat → Nat) (t : List Nat) (e : Nat) : Bool := decide (sr hg e = ds hg (lst t)) && sfB hg t e
/-- those of k numbers from x on that have q -/
def cR (q : Nat → Bool) : Nat → Nat → List Nat
  | _, 0 => []
  | x, k + 1 => if q x = true then x :: cR q (x + 1) k else cR q (x + 1) k
theorem cR_no {q : Nat → Bool} : ∀ k x, (∀ e, x ≤ e → e < x + k → q e = false) → cR q x k = []
  | 0, _, _ => rfl
  | k + 1, x, h => by
    rw [cR, if_neg (by rw [h x (by omega) (by omega)]; decide)]
    exact cR_no k (x + 1) (fun e h1 h2 => h e (by omega) (by omega))
theorem cR_skip {q : Nat → Bool} : ∀ d x k, (∀ e, x ≤ e → e < x + d → q e = false) → cR q x (d + k) = cR q (x + d) k
  | 0, x, k, _ => by rw [Nat.zero_add]; rfl
  | d + 1, x, k, h => by
    rw [show d + 1 + k = (d + k) + 1 by omega, cR, if_neg (by rw [h x (by omega) (by omega)]; decide), cR_skip d (x + 1) k (fun e h1 h2 => h e (by omega) (by omega))]
    rw [show x + 1 + d = x + (d + 1) by omega]
theorem cR_cons {q : Nat → Bool} : ∀ k x e cs, cR q x k = e :: cs → x ≤ e ∧ e < x + k ∧ q e = true ∧ cR q (e + 1) (x + k - (e + 1)) = cs
  | 0, x, e, cs, h => by cases h
  | k + 1, x, e, cs, h => by
    rw [cR] at h
    split at h
    · rename_i hq
      injection h with h1 h2
      subst h1
      refine ⟨Nat.le_refl _, by omega, hq, ?_⟩
      rw [show x + (k + 1) - (x + 1) = k by omega]
      exact h2
    · obtain ⟨a, b, c, d⟩ := cR_cons k (x + 1) e cs h
      refine ⟨by omega, by omega, c, ?_⟩
      rw [show x + (k + 1) - (e + 1) = x + 1 + k - (e + 1) by omega]
      exact d
theorem cR_nb {q p : Nat → Bool} {hi N : Nat} (hN : hi ≤ N) (h2 : ∀ e, hi ≤ e → e < N → q e = false) : ∀ k x, k = hi - x → x ≤ N → (∀ e, x ≤ e → e < hi → q e = p e) → nbF p x k = (cR q x (N - x)).head? := by
  intro k
  induction k with
  | zero =>
    intro x hk hx h1
    rw [cR_no (N - x) x (fun e a b => h2 e (by omega) (by omega))]
    rfl
  | succ k ih =>
    intro x hk hx h1
    rw [nbF, show N - x = (N - (x + 1)) + 1 by omega, cR, h1 x (by omega) (by omega)]
    by_cases hp : p x = true
    · rw [if_pos hp, if_pos hp]; rfl
    · rw [if_neg hp, if_neg hp]
      exact ih (x + 1) (by omega) (by omega) (fun e a b => h1 e (by omega) b)
theorem esT_app (hg : Nat → Nat → Nat) (s : Nat) : ∀ t, s ≤ t → ∃ r, esT hg t = esT hg s ++ r ∧ ∀ z ∈ r, s ≤ z := by
  intro t
  induction t with
  | zero =>
    intro h
    obtain rfl : s = 0 := by omega
    exact ⟨[], by simp, fun z hz => by cases hz⟩
  | succ t ih =>
    intro h
    by_cases hs : s = t + 1
    · subst hs
      exact ⟨[], by simp, fun z hz => by cases hz⟩
    · obtain ⟨r, h1, h2⟩ := ih (by omega)
      refine ⟨r ++ (if kp hg t = true then [t] else []), by rw [esT_s, h1, List.append_assoc], fun z hz => ?_⟩
      rcases List.mem_append.mp hz with h3 | h3
      · exact h2 z h3
      · split at h3
        · rw [List.mem_singleton.mp h3]; omega
        · cases h3
theorem esT_cut {hg : Nat → Nat → Nat} {s e : Nat} (hs : s ≤ 81) (he : e < eN hg) : e < (esT hg s).length ↔ (esT hg 81).getD e 0 < s := by
  obtain ⟨r, h1, h2⟩ := esT_app hg s 81 hs
  constructor
  · intro h
    rw [h1, getD_l h]
    exact (esT_lt h).1
  · intro h
    rcases Nat.lt_or_ge e (esT hg s).length with q | q
    · exact q
    · exfalso
      have hm : (esT hg 81).getD e 0 ∈ r := by
        unfold eN at he
        rw [h1, List.length_append] at he
        rw [h1, List.getD_eq_getElem?_getD, List.getElem?_append_right q, List.getElem?_eq_getElem (by omega)]
        exact List.getElem_mem _
      have := h2 _ hm
      omega
theorem sr_iff {hg : Nat → Nat → Nat} {d e : Nat} (hd : d < 9) (he : e < eN hg) : sr hg e = d ↔ (esT hg (9 * d)).length ≤ e ∧ e < (esT hg (9 * (d + 1))).length := by
  have h1 := esT_cut (hg := hg) (s := 9 * d) (by omega) he
  have h2 := esT_cut (hg := hg) (s := 9 * (d + 1)) (by omega) he
  unfold sr
  omega
/-- the edges behind trail t from number x on -/
noncomputable def cs_ (hg : Nat → Nat → Nat) (t : List Nat) (x : Nat) : List Nat := cR (okB hg t) x (eN hg - x)
theorem cs_nb {hg : Nat → Nat → Nat} {t : List Nat} {x : Nat} (hd : ds hg (lst t) < 9) (hx : (esT hg (9 * ds hg (lst t))).length ≤ x) (hxN : x ≤ eN hg) :
    nbF (sfB hg t) x ((esT hg (9 * (ds hg (lst t) + 1))).length - x) = (cs_ hg t x).head? := by
  have hm : (esT hg (9 * (ds hg (lst t) + 1))).length ≤ eN hg := esT_mono hg (by omega)
  refine cR_nb hm (fun e h1 h2 => ?_) _ x rfl hxN (fun e h1 h2 => ?_)
  · unfold okB
    rw [decide_eq_false, Bool.false_and]
    intro h
    have := (sr_iff hd h2).mp h
    omega
  · unfold okB
    rw [decide_eq_true, Bool.true_and]
    exact (sr_iff hd (by omega)).mpr ⟨by omega, h2⟩
theorem cs_0 {hg : Nat → Nat → Nat} {t : List Nat} (hd : ds hg (lst t) < 9) : cs_ hg t 0 = cs_ hg t (esT hg (9 * ds hg (lst t))).length := by
  have hm : (esT hg (9 * ds hg (lst t))).length ≤ eN hg := esT_mono hg (by omega)
  unfold cs_
  have := cR_skip (q := okB hg t) (esT hg (9 * ds hg (lst t))).length 0 (eN hg - (esT hg (9 * ds hg (lst t))).length) (fun e h1 h2 => by
    unfold okB
    rw [decide_eq_false, Bool.false_and]
    intro h
    have := (sr_iff hd (by omega)).mp h
    omega)
  rw [show (esT hg (9 * ds hg (lst t))).length + (eN hg - (esT hg (9 * ds hg (lst t))).length) = eN hg - 0 by omega, Nat.zero_add] at this
  exact this
def vL (V : List Nat → Option (List (List Nat))) (t : List Nat) : List Nat → Option (List (List Nat))
  | [] => some []
  | e :: cs => match V (t ++ [e]), vL V t cs with
    | some a, some b => some (a ++ b)
    | _, _ => none
/-- what the search finds behind trail t, if no walk is too long (k more edges are too many) -/
noncomputable def vis (hg : Nat → Nat → Nat) : Nat → List Nat → Option (List (List Nat))
  | 0, _ => none
  | k + 1, t => if cs_ hg t 0 = [] then some (if preB hg t = true then [] else [t]) else vL (vis hg k) t (cs_ hg t 0)
def cL (C : List Nat → Nat) (t : List Nat) : List Nat → Nat
  | [] => 1
  | e :: cs => 1 + C (t ++ [e]) + cL C t cs
/-- how many steps it takes -/
noncomputable def szV (hg : Nat → Nat → Nat) : Nat → List Nat → Nat
  | 0, _ => 0
  | k + 1, t => cL (szV hg k) t (cs_ hg t 0)
noncomputable def rs_ (hg : Nat → Nat → Nat) (k : Nat) (t cs : List Nat) (g : Bool) : Option (List (List Nat)) := if cs = [] then some (if (g || preB hg t) = true then [] else [t]) else vL (vis hg k) t cs
theorem rs_cons (hg : Nat → Nat → Nat) (k : Nat) (t : List Nat) (e : Nat) (cs : List Nat) (g : Bool) : rs_ hg k t (e :: cs) g = (match vis hg k (t ++ [e]), rs_ hg k t cs true with
    | some a, some b => some (a ++ b)
    | _, _ => none) := by
  have h : rs_ hg k t cs true = vL (vis hg k) t cs := by
    unfold rs_
    by_cases hc : cs = []
    · subst hc; rfl
    · rw [if_neg hc]
  rw [h]
  unfold rs_
  rw [if_neg (by simp)]
  rfl
theorem vis_rs (hg : Nat → Nat → Nat) (k : Nat) (t : List Nat) : vis hg (k + 1) t = rs_ hg k t (cs_ hg t 0) false := by
  unfold vis rs_
  rfl
/-- a state of the search -/
def St (hg : Nat → Nat → Nat) (w0 : rg_W) (A : List (List Nat)) (t : List Nat) (nx : Nat → Nat) (w : rg_W) : Prop := rg_fr [13, 14, 15, 16, 17] w0 w ∧ Tr hg t w ∧ Ac A w ∧ ∀ i, i < t.length → w.1 17 i = nI (nx i) ∧ nx i < 2 ^ 30
theorem lst_app (t : List Nat) (e : Nat) : lst (t ++ [e]) = e := by
  unfold lst
  rw [List.length_append, List.length_singleton, Nat.add_sub_cancel]
  exact getD_e
end
section
/-! Walks: findFrom, find -/
theorem St.nx {hg : Nat → Nat → Nat} {w0 w : rg_W} {A : List (List Nat)} {t : List Nat} {nx ny : Nat → Nat} (h : St hg w0 A t nx w) (e : ∀ i, i < t.length → nx i = ny i) : St hg w0 A t ny w :=
  ⟨h.1, h.2.1, h.2.2.1, fun i hi => by rw [← e i hi]; exact h.2.2.2 i hi⟩
theorem take_gD {t : List Nat} {n i : Nat} (h : i < n) : (t.take n).getD i 0 = t.getD i 0 := by
  rw [List.getD_eq_getElem?_getD, List.getD_eq_getElem?_getD, List.getElem?_take_of_lt h]
theorem take_len {t : List Nat} : (t.take (t.length - 1)).length = t.length - 1 := by
  rw [List.length_take]
  omega
-- W.findFrom
def P_W_findFrom : rg_P := (rg_F_W, [(95, 1, 0, T_W_nextBehind), (79, 2, 0, T_W_stepOn), (103, 1, 0, T_W_hasBefore), (111, 1, 0, T_W_keepTrail)], [], [], [], [], 0)
def T_W_findFrom : rg_T := fun as w K => match as with
  | [.ref 13, .int most] => ∃ hg e A M, GrE hg w ∧ FoW hg w ∧ most = nI M ∧ M ≤ 100000 ∧ St hg w A [e] (fun _ => (esT hg (9 * ds hg e)).length) w ∧ (∀ R w', vis hg 40 [e] = some R → A.length + R.length ≤ 50 → szV hg 40 [e] ≤ M → rg_fr [13, 14, 15, 16, 17] w w' → Ac (A ++ R) w' → K (some (.int (nI (M - szV hg 40 [e] + 1)))) w') ∧ (¬ (∃ R, vis hg 40 [e] = some R ∧ A.length + R.length ≤ 50 ∧ szV hg 40 [e] ≤ M) → ∀ w', rg_fr [13, 14, 15, 16, 17] w w' → K (some (.int (-1))) w')
  | _ => False
theorem Te_W_findFrom (most : Int32) (w : rg_W) (K : Option Value → rg_W → Prop) : T_W_findFrom [.ref 13, .int most] w K = (∃ hg e A M, GrE hg w ∧ FoW hg w ∧ most = nI M ∧ M ≤ 100000 ∧ St hg w A [e] (fun _ => (esT hg (9 * ds hg e)).length) w ∧ (∀ R w', vis hg 40 [e] = some R → A.length + R.length ≤ 50 → szV hg 40 [e] ≤ M → rg_fr [13, 14, 15, 16, 17] w w' → Ac (A ++ R) w' → K (some (.int (nI (M - szV hg 40 [e] + 1)))) w') ∧ (¬ (∃ R, vis hg 40 [e] = some R ∧ A.length + R.length ≤ 50 ∧ szV hg 40 [e] ≤ M) → ∀ w', rg_fr [13, 14, 15, 16, 17] w w' → K (some (.int (-1))) w')) := rfl
theorem r_W_findFrom : ∀ as w K, T_W_findFrom as w K → ∃ r, as = .ref 13 :: r := by
  intro as w K h
  unfold T_W_findFrom at h
  split at h
  · exact ⟨_, rfl⟩
  · exact h.elim
theorem G_W_findFrom (l : Launch) : rg_Good l y_W_findFrom c_W_findFrom 5 (some .int) 4 T_W_findFrom := by
  refine rg_good_of (P := P_W_findFrom) (by decide) (rg_pok rg_F_W_ok (rg_cons (cw_W_47 (G_W_nextBehind l) (by decide) r_W_nextBehind) (rg_cons (cw_W_39 (G_W_stepOn l) (by decide) r_W_stepOn) (rg_cons (cw_W_51 (G_W_hasBefore l) (by decide) r_W_hasBefore) (rg_cons (cw_W_55 (G_W_keepTrail l) (by decide) r_W_keepTrail) rg_nil))))) ?_
  intro as w K Z hT hZ
  unfold T_W_findFrom at hT
  split at hT
  rotate_left
  · exact hT.elim
  rename_i most
  refine ⟨Nat.le_of_ble_eq_true rfl, ?_⟩
  show Z 0 [.ref 13, .int most, .null, .null, .null] [] w 0
  obtain ⟨hg, e0, A0, M0, hG, hF, rfl, hM0, hS0, hK1, hK0⟩ := hT
  have h72 := eN_le hG.2.2
  have popZ : ∀ (t : List Nat) (w2 : rg_W) (M : Nat) (A2 : List (List Nat)) (nx : Nat → Nat) (g2 : Int32) (a4 : Value), 0 < t.length → St hg w A2 t nx w2 → 1 ≤ M → M ≤ 100000 → (∀ w', St hg w A2 (t.take (t.length - 1)) nx w' → (t.length = 1 → K (some (.int (nI M))) w') ∧ (1 < t.length → ∀ a4 : Value, Z 4 [.ref 13, .int (nI M0), .int (nI 1), .int (nI (M - 1)), a4] [] w' 0)) → Z 61 [.ref 13, .int (nI M0), .int g2, .int (nI M), a4] [] w2 0 := by
    intro t w2 M A2 nx g2 a4 ht hS h1 hM hk
    obtain ⟨hf, hT, hA, hn⟩ := hS
    have ln := hT.1
    have hl40 := hT.2.1
    have s1 : nI t.length - nI 1 = nI (t.length - 1) := pk_sub (by omega)
    have m1 : nI M + (-1) = nI (M - 1) := by rw [i_m1, pk_sub h1]
    refine hZ (rg_cut [4, 61]) 400 61 _ _ _ ?_; simp only [rg_e_aload_0 (cut := rg_cut [4, 61]) (f := true) d_W_findFrom_61 rfl 62 rfl, rg_e_dupr (cut := rg_cut [4, 61]) (f := false) d_W_findFrom_62 rfl 63 rfl, rg_e_geti (P := P_W_findFrom) (cut := rg_cut [4, 61]) (f := false) d_W_findFrom_63 rfl 66 rfl 13 3 6 rfl (fun _ => rfl), rg_e_iconst (cut := rg_cut [4, 61]) (f := false) d_W_findFrom_66 rfl 67 rfl (nI 1) rg_ki_1, rg_e_isub (cut := rg_cut [4, 61]) (f := false) d_W_findFrom_67 rfl 68 rfl, rg_e_put (P := P_W_findFrom) (cut := rg_cut [4, 61]) (f := false) d_W_findFrom_68 rfl 71 rfl 13 3 6 rfl rfl, rg_e_iconst (cut := rg_cut [4, 61]) (f := false) d_W_findFrom_71 rfl 72 rfl (nI 1) rg_ki_1, rg_e_istore_2 (cut := rg_cut [4, 61]) (f := false) d_W_findFrom_72 rfl 73 rfl, rg_e_aload_0 (cut := rg_cut [4, 61]) (f := false) d_W_findFrom_73 rfl 74 rfl, rg_e_geti (P := P_W_findFrom) (cut := rg_cut [4, 61]) (f := false) d_W_findFrom_74 rfl 77 rfl 13 3 6 rfl (fun _ => rfl), rg_e_if_ne (cut := rg_cut [4, 61]) (f := false) d_W_findFrom_77 rfl 80 rfl 82 rfl, rg_e_iload_3 (cut := rg_cut [4, 61]) (f := false) d_W_findFrom_80 rfl 81 rfl, rg_e_iret (cut := rg_cut [4, 61]) (f := false) d_W_findFrom_81 rfl, rg_e_iinc_3 (cut := rg_cut [4, 61]) (f := false) d_W_findFrom_82 rfl 85 rfl (-1) rg_ki_m1, rg_e_goto (cut := rg_cut [4, 61]) (f := false) d_W_findFrom_85 rfl 4 rfl, rg_e_cut (cut := rg_cut [4, 61]) 4 rfl, rg_e_cut (cut := rg_cut [4, 61]) 61 rfl, rg_nx_i, rg_nx_v, rg_wd_n, rg_wd_i, rg_wd_l, rg_wd_r, rg_clr_i, rg_clr_l, rg_clr_r, rg_clr_a, rg_clr_n, true_and, and_true, Nat.reduceAdd, Nat.reduceLeDiff, ↓Te_W_nextBehind, ↓Te_W_stepOn, ↓Te_W_hasBefore, ↓Te_W_keepTrail, rg_rt_e, rg_fit_ie, rg_fit_ve, rg_fit_1e, rg_fit_0e, rg_fit_be, ln, s1, rg_up_ss, m1]
    have hS' : St hg w A2 (t.take (t.length - 1)) nx (rg_up w2 13 6 (nI (t.length - 1))) := by
      refine ⟨rg_fr_up hf (by decide) _ _, ⟨?_, ?_, fun f hf => hT.2.2.1 f (List.mem_of_mem_take hf), fun i hi => ?_⟩, ⟨?_, hA.2.1, fun k hk => ?_⟩, fun i hi => ?_⟩
      · rw [rg_up_ss, take_len]
      · rw [take_len]; omega
      · rw [take_len] at hi
        rw [rg_up_n (by decide), take_gD hi]
        exact hT.2.2.2 i (by omega)
      · rw [rg_up_s, upd_n (by decide)]
        exact hA.1
      · rw [rg_up_n (by decide), rg_up_n (by decide)]
        exact hA.2.2 k hk
      · rw [take_len] at hi
        rw [rg_up_n (by decide)]
        exact hn i (by omega)
    obtain ⟨q1, q2⟩ := hk _ hS'
    rw [nI_eq0 (by omega)]
    exact ⟨fun h => q2 (by omega) _, fun h => q1 (by omega)⟩
  have claim : ∀ (k : Nat) (t cs : List Nat) (x M : Nat) (g : Bool) (A : List (List Nat)) (w1 : rg_W) (nx : Nat → Nat) (a4 : Value), t.length + (k + 1) = 41 → 0 < t.length → St hg w A t nx w1 → nx (t.length - 1) = x → (esT hg (9 * ds hg (lst t))).length ≤ x → x ≤ eN hg → cs_ hg t x = cs → M ≤ 100000 →
      (¬ (∃ R, rs_ hg k t cs g = some R ∧ A.length + R.length ≤ 50 ∧ cL (szV hg k) t cs ≤ M) → ∀ w', rg_fr [13, 14, 15, 16, 17] w w' → K (some (.int (-1))) w') →
      (∀ R w', rs_ hg k t cs g = some R → A.length + R.length ≤ 50 → cL (szV hg k) t cs ≤ M → St hg w (A ++ R) (t.take (t.length - 1)) nx w' → (t.length = 1 → K (some (.int (nI (M - cL (szV hg k) t cs + 1)))) w') ∧ (1 < t.length → ∀ a4 : Value, Z 4 [.ref 13, .int (nI M0), .int (nI 1), .int (nI (M - cL (szV hg k) t cs)), a4] [] w' 0)) →
      Z 4 [.ref 13, .int (nI M0), .int (zI g), .int (nI M), a4] [] w1 0 := by
    intro k
    induction k using Nat.strongRecOn with
    | ind k ihk =>
    intro t cs
    induction cs with
    | nil =>
      intro x M g A w1 nx a4 hk ht hS hx hlo hxN hcs hM hfail hok
      obtain ⟨hf, hT, hA, hn⟩ := id hS
      have hG1 := hG.fr hf
      have hF1 := hF.fr hf
      have hle : lst t < eN hg := hT.2.2.1 _ (gD_mem (by omega))
      have hd := (sr_lt hle).2
      have hnb := cs_nb hd hlo hxN
      rw [hcs] at hnb
      have ln := hT.1
      have hc1 : cL (szV hg k) t [] = 1 := rfl
      rcases Nat.eq_zero_or_pos M with hM0' | hMp
      · subst hM0'
        refine hZ (rg_cut [4, 61]) 400 4 _ _ _ ?_; simp only [rg_e_iload_3 (cut := rg_cut [4, 61]) (f := true) d_W_findFrom_4 rfl 5 rfl, rg_e_if_le (cut := rg_cut [4, 61]) (f := false) d_W_findFrom_5 rfl 8 rfl 88 rfl, rg_e_aload_0 (cut := rg_cut [4, 61]) (f := false) d_W_findFrom_8 rfl 9 rfl, rg_e_cv1 (P := P_W_findFrom) (cut := rg_cut [4, 61]) (f := false) d_W_findFrom_9 rfl T_W_nextBehind rfl, rg_e_istore_4 (cut := rg_cut [4, 61]) (f := false) d_W_findFrom_12 rfl 14 rfl, rg_e_iload_4 (cut := rg_cut [4, 61]) (f := false) d_W_findFrom_14 rfl 16 rfl, rg_e_if_lt (cut := rg_cut [4, 61]) (f := false) d_W_findFrom_16 rfl 19 rfl 41 rfl, rg_e_aload_0 (cut := rg_cut [4, 61]) (f := false) d_W_findFrom_19 rfl 20 rfl, rg_e_geti (P := P_W_findFrom) (cut := rg_cut [4, 61]) (f := false) d_W_findFrom_20 rfl 23 rfl 13 3 6 rfl (fun _ => rfl), rg_e_bipush (cut := rg_cut [4, 61]) (f := false) d_W_findFrom_23 rfl 25 rfl (nI 40) rg_kb_40, rg_e_icmp_ne (cut := rg_cut [4, 61]) (f := false) d_W_findFrom_25 rfl 28 rfl 30 rfl, rg_e_iconst (cut := rg_cut [4, 61]) (f := false) d_W_findFrom_28 rfl 29 rfl (-1) rg_ki_m1, rg_e_iret (cut := rg_cut [4, 61]) (f := false) d_W_findFrom_29 rfl, rg_e_aload_0 (cut := rg_cut [4, 61]) (f := false) d_W_findFrom_30 rfl 31 rfl, rg_e_iload_4 (cut := rg_cut [4, 61]) (f := false) d_W_findFrom_31 rfl 33 rfl, rg_e_cv2 (P := P_W_findFrom) (cut := rg_cut [4, 61]) (f := false) d_W_findFrom_33 rfl T_W_stepOn rfl, rg_e_iconst (cut := rg_cut [4, 61]) (f := false) d_W_findFrom_36 rfl 37 rfl (nI 0) rg_ki_0, rg_e_istore_2 (cut := rg_cut [4, 61]) (f := false) d_W_findFrom_37 rfl 38 rfl, rg_e_goto (cut := rg_cut [4, 61]) (f := false) d_W_findFrom_38 rfl 73 rfl, rg_e_iload_2 (cut := rg_cut [4, 61]) (f := false) d_W_findFrom_41 rfl 42 rfl, rg_e_if_ne (cut := rg_cut [4, 61]) (f := false) d_W_findFrom_42 rfl 45 rfl 61 rfl, rg_e_aload_0 (cut := rg_cut [4, 61]) (f := false) d_W_findFrom_45 rfl 46 rfl, rg_e_cv1 (P := P_W_findFrom) (cut := rg_cut [4, 61]) (f := false) d_W_findFrom_46 rfl T_W_hasBefore rfl, rg_e_if_ne (cut := rg_cut [4, 61]) (f := false) d_W_findFrom_49 rfl 52 rfl 61 rfl, rg_e_aload_0 (cut := rg_cut [4, 61]) (f := false) d_W_findFrom_52 rfl 53 rfl, rg_e_cv1 (P := P_W_findFrom) (cut := rg_cut [4, 61]) (f := false) d_W_findFrom_53 rfl T_W_keepTrail rfl, rg_e_if_ne (cut := rg_cut [4, 61]) (f := false) d_W_findFrom_56 rfl 59 rfl 61 rfl, rg_e_iconst (cut := rg_cut [4, 61]) (f := false) d_W_findFrom_59 rfl 60 rfl (-1) rg_ki_m1, rg_e_iret (cut := rg_cut [4, 61]) (f := false) d_W_findFrom_60 rfl, rg_e_aload_0 (cut := rg_cut [4, 61]) (f := false) d_W_findFrom_73 rfl 74 rfl, rg_e_geti (P := P_W_findFrom) (cut := rg_cut [4, 61]) (f := false) d_W_findFrom_74 rfl 77 rfl 13 3 6 rfl (fun _ => rfl), rg_e_if_ne (cut := rg_cut [4, 61]) (f := false) d_W_findFrom_77 rfl 80 rfl 82 rfl, rg_e_iload_3 (cut := rg_cut [4, 61]) (f := false) d_W_findFrom_80 rfl 81 rfl, rg_e_iret (cut := rg_cut [4, 61]) (f := false) d_W_findFrom_81 rfl, rg_e_iinc_3 (cut := rg_cut [4, 61]) (f := false) d_W_findFrom_82 rfl 85 rfl (-1) rg_ki_m1, rg_e_goto (cut := rg_cut [4, 61]) (f := false) d_W_findFrom_85 rfl 4 rfl, rg_e_iconst (cut := rg_cut [4, 61]) (f := false) d_W_findFrom_88 rfl 89 rfl (-1) rg_ki_m1, rg_e_iret (cut := rg_cut [4, 61]) (f := false) d_W_findFrom_89 rfl, rg_e_cut (cut := rg_cut [4, 61]) 4 rfl, rg_e_cut (cut := rg_cut [4, 61]) 61 rfl, rg_nx_i, rg_nx_v, rg_wd_n, rg_wd_i, rg_wd_l, rg_wd_r, rg_clr_i, rg_clr_l, rg_clr_r, rg_clr_a, rg_clr_n, true_and, and_true, Nat.reduceAdd, Nat.reduceLeDiff, ↓Te_W_nextBehind, ↓Te_W_stepOn, ↓Te_W_hasBefore, ↓Te_W_keepTrail, rg_rt_e, rg_fit_ie, rg_fit_ve, rg_fit_1e, rg_fit_0e, rg_fit_be]
        refine ⟨fun _ => hfail ?_ w1 hf, fun h => absurd (by decide +kernel) h⟩
        rintro ⟨R, -, -, h⟩
        rw [hc1] at h
        omega
      · have mle : (nI M ≤ 0) = False := eq_false (nI_nle hMp (by omega))
        have n1 : ((-1 : Int32) < 0) = True := eq_true (by decide +kernel)
        refine hZ (rg_cut [4, 61]) 400 4 _ _ _ ?_; simp only [rg_e_iload_3 (cut := rg_cut [4, 61]) (f := true) d_W_findFrom_4 rfl 5 rfl, rg_e_if_le (cut := rg_cut [4, 61]) (f := false) d_W_findFrom_5 rfl 8 rfl 88 rfl, rg_e_aload_0 (cut := rg_cut [4, 61]) (f := false) d_W_findFrom_8 rfl 9 rfl, rg_e_cv1 (P := P_W_findFrom) (cut := rg_cut [4, 61]) (f := false) d_W_findFrom_9 rfl T_W_nextBehind rfl, rg_e_istore_4 (cut := rg_cut [4, 61]) (f := false) d_W_findFrom_12 rfl 14 rfl, rg_e_iload_4 (cut := rg_cut [4, 61]) (f := false) d_W_findFrom_14 rfl 16 rfl, rg_e_if_lt (cut := rg_cut [4, 61]) (f := false) d_W_findFrom_16 rfl 19 rfl 41 rfl, rg_e_aload_0 (cut := rg_cut [4, 61]) (f := false) d_W_findFrom_19 rfl 20 rfl, rg_e_geti (P := P_W_findFrom) (cut := rg_cut [4, 61]) (f := false) d_W_findFrom_20 rfl 23 rfl 13 3 6 rfl (fun _ => rfl), rg_e_bipush (cut := rg_cut [4, 61]) (f := false) d_W_findFrom_23 rfl 25 rfl (nI 40) rg_kb_40, rg_e_icmp_ne (cut := rg_cut [4, 61]) (f := false) d_W_findFrom_25 rfl 28 rfl 30 rfl, rg_e_iconst (cut := rg_cut [4, 61]) (f := false) d_W_findFrom_28 rfl 29 rfl (-1) rg_ki_m1, rg_e_iret (cut := rg_cut [4, 61]) (f := false) d_W_findFrom_29 rfl, rg_e_aload_0 (cut := rg_cut [4, 61]) (f := false) d_W_findFrom_30 rfl 31 rfl, rg_e_iload_4 (cut := rg_cut [4, 61]) (f := false) d_W_findFrom_31 rfl 33 rfl, rg_e_cv2 (P := P_W_findFrom) (cut := rg_cut [4, 61]) (f := false) d_W_findFrom_33 rfl T_W_stepOn rfl, rg_e_iconst (cut := rg_cut [4, 61]) (f := false) d_W_findFrom_36 rfl 37 rfl (nI 0) rg_ki_0, rg_e_istore_2 (cut := rg_cut [4, 61]) (f := false) d_W_findFrom_37 rfl 38 rfl, rg_e_goto (cut := rg_cut [4, 61]) (f := false) d_W_findFrom_38 rfl 73 rfl, rg_e_iload_2 (cut := rg_cut [4, 61]) (f := false) d_W_findFrom_41 rfl 42 rfl, rg_e_if_ne (cut := rg_cut [4, 61]) (f := false) d_W_findFrom_42 rfl 45 rfl 61 rfl, rg_e_aload_0 (cut := rg_cut [4, 61]) (f := false) d_W_findFrom_45 rfl 46 rfl, rg_e_cv1 (P := P_W_findFrom) (cut := rg_cut [4, 61]) (f := false) d_W_findFrom_46 rfl T_W_hasBefore rfl, rg_e_if_ne (cut := rg_cut [4, 61]) (f := false) d_W_findFrom_49 rfl 52 rfl 61 rfl, rg_e_aload_0 (cut := rg_cut [4, 61]) (f := false) d_W_findFrom_52 rfl 53 rfl, rg_e_cv1 (P := P_W_findFrom) (cut := rg_cut [4, 61]) (f := false) d_W_findFrom_53 rfl T_W_keepTrail rfl, rg_e_if_ne (cut := rg_cut [4, 61]) (f := false) d_W_findFrom_56 rfl 59 rfl 61 rfl, rg_e_iconst (cut := rg_cut [4, 61]) (f := false) d_W_findFrom_59 rfl 60 rfl (-1) rg_ki_m1, rg_e_iret (cut := rg_cut [4, 61]) (f := false) d_W_findFrom_60 rfl, rg_e_aload_0 (cut := rg_cut [4, 61]) (f := false) d_W_findFrom_73 rfl 74 rfl, rg_e_geti (P := P_W_findFrom) (cut := rg_cut [4, 61]) (f := false) d_W_findFrom_74 rfl 77 rfl 13 3 6 rfl (fun _ => rfl), rg_e_if_ne (cut := rg_cut [4, 61]) (f := false) d_W_findFrom_77 rfl 80 rfl 82 rfl, rg_e_iload_3 (cut := rg_cut [4, 61]) (f := false) d_W_findFrom_80 rfl 81 rfl, rg_e_iret (cut := rg_cut [4, 61]) (f := false) d_W_findFrom_81 rfl, rg_e_iinc_3 (cut := rg_cut [4, 61]) (f := false) d_W_findFrom_82 rfl 85 rfl (-1) rg_ki_m1, rg_e_goto (cut := rg_cut [4, 61]) (f := false) d_W_findFrom_85 rfl 4 rfl, rg_e_iconst (cut := rg_cut [4, 61]) (f := false) d_W_findFrom_88 rfl 89 rfl (-1) rg_ki_m1, rg_e_iret (cut := rg_cut [4, 61]) (f := false) d_W_findFrom_89 rfl, rg_e_cut (cut := rg_cut [4, 61]) 4 rfl, rg_e_cut (cut := rg_cut [4, 61]) 61 rfl, rg_nx_i, rg_nx_v, rg_wd_n, rg_wd_i, rg_wd_l, rg_wd_r, rg_clr_i, rg_clr_l, rg_clr_r, rg_clr_a, rg_clr_n, true_and, and_true, Nat.reduceAdd, Nat.reduceLeDiff, ↓Te_W_nextBehind, ↓Te_W_stepOn, ↓Te_W_hasBefore, ↓Te_W_keepTrail, rg_rt_e, rg_fit_ie, rg_fit_ve, rg_fit_1e, rg_fit_0e, rg_fit_be, mle, n1, zI_eq, false_imp_iff, true_and, not_false_eq_true, forall_const, not_true_eq_false, and_true, ln]
        refine ⟨hg, t, x, hG1, hF1, hT, ht, by rw [← hx]; exact (hn _ (by omega)).1, by omega, fun e he => ?_, fun _ => ?_⟩
        · rw [hnb] at he
          cases he
        · have fin : ∀ R w2, rs_ hg k t [] g = some R → A.length + R.length ≤ 50 → St hg w (A ++ R) t nx w2 → ∀ a4 : Value, Z 61 [.ref 13, .int (nI M0), .int (zI g), .int (nI M), a4] [] w2 0 := by
            intro R w2 hR hl hS2 a4
            refine popZ t w2 M (A ++ R) nx _ a4 ht hS2 hMp hM (fun w' hS' => ?_)
            have := hok R w' hR hl (by rw [hc1]; omega) hS'
            rw [hc1, show M - 1 + 1 = M by omega] at this
            exact this
          refine ⟨fun hg1 => ?_, fun hg1 => ?_⟩
          · have hg1 : g = true := by simpa using hg1
            exact fin [] w1 (by unfold rs_; rw [if_pos rfl, hg1]; rfl) (by simpa using hA.2.1) (by rw [List.append_nil]; exact hS) _
          · have hg1 : g = false := Classical.not_not.mp hg1
            refine ⟨hg, t, hG1, hT, ht, fun hp => ?_, fun hp => ?_⟩
            · have hp : preB hg t = true := by simpa using hp
              exact fin [] w1 (by unfold rs_; rw [if_pos rfl, hp, Bool.or_true]; rfl) (by simpa using hA.2.1) (by rw [List.append_nil]; exact hS) _
            · have hp : preB hg t = false := Classical.not_not.mp hp
              have hR : rs_ hg k t [] g = some [t] := by unfold rs_; rw [if_pos rfl, hp, hg1]; rfl
              refine ⟨hg, t, A, hT, hA, fun h50 => ⟨fun h => absurd (by decide +kernel) h, fun _ => hfail ?_ w1 hf⟩, fun h50 w' f1 f2 f3 => ⟨fun _ => ?_, fun h => absurd h (by decide +kernel)⟩⟩
              · rintro ⟨R, h1, h2, -⟩
                rw [hR] at h1
                cases h1
                simp at h2
                omega
              · refine fin [t] w' hR (by simp; omega) ⟨rg_fr_tr hf (rg_fr_sub f1 (by decide)), ⟨?_, hT.2.1, hT.2.2.1, fun i hi => ?_⟩, f3, fun i hi => ?_⟩ _
                · rw [f2 6 (by decide)]; exact hT.1
                · rw [f1.1 16 (by decide)]; exact hT.2.2.2 i hi
                · rw [f1.1 17 (by decide)]; exact hn i hi
    | cons e cs ihc =>
      intro x M g A w1 nx a4 hk ht hS hx hlo hxN hcs hM hfail hok
      obtain ⟨hf, hT, hA, hn⟩ := id hS
      have hG1 := hG.fr hf
      have hF1 := hF.fr hf
      have hle : lst t < eN hg := hT.2.2.1 _ (gD_mem (by omega))
      have hd := (sr_lt hle).2
      have hnb := cs_nb hd hlo hxN
      rw [hcs] at hnb
      have ln := hT.1
      obtain ⟨e1, e2, e3, e4⟩ := cR_cons _ _ _ _ hcs
      have he : e < eN hg := by omega
      have e5 : cs_ hg t (e + 1) = cs := by
        unfold cs_
        rw [← e4, show eN hg - (e + 1) = x + (eN hg - x) - (e + 1) by omega]
      have hcc : cL (szV hg k) t (e :: cs) = 1 + szV hg k (t ++ [e]) + cL (szV hg k) t cs := rfl
      rcases Nat.eq_zero_or_pos M with hM0' | hMp
      · subst hM0'
        refine hZ (rg_cut [4, 61]) 400 4 _ _ _ ?_; simp only [rg_e_iload_3 (cut := rg_cut [4, 61]) (f := true) d_W_findFrom_4 rfl 5 rfl, rg_e_if_le (cut := rg_cut [4, 61]) (f := false) d_W_findFrom_5 rfl 8 rfl 88 rfl, rg_e_aload_0 (cut := rg_cut [4, 61]) (f := false) d_W_findFrom_8 rfl 9 rfl, rg_e_cv1 (P := P_W_findFrom) (cut := rg_cut [4, 61]) (f := false) d_W_findFrom_9 rfl T_W_nextBehind rfl, rg_e_istore_4 (cut := rg_cut [4, 61]) (f := false) d_W_findFrom_12 rfl 14 rfl, rg_e_iload_4 (cut := rg_cut [4, 61]) (f := false) d_W_findFrom_14 rfl 16 rfl, rg_e_if_lt (cut := rg_cut [4, 61]) (f := false) d_W_findFrom_16 rfl 19 rfl 41 rfl, rg_e_aload_0 (cut := rg_cut [4, 61]) (f := false) d_W_findFrom_19 rfl 20 rfl, rg_e_geti (P := P_W_findFrom) (cut := rg_cut [4, 61]) (f := false) d_W_findFrom_20 rfl 23 rfl 13 3 6 rfl (fun _ => rfl), rg_e_bipush (cut := rg_cut [4, 61]) (f := false) d_W_findFrom_23 rfl 25 rfl (nI 40) rg_kb_40, rg_e_icmp_ne (cut := rg_cut [4, 61]) (f := false) d_W_findFrom_25 rfl 28 rfl 30 rfl, rg_e_iconst (cut := rg_cut [4, 61]) (f := false) d_W_findFrom_28 rfl 29 rfl (-1) rg_ki_m1, rg_e_iret (cut := rg_cut [4, 61]) (f := false) d_W_findFrom_29 rfl, rg_e_aload_0 (cut := rg_cut [4, 61]) (f := false) d_W_findFrom_30 rfl 31 rfl, rg_e_iload_4 (cut := rg_cut [4, 61]) (f := false) d_W_findFrom_31 rfl 33 rfl, rg_e_cv2 (P := P_W_findFrom) (cut := rg_cut [4, 61]) (f := false) d_W_findFrom_33 rfl T_W_stepOn rfl, rg_e_iconst (cut := rg_cut [4, 61]) (f := false) d_W_findFrom_36 rfl 37 rfl (nI 0) rg_ki_0, rg_e_istore_2 (cut := rg_cut [4, 61]) (f := false) d_W_findFrom_37 rfl 38 rfl, rg_e_goto (cut := rg_cut [4, 61]) (f := false) d_W_findFrom_38 rfl 73 rfl, rg_e_iload_2 (cut := rg_cut [4, 61]) (f := false) d_W_findFrom_41 rfl 42 rfl, rg_e_if_ne (cut := rg_cut [4, 61]) (f := false) d_W_findFrom_42 rfl 45 rfl 61 rfl, rg_e_aload_0 (cut := rg_cut [4, 61]) (f := false) d_W_findFrom_45 rfl 46 rfl, rg_e_cv1 (P := P_W_findFrom) (cut := rg_cut [4, 61]) (f := false) d_W_findFrom_46 rfl T_W_hasBefore rfl, rg_e_if_ne (cut := rg_cut [4, 61]) (f := false) d_W_findFrom_49 rfl 52 rfl 61 rfl, rg_e_aload_0 (cut := rg_cut [4, 61]) (f := false) d_W_findFrom_52 rfl 53 rfl, rg_e_cv1 (P := P_W_findFrom) (cut := rg_cut [4, 61]) (f := false) d_W_findFrom_53 rfl T_W_keepTrail rfl, rg_e_if_ne (cut := rg_cut [4, 61]) (f := false) d_W_findFrom_56 rfl 59 rfl 61 rfl, rg_e_iconst (cut := rg_cut [4, 61]) (f := false) d_W_findFrom_59 rfl 60 rfl (-1) rg_ki_m1, rg_e_iret (cut := rg_cut [4, 61]) (f := false) d_W_findFrom_60 rfl, rg_e_aload_0 (cut := rg_cut [4, 61]) (f := false) d_W_findFrom_73 rfl 74 rfl, rg_e_geti (P := P_W_findFrom) (cut := rg_cut [4, 61]) (f := false) d_W_findFrom_74 rfl 77 rfl 13 3 6 rfl (fun _ => rfl), rg_e_if_ne (cut := rg_cut [4, 61]) (f := false) d_W_findFrom_77 rfl 80 rfl 82 rfl, rg_e_iload_3 (cut := rg_cut [4, 61]) (f := false) d_W_findFrom_80 rfl 81 rfl, rg_e_iret (cut := rg_cut [4, 61]) (f := false) d_W_findFrom_81 rfl, rg_e_iinc_3 (cut := rg_cut [4, 61]) (f := false) d_W_findFrom_82 rfl 85 rfl (-1) rg_ki_m1, rg_e_goto (cut := rg_cut [4, 61]) (f := false) d_W_findFrom_85 rfl 4 rfl, rg_e_iconst (cut := rg_cut [4, 61]) (f := false) d_W_findFrom_88 rfl 89 rfl (-1) rg_ki_m1, rg_e_iret (cut := rg_cut [4, 61]) (f := false) d_W_findFrom_89 rfl, rg_e_cut (cut := rg_cut [4, 61]) 4 rfl, rg_e_cut (cut := rg_cut [4, 61]) 61 rfl, rg_nx_i, rg_nx_v, rg_wd_n, rg_wd_i, rg_wd_l, rg_wd_r, rg_clr_i, rg_clr_l, rg_clr_r, rg_clr_a, rg_clr_n, true_and, and_true, Nat.reduceAdd, Nat.reduceLeDiff, ↓Te_W_nextBehind, ↓Te_W_stepOn, ↓Te_W_hasBefore, ↓Te_W_keepTrail, rg_rt_e, rg_fit_ie, rg_fit_ve, rg_fit_1e, rg_fit_0e, rg_fit_be]
        refine ⟨fun _ => hfail ?_ w1 hf, fun h => absurd (by decide +kernel) h⟩
        rintro ⟨R, -, -, h⟩
        rw [hcc] at h
        omega
      · have mle : (nI M ≤ 0) = False := eq_false (nI_nle hMp (by omega))
        have m1 : nI M + (-1) = nI (M - 1) := by rw [i_m1, pk_sub hMp]
        refine hZ (rg_cut [4, 61]) 400 4 _ _ _ ?_; simp only [rg_e_iload_3 (cut := rg_cut [4, 61]) (f := true) d_W_findFrom_4 rfl 5 rfl, rg_e_if_le (cut := rg_cut [4, 61]) (f := false) d_W_findFrom_5 rfl 8 rfl 88 rfl, rg_e_aload_0 (cut := rg_cut [4, 61]) (f := false) d_W_findFrom_8 rfl 9 rfl, rg_e_cv1 (P := P_W_findFrom) (cut := rg_cut [4, 61]) (f := false) d_W_findFrom_9 rfl T_W_nextBehind rfl, rg_e_istore_4 (cut := rg_cut [4, 61]) (f := false) d_W_findFrom_12 rfl 14 rfl, rg_e_iload_4 (cut := rg_cut [4, 61]) (f := false) d_W_findFrom_14 rfl 16 rfl, rg_e_if_lt (cut := rg_cut [4, 61]) (f := false) d_W_findFrom_16 rfl 19 rfl 41 rfl, rg_e_aload_0 (cut := rg_cut [4, 61]) (f := false) d_W_findFrom_19 rfl 20 rfl, rg_e_geti (P := P_W_findFrom) (cut := rg_cut [4, 61]) (f := false) d_W_findFrom_20 rfl 23 rfl 13 3 6 rfl (fun _ => rfl), rg_e_bipush (cut := rg_cut [4, 61]) (f := false) d_W_findFrom_23 rfl 25 rfl (nI 40) rg_kb_40, rg_e_icmp_ne (cut := rg_cut [4, 61]) (f := false) d_W_findFrom_25 rfl 28 rfl 30 rfl, rg_e_iconst (cut := rg_cut [4, 61]) (f := false) d_W_findFrom_28 rfl 29 rfl (-1) rg_ki_m1, rg_e_iret (cut := rg_cut [4, 61]) (f := false) d_W_findFrom_29 rfl, rg_e_aload_0 (cut := rg_cut [4, 61]) (f := false) d_W_findFrom_30 rfl 31 rfl, rg_e_iload_4 (cut := rg_cut [4, 61]) (f := false) d_W_findFrom_31 rfl 33 rfl, rg_e_cv2 (P := P_W_findFrom) (cut := rg_cut [4, 61]) (f := false) d_W_findFrom_33 rfl T_W_stepOn rfl, rg_e_iconst (cut := rg_cut [4, 61]) (f := false) d_W_findFrom_36 rfl 37 rfl (nI 0) rg_ki_0, rg_e_istore_2 (cut := rg_cut [4, 61]) (f := false) d_W_findFrom_37 rfl 38 rfl, rg_e_goto (cut := rg_cut [4, 61]) (f := false) d_W_findFrom_38 rfl 73 rfl, rg_e_iload_2 (cut := rg_cut [4, 61]) (f := false) d_W_findFrom_41 rfl 42 rfl, rg_e_if_ne (cut := rg_cut [4, 61]) (f := false) d_W_findFrom_42 rfl 45 rfl 61 rfl, rg_e_aload_0 (cut := rg_cut [4, 61]) (f := false) d_W_findFrom_45 rfl 46 rfl, rg_e_cv1 (P := P_W_findFrom) (cut := rg_cut [4, 61]) (f := false) d_W_findFrom_46 rfl T_W_hasBefore rfl, rg_e_if_ne (cut := rg_cut [4, 61]) (f := false) d_W_findFrom_49 rfl 52 rfl 61 rfl, rg_e_aload_0 (cut := rg_cut [4, 61]) (f := false) d_W_findFrom_52 rfl 53 rfl, rg_e_cv1 (P := P_W_findFrom) (cut := rg_cut [4, 61]) (f := false) d_W_findFrom_53 rfl T_W_keepTrail rfl, rg_e_if_ne (cut := rg_cut [4, 61]) (f := false) d_W_findFrom_56 rfl 59 rfl 61 rfl, rg_e_iconst (cut := rg_cut [4, 61]) (f := false) d_W_findFrom_59 rfl 60 rfl (-1) rg_ki_m1, rg_e_iret (cut := rg_cut [4, 61]) (f := false) d_W_findFrom_60 rfl, rg_e_aload_0 (cut := rg_cut [4, 61]) (f := false) d_W_findFrom_73 rfl 74 rfl, rg_e_geti (P := P_W_findFrom) (cut := rg_cut [4, 61]) (f := false) d_W_findFrom_74 rfl 77 rfl 13 3 6 rfl (fun _ => rfl), rg_e_if_ne (cut := rg_cut [4, 61]) (f := false) d_W_findFrom_77 rfl 80 rfl 82 rfl, rg_e_iload_3 (cut := rg_cut [4, 61]) (f := false) d_W_findFrom_80 rfl 81 rfl, rg_e_iret (cut := rg_cut [4, 61]) (f := false) d_W_findFrom_81 rfl, rg_e_iinc_3 (cut := rg_cut [4, 61]) (f := false) d_W_findFrom_82 rfl 85 rfl (-1) rg_ki_m1, rg_e_goto (cut := rg_cut [4, 61]) (f := false) d_W_findFrom_85 rfl 4 rfl, rg_e_iconst (cut := rg_cut [4, 61]) (f := false) d_W_findFrom_88 rfl 89 rfl (-1) rg_ki_m1, rg_e_iret (cut := rg_cut [4, 61]) (f := false) d_W_findFrom_89 rfl, rg_e_cut (cut := rg_cut [4, 61]) 4 rfl, rg_e_cut (cut := rg_cut [4, 61]) 61 rfl, rg_nx_i, rg_nx_v, rg_wd_n, rg_wd_i, rg_wd_l, rg_wd_r, rg_clr_i, rg_clr_l, rg_clr_r, rg_clr_a, rg_clr_n, true_and, and_true, Nat.reduceAdd, Nat.reduceLeDiff, ↓Te_W_nextBehind, ↓Te_W_stepOn, ↓Te_W_hasBefore, ↓Te_W_keepTrail, rg_rt_e, rg_fit_ie, rg_fit_ve, rg_fit_1e, rg_fit_0e, rg_fit_be, mle, m1, zI_eq, false_imp_iff, true_and, not_false_eq_true, forall_const, ln, rg_up_n, ne_eq, Nat.reduceEqDiff, rg_up_ss]
        refine ⟨hg, t, x, hG1, hF1, hT, ht, by rw [← hx]; exact (hn _ (by omega)).1, by omega, fun e' he' => ?_, fun hno => ?_⟩
        · rw [hnb] at he'
          obtain rfl : e = e' := Option.some.inj he'
          refine ⟨fun h => absurd h (nI_pos (by omega)), fun _ => ?_⟩
          rw [nI_eqp (by omega) (by omega)]
          refine ⟨fun h40 => ?_, fun h40 => ?_⟩
          · obtain ⟨k', rfl⟩ : ∃ k', k = k' + 1 := ⟨k - 1, by have := hT.2.1; omega⟩
            have fu : rg_fr [13, 14, 15, 16, 17] w (rg_up w1 17 (t.length - 1) (nI (e + 1))) := rg_fr_up hf (by decide) _ _
            refine ⟨hg, e, t.length, hG.fr fu, hF.fr fu, rfl, he, ?_, by have := hT.2.1; omega, ?_⟩
            · rfl
            rw [nI_eq0 (by omega)]
            refine ⟨fun _ => ?_, fun h => absurd h (by omega)⟩
            have hde := (sr_lt he).2
            have hfo : (esT hg (9 * ds hg e)).length ≤ eN hg := esT_mono hg (by omega)
            have hl1 : (t ++ [e]).length = t.length + 1 := by simp
            have hcs0 : cs_ hg (t ++ [e]) (esT hg (9 * ds hg e)).length = cs_ hg (t ++ [e]) 0 := by
              have := cs_0 (hg := hg) (t := t ++ [e]) (by rw [lst_app]; exact hde)
              rw [lst_app] at this
              exact this.symm
            have hvis : vis hg (k' + 1) (t ++ [e]) = rs_ hg k' (t ++ [e]) (cs_ hg (t ++ [e]) 0) false := vis_rs hg k' (t ++ [e])
            have hsz : szV hg (k' + 1) (t ++ [e]) = cL (szV hg k') (t ++ [e]) (cs_ hg (t ++ [e]) 0) := rfl
            have hS2 : St hg w A (t ++ [e]) (fun i => if i = t.length then (esT hg (9 * ds hg e)).length else if i = t.length - 1 then e + 1 else nx i) (rg_up (rg_up (rg_up (rg_up w1 17 (t.length - 1) (nI (e + 1))) 16 t.length (nI e)) 17 t.length (nI (esT hg (9 * ds hg e)).length)) 13 6 (nI (t.length + 1))) := by
              refine ⟨rg_fr_up (rg_fr_up (rg_fr_up fu (by decide) _ _) (by decide) _ _) (by decide) _ _, ⟨?_, ?_, fun f hf => ?_, fun i hi => ?_⟩, ⟨?_, hA.2.1, fun q hq => ?_⟩, fun i hi => ?_⟩
              · rw [rg_up_ss, hl1]
              · rw [hl1]; have := hT.2.1; omega
              · rcases List.mem_append.mp hf with h | h
                · exact hT.2.2.1 f h
                · rw [List.mem_singleton.mp h]; exact he
              · rw [hl1] at hi
                simp only [rg_up_s, rg_up_n, ne_eq, not_false_eq_true, Nat.reduceEqDiff]
                by_cases hil : i = t.length
                · subst hil; rw [upd_s, getD_e]
                · rw [upd_n hil, getD_l (by omega)]
                  exact hT.2.2.2 i (by omega)
              · simp only [rg_up_s, rg_up_n, ne_eq, not_false_eq_true, Nat.reduceEqDiff]
                rw [upd_n (by decide)]
                exact hA.1
              · simp only [rg_up_s, rg_up_n, ne_eq, not_false_eq_true, Nat.reduceEqDiff]
                exact hA.2.2 q hq
              · rw [hl1] at hi
                simp only [rg_up_s, rg_up_n, ne_eq, not_false_eq_true, Nat.reduceEqDiff]
                by_cases hil : i = t.length
                · subst hil
                  rw [upd_s, if_pos rfl]
                  exact ⟨rfl, by omega⟩
                · rw [upd_n hil, if_neg hil]
                  by_cases hi2 : i = t.length - 1
                  · subst hi2
                    rw [upd_s, if_pos rfl]
                    exact ⟨rfl, by omega⟩
                  · rw [upd_n hi2, if_neg hi2]
                    exact hn i (by omega)
            refine ihk k' (by omega) (t ++ [e]) (cs_ hg (t ++ [e]) 0) (esT hg (9 * ds hg e)).length (M - 1) false A _ _ _ (by rw [hl1]; omega) (by rw [hl1]; omega) hS2 (by rw [hl1, Nat.add_sub_cancel, if_pos rfl]) (by rw [lst_app]; exact Nat.le_refl _) hfo hcs0 (by omega) (fun hno w' hw' => hfail (fun hyes => hno ?_) w' hw') (fun R1 w' hR1 hl hc hS3 => ?_)
            · obtain ⟨R, h1, h2, h3⟩ := hyes
              rw [rs_cons, hvis] at h1
              rw [hcc, hsz] at h3
              cases hr1 : rs_ hg k' (t ++ [e]) (cs_ hg (t ++ [e]) 0) false with
              | none => rw [hr1] at h1; cases h1
              | some a =>
                rw [hr1] at h1
                cases hr2 : rs_ hg (k' + 1) t cs true with
                | none => rw [hr2] at h1; cases h1
                | some b =>
                  rw [hr2] at h1
                  cases h1
                  rw [List.length_append] at h2
                  exact ⟨a, rfl, by omega, by omega⟩
            · refine ⟨fun h => by rw [hl1] at h; omega, fun _ a4 => ?_⟩
              rw [hl1, Nat.add_sub_cancel, List.take_left] at hS3
              refine ihc (e + 1) (M - 1 - cL (szV hg k') (t ++ [e]) (cs_ hg (t ++ [e]) 0)) true (A ++ R1) w' (fun i => if i = t.length - 1 then e + 1 else nx i) a4 hk ht (hS3.nx fun i hi => by rw [if_neg (by omega)]) (if_pos rfl) (by omega) (by omega) e5 (by omega) (fun hno w2 hw2 => hfail (fun hyes => hno ?_) w2 hw2) (fun R2 w2 hR2 hl2 hc2 hS4 => ?_)
              · obtain ⟨R, h1, h2, h3⟩ := hyes
                rw [rs_cons, hvis, hR1] at h1
                rw [hcc, hsz] at h3
                cases hr2 : rs_ hg (k' + 1) t cs true with
                | none => rw [hr2] at h1; cases h1
                | some b =>
                  rw [hr2] at h1
                  cases h1
                  rw [List.length_append] at h2
                  exact ⟨b, rfl, by rw [List.length_append]; omega, by omega⟩
              · have hcost : cL (szV hg (k' + 1)) t (e :: cs) ≤ M := by rw [hcc, hsz]; omega
                have := hok (R1 ++ R2) w2 (by rw [rs_cons, hvis, hR1, hR2]) (by rw [List.length_append] at hl2 ⊢; omega) hcost (by rw [← List.append_assoc]; exact hS4.nx fun i hi => by rw [take_len] at hi; rw [if_neg (by omega)])
                rw [hcc, hsz] at this
                rw [show M - 1 - cL (szV hg k') (t ++ [e]) (cs_ hg (t ++ [e]) 0) - cL (szV hg (k' + 1)) t cs = M - (1 + cL (szV hg k') (t ++ [e]) (cs_ hg (t ++ [e]) 0) + cL (szV hg (k' + 1)) t cs) by omega]
                exact this
          · refine hfail ?_ _ (rg_fr_up hf (by decide) _ _)
            rintro ⟨R, h1, -, -⟩
            have h40 := Classical.not_not.mp h40
            obtain rfl : k = 0 := by omega
            rw [rs_cons] at h1
            cases h1
        · rw [hnb] at hno
          cases hno
  refine hZ (rg_cut [4, 61]) 400 0 _ _ _ ?_; simp only [rg_e_iconst (cut := rg_cut [4, 61]) (f := true) d_W_findFrom_0 rfl 1 rfl (nI 0) rg_ki_0, rg_e_istore_2 (cut := rg_cut [4, 61]) (f := false) d_W_findFrom_1 rfl 2 rfl, rg_e_iload_1 (cut := rg_cut [4, 61]) (f := false) d_W_findFrom_2 rfl 3 rfl, rg_e_istore_3 (cut := rg_cut [4, 61]) (f := false) d_W_findFrom_3 rfl 4 rfl, rg_e_cut (cut := rg_cut [4, 61]) 4 rfl, rg_e_cut (cut := rg_cut [4, 61]) 61 rfl, rg_nx_i, rg_nx_v, rg_wd_n, rg_wd_i, rg_wd_l, rg_wd_r, rg_clr_i, rg_clr_l, rg_clr_r, rg_clr_a, rg_clr_n, true_and, and_true, Nat.reduceAdd, Nat.reduceLeDiff, ↓Te_W_nextBehind, ↓Te_W_stepOn, ↓Te_W_hasBefore, ↓Te_W_keepTrail, rg_rt_e, rg_fit_ie, rg_fit_ve, rg_fit_1e, rg_fit_0e, rg_fit_be]
  have hl := lst_app [] e0
  rw [List.nil_append] at hl
  have he0 : e0 < eN hg := hS0.2.1.2.2.1 e0 (by simp)
  have hde := (sr_lt he0).2
  have hcs0 : cs_ hg [e0] (esT hg (9 * ds hg e0)).length = cs_ hg [e0] 0 := by
    have := cs_0 (hg := hg) (t := [e0]) (by rw [hl]; exact hde)
    rw [hl] at this
    exact this.symm
  have hvis : vis hg 40 [e0] = rs_ hg 39 [e0] (cs_ hg [e0] 0) false := vis_rs hg 39 [e0]
  have hsz : szV hg 40 [e0] = cL (szV hg 39) [e0] (cs_ hg [e0] 0) := rfl
  refine claim 39 [e0] (cs_ hg [e0] 0) (esT hg (9 * ds hg e0)).length M0 false A0 w _ _ rfl (by simp) hS0 rfl (by rw [hl]; exact Nat.le_refl _) (esT_mono hg (by omega)) hcs0 hM0 (fun hno w' hw' => hK0 (by rw [hvis, hsz]; exact hno) w' hw') (fun R w' hR hl' hc hS' => ⟨fun _ => ?_, fun h => absurd h (by simp)⟩)
  rw [← hsz]
  exact hK1 R w' (by rw [hvis]; exact hR) hl' (by rw [hsz]; exact hc) hS'.1 hS'.2.2.1
end
section
/-! Walks: find -/
/-- the search from edge e on, k edges, with M steps left, A found -/
noncomputable def tpF (hg : Nat → Nat → Nat) : Nat → Nat → Nat → List (List Nat) → Option (List (List Nat))
  | 0, _, _, A => some A
  | k + 1, e, M, A => match vis hg 40 [e] with
    | none => none
    | some R => if A.length + R.length ≤ 50 ∧ szV hg 40 [e] ≤ M then tpF hg k (e + 1) (M - szV hg 40 [e] + 1) (A ++ R) else none
theorem tpF_t {hg : Nat → Nat → Nat} {k e M : Nat} {A R : List (List Nat)} (h1 : vis hg 40 [e] = some R) (h2 : A.length + R.length ≤ 50) (h3 : szV hg 40 [e] ≤ M) : tpF hg (k + 1) e M A = tpF hg k (e + 1) (M - szV hg 40 [e] + 1) (A ++ R) := by
  rw [tpF, h1]
  exact if_pos ⟨h2, h3⟩
theorem tpF_f {hg : Nat → Nat → Nat} {k e M : Nat} {A : List (List Nat)} (h : ¬ ∃ R, vis hg 40 [e] = some R ∧ A.length + R.length ≤ 50 ∧ szV hg 40 [e] ≤ M) : tpF hg (k + 1) e M A = none := by
  rw [tpF]
  cases hv : vis hg 40 [e] with
  | none => rfl
  | some R => exact if_neg (fun z => h ⟨R, hv, z.1, z.2⟩)
theorem cL_pos (C : List Nat → Nat) (t : List Nat) : ∀ cs, 1 ≤ cL C t cs
  | [] => Nat.le_refl _
  | e :: cs => by
    have := cL_pos C t cs
    rw [cL]
    omega
-- W.find
def P_W_find : rg_P := (rg_F_W, [(79, 2, 0, T_W_stepOn), (87, 2, 0, T_W_findFrom)], [(32, (nI 100000))], [], [], [], 0)
def T_W_find : rg_T := fun as w K => match as with
  | [.ref 13] => ∃ hg, GrE hg w ∧ FoW hg w ∧ (∀ A w', tpF hg (eN hg) 0 100000 [] = some A → rg_fr [13, 14, 15, 16, 17] w w' → Ac A w' → K (some (.int (nI 1))) w') ∧ (tpF hg (eN hg) 0 100000 [] = none → ∀ w', rg_fr [13, 14, 15, 16, 17] w w' → K (some (.int (nI 0))) w')
  | _ => False
theorem Te_W_find  (w : rg_W) (K : Option Value → rg_W → Prop) : T_W_find [.ref 13] w K = (∃ hg, GrE hg w ∧ FoW hg w ∧ (∀ A w', tpF hg (eN hg) 0 100000 [] = some A → rg_fr [13, 14, 15, 16, 17] w w' → Ac A w' → K (some (.int (nI 1))) w') ∧ (tpF hg (eN hg) 0 100000 [] = none → ∀ w', rg_fr [13, 14, 15, 16, 17] w w' → K (some (.int (nI 0))) w')) := rfl
theorem r_W_find : ∀ as w K, T_W_find as w K → ∃ r, as = .ref 13 :: r := by
  intro as w K h
  unfold T_W_find at h
  split at h
  · exact ⟨_, rfl⟩
  · exact h.elim
theorem G_W_find (l : Launch) : rg_Good l y_W_find c_W_find 3 (some .boolean) 5 T_W_find := by
  refine rg_good_of (P := P_W_find) (by decide) (⟨rg_F_W_ok, (rg_cons (cw_W_39 (G_W_stepOn l) (by decide) r_W_stepOn) (rg_cons (cw_W_43 (G_W_findFrom l) (by decide) r_W_findFrom) rg_nil)), by simp only [P_W_find, List.mem_cons, List.not_mem_nil, or_false, forall_eq_or_imp, forall_eq]; exact rg_in rfl (by decide +kernel), fun _ h => absurd h List.not_mem_nil, rfl⟩) ?_
  intro as w K Z hT hZ
  unfold T_W_find at hT
  split at hT
  rotate_left
  · exact hT.elim
  refine ⟨Nat.le_of_ble_eq_true rfl, ?_⟩
  show Z 0 [.ref 13, .null, .null] [] w 0
  obtain ⟨hg, hG, hF, hK1, hK0⟩ := hT
  have h72 := eN_le hG.2.2
  have loop : ∀ (e M : Nat) (A : List (List Nat)) (w1 : rg_W), (e ≤ eN hg ∧ M ≤ 100000 ∧ rg_fr [13, 14, 15, 16, 17] w w1 ∧ Ac A w1 ∧ tpF hg (eN hg) 0 100000 [] = tpF hg (eN hg - e) e M A) → Z 10 [.ref 13, .int (nI M), .int (nI e)] [] w1 0 := by
    refine rg_lp4 _ _ (fun e _ _ _ => eN hg - e) ?_
    intro e M A w1 ⟨he, hM, hf, hA, htp⟩ ih
    have hG1 := hG.fr hf
    have hc : w1.1 4 10 = nI (eN hg) := hG1.1.1
    rcases Nat.lt_or_ge e (eN hg) with he9 | he9
    · have hN : eN hg - e = (eN hg - (e + 1)) + 1 := by omega
      refine hZ (rg_cut [10]) 400 10 _ _ _ ?_; simp only [rg_e_iload_2 (cut := rg_cut [10]) (f := true) d_W_find_10 rfl 11 rfl, rg_e_aload_0 (cut := rg_cut [10]) (f := false) d_W_find_11 rfl 12 rfl, rg_e_getr (P := P_W_find) (cut := rg_cut [10]) (f := false) d_W_find_12 rfl 15 rfl 13 3 0 4 rfl (fun _ => rfl), rg_e_geti (P := P_W_find) (cut := rg_cut [10]) (f := false) d_W_find_15 rfl 18 rfl 4 2 10 rfl (fun _ => rfl), rg_e_icmp_ge (cut := rg_cut [10]) (f := false) d_W_find_18 rfl 21 rfl 49 rfl, rg_e_aload_0 (cut := rg_cut [10]) (f := false) d_W_find_21 rfl 22 rfl, rg_e_iconst (cut := rg_cut [10]) (f := false) d_W_find_22 rfl 23 rfl (nI 0) rg_ki_0, rg_e_put (P := P_W_find) (cut := rg_cut [10]) (f := false) d_W_find_23 rfl 26 rfl 13 3 6 rfl rfl, rg_e_aload_0 (cut := rg_cut [10]) (f := false) d_W_find_26 rfl 27 rfl, rg_e_iload_2 (cut := rg_cut [10]) (f := false) d_W_find_27 rfl 28 rfl, rg_e_cv2 (P := P_W_find) (cut := rg_cut [10]) (f := false) d_W_find_28 rfl T_W_stepOn rfl, rg_e_aload_0 (cut := rg_cut [10]) (f := false) d_W_find_31 rfl 32 rfl, rg_e_iload_1 (cut := rg_cut [10]) (f := false) d_W_find_32 rfl 33 rfl, rg_e_cv2 (P := P_W_find) (cut := rg_cut [10]) (f := false) d_W_find_33 rfl T_W_findFrom rfl, rg_e_istore_1 (cut := rg_cut [10]) (f := false) d_W_find_36 rfl 37 rfl, rg_e_iload_1 (cut := rg_cut [10]) (f := false) d_W_find_37 rfl 38 rfl, rg_e_if_ge (cut := rg_cut [10]) (f := false) d_W_find_38 rfl 41 rfl 43 rfl, rg_e_iconst (cut := rg_cut [10]) (f := false) d_W_find_41 rfl 42 rfl (nI 0) rg_ki_0, rg_e_iret (cut := rg_cut [10]) (f := false) d_W_find_42 rfl, rg_e_iinc_2 (cut := rg_cut [10]) (f := false) d_W_find_43 rfl 46 rfl (nI 1) rg_ki_1, rg_e_goto (cut := rg_cut [10]) (f := false) d_W_find_46 rfl 10 rfl, rg_e_iconst (cut := rg_cut [10]) (f := false) d_W_find_49 rfl 50 rfl (nI 1) rg_ki_1, rg_e_iret (cut := rg_cut [10]) (f := false) d_W_find_50 rfl, rg_e_cut (cut := rg_cut [10]) 10 rfl, rg_nx_i, rg_nx_v, rg_wd_n, rg_wd_i, rg_wd_l, rg_wd_r, rg_clr_i, rg_clr_l, rg_clr_r, rg_clr_a, rg_clr_n, true_and, and_true, Nat.reduceAdd, Nat.reduceLeDiff, ↓Te_W_stepOn, ↓Te_W_findFrom, rg_rt_e, rg_fit_ie, rg_fit_ve, rg_fit_1e, rg_fit_0e, rg_fit_be, hc, nI_add]
      refine ⟨fun h => absurd h (nI_ge he9 (by omega)), fun _ => ?_⟩
      have fu : rg_fr [13, 14, 15, 16, 17] w (rg_up w1 13 6 (nI 0)) := rg_fr_up hf (by decide) _ _
      refine ⟨hg, e, 0, hG.fr fu, hF.fr fu, rfl, he9, rg_up_ss _ _ _ _, by omega, ?_⟩
      have fu2 : rg_fr [13, 14, 15, 16, 17] w (rg_up (rg_up (rg_up (rg_up w1 13 6 (nI 0)) 16 0 (nI e)) 17 0 (nI (esT hg (9 * ds hg e)).length)) 13 6 (nI (0 + 1))) := rg_fr_up (rg_fr_up (rg_fr_up fu (by decide) _ _) (by decide) _ _) (by decide) _ _
      have hde := (sr_lt he9).2
      have hfo : (esT hg (9 * ds hg e)).length ≤ eN hg := esT_mono hg (by omega)
      refine ⟨hg, e, A, M, hG.fr fu2, hF.fr fu2, rfl, hM, ⟨rg_fr_rf _ _, ⟨?_, by simp, fun f hf => ?_, fun i hi => ?_⟩, ⟨?_, hA.2.1, fun q hq => ?_⟩, fun i hi => ?_⟩, fun R w' hv hl hs hf2 hA2 => ?_, fun hno w' hf2 => ?_⟩
      · rw [rg_up_ss]; rfl
      · rw [List.mem_singleton.mp hf]; exact he9
      · have : i = 0 := by simpa using hi
        subst this
        simp only [rg_up_s, rg_up_n, ne_eq, not_false_eq_true, Nat.reduceEqDiff]
        rw [upd_s]
        rfl
      · simp only [rg_up_s, rg_up_n, ne_eq, not_false_eq_true, Nat.reduceEqDiff]
        rw [upd_n (by decide), upd_n (by decide)]
        exact hA.1
      · simp only [rg_up_s, rg_up_n, ne_eq, not_false_eq_true, Nat.reduceEqDiff]
        exact hA.2.2 q hq
      · have : i = 0 := by simpa using hi
        subst this
        simp only [rg_up_s, rg_up_n, ne_eq, not_false_eq_true, Nat.reduceEqDiff]
        rw [upd_s]
        exact ⟨rfl, by omega⟩
      · have h1 : 1 ≤ szV hg 40 [e] := cL_pos _ _ _
        refine ⟨fun _ => ih (e + 1) _ (A ++ R) w' ⟨by omega, by omega, rg_fr_tr fu2 hf2, hA2, ?_⟩ (by omega), fun h => absurd (nI_pos' (by omega)) h⟩
        rw [htp, hN, tpF_t hv hl hs]
      · refine ⟨fun h => absurd h (by decide +kernel), fun _ => hK0 ?_ w' (rg_fr_tr fu2 hf2)⟩
        rw [htp, hN, tpF_f hno]
    · obtain rfl : e = eN hg := by omega
      refine hZ (rg_cut [10]) 400 10 _ _ _ ?_; simp only [rg_e_iload_2 (cut := rg_cut [10]) (f := true) d_W_find_10 rfl 11 rfl, rg_e_aload_0 (cut := rg_cut [10]) (f := false) d_W_find_11 rfl 12 rfl, rg_e_getr (P := P_W_find) (cut := rg_cut [10]) (f := false) d_W_find_12 rfl 15 rfl 13 3 0 4 rfl (fun _ => rfl), rg_e_geti (P := P_W_find) (cut := rg_cut [10]) (f := false) d_W_find_15 rfl 18 rfl 4 2 10 rfl (fun _ => rfl), rg_e_icmp_ge (cut := rg_cut [10]) (f := false) d_W_find_18 rfl 21 rfl 49 rfl, rg_e_aload_0 (cut := rg_cut [10]) (f := false) d_W_find_21 rfl 22 rfl, rg_e_iconst (cut := rg_cut [10]) (f := false) d_W_find_22 rfl 23 rfl (nI 0) rg_ki_0, rg_e_put (P := P_W_find) (cut := rg_cut [10]) (f := false) d_W_find_23 rfl 26 rfl 13 3 6 rfl rfl, rg_e_aload_0 (cut := rg_cut [10]) (f := false) d_W_find_26 rfl 27 rfl, rg_e_iload_2 (cut := rg_cut [10]) (f := false) d_W_find_27 rfl 28 rfl, rg_e_cv2 (P := P_W_find) (cut := rg_cut [10]) (f := false) d_W_find_28 rfl T_W_stepOn rfl, rg_e_aload_0 (cut := rg_cut [10]) (f := false) d_W_find_31 rfl 32 rfl, rg_e_iload_1 (cut := rg_cut [10]) (f := false) d_W_find_32 rfl 33 rfl, rg_e_cv2 (P := P_W_find) (cut := rg_cut [10]) (f := false) d_W_find_33 rfl T_W_findFrom rfl, rg_e_istore_1 (cut := rg_cut [10]) (f := false) d_W_find_36 rfl 37 rfl, rg_e_iload_1 (cut := rg_cut [10]) (f := false) d_W_find_37 rfl 38 rfl, rg_e_if_ge (cut := rg_cut [10]) (f := false) d_W_find_38 rfl 41 rfl 43 rfl, rg_e_iconst (cut := rg_cut [10]) (f := false) d_W_find_41 rfl 42 rfl (nI 0) rg_ki_0, rg_e_iret (cut := rg_cut [10]) (f := false) d_W_find_42 rfl, rg_e_iinc_2 (cut := rg_cut [10]) (f := false) d_W_find_43 rfl 46 rfl (nI 1) rg_ki_1, rg_e_goto (cut := rg_cut [10]) (f := false) d_W_find_46 rfl 10 rfl, rg_e_iconst (cut := rg_cut [10]) (f := false) d_W_find_49 rfl 50 rfl (nI 1) rg_ki_1, rg_e_iret (cut := rg_cut [10]) (f := false) d_W_find_50 rfl, rg_e_cut (cut := rg_cut [10]) 10 rfl, rg_nx_i, rg_nx_v, rg_wd_n, rg_wd_i, rg_wd_l, rg_wd_r, rg_clr_i, rg_clr_l, rg_clr_r, rg_clr_a, rg_clr_n, true_and, and_true, Nat.reduceAdd, Nat.reduceLeDiff, ↓Te_W_stepOn, ↓Te_W_findFrom, rg_rt_e, rg_fit_ie, rg_fit_ve, rg_fit_1e, rg_fit_0e, rg_fit_be, hc]
      refine ⟨fun _ => hK1 A w1 ?_ hf hA, fun h => absurd (nI_le (Nat.le_refl _) (by omega)) h⟩
      rw [htp, Nat.sub_self, tpF]
  refine hZ (rg_cut [10]) 400 0 _ _ _ ?_; simp only [rg_e_aload_0 (cut := rg_cut [10]) (f := true) d_W_find_0 rfl 1 rfl, rg_e_iconst (cut := rg_cut [10]) (f := false) d_W_find_1 rfl 2 rfl (nI 0) rg_ki_0, rg_e_put (P := P_W_find) (cut := rg_cut [10]) (f := false) d_W_find_2 rfl 5 rfl 13 3 3 rfl rfl, rg_e_ldc (P := P_W_find) (cut := rg_cut [10]) (f := false) d_W_find_5 rfl 7 rfl (nI 100000) rfl, rg_e_istore_1 (cut := rg_cut [10]) (f := false) d_W_find_7 rfl 8 rfl, rg_e_iconst (cut := rg_cut [10]) (f := false) d_W_find_8 rfl 9 rfl (nI 0) rg_ki_0, rg_e_istore_2 (cut := rg_cut [10]) (f := false) d_W_find_9 rfl 10 rfl, rg_e_cut (cut := rg_cut [10]) 10 rfl, rg_nx_i, rg_nx_v, rg_wd_n, rg_wd_i, rg_wd_l, rg_wd_r, rg_clr_i, rg_clr_l, rg_clr_r, rg_clr_a, rg_clr_n, true_and, and_true, Nat.reduceAdd, Nat.reduceLeDiff, ↓Te_W_stepOn, ↓Te_W_findFrom, rg_rt_e, rg_fit_ie, rg_fit_ve, rg_fit_1e, rg_fit_0e, rg_fit_be]
  exact loop 0 100000 [] _ ⟨by omega, by omega, rg_fr_up (rg_fr_rf _ _) (by decide) _ _, ⟨rg_up_ss _ _ _ _, by simp, fun k hk => absurd hk (by simp)⟩, rfl⟩
end
section
/-! ReadGraph: its own private methods -/
theorem letter_n {p L k : Nat} (hp : p < 2 ^ 31) (hL : L ≤ 12) (hk : k < L) : (nI p >>> ((nI 2 * (nI L - nI 1 - nI k)) &&& 31)) &&& nI 3 = nI (lt4 L p k) := by
  rw [pk_sub (by omega), pk_sub (by omega), lt_raw (nI p) (by omega), pk_tn (by omega)]
  rfl
-- G.forgetGraph
def P_G_forgetGraph : rg_P := (rg_F_G, [(315, 1, 0, T_E_forget)], [], [], [], [], 0)
def T_G_forgetGraph : rg_T := fun as w K => match as with
  | [.ref 0] => ∀ w1, FgR w w1 → K none (rg_up w1 13 3 (nI 0))
  | _ => False
theorem Te_G_forgetGraph  (w : rg_W) (K : Option Value → rg_W → Prop) : T_G_forgetGraph [.ref 0] w K = (∀ w1, FgR w w1 → K none (rg_up w1 13 3 (nI 0))) := rfl
theorem r_G_forgetGraph : ∀ as w K, T_G_forgetGraph as w K → ∃ r, as = .ref 0 :: r := by
  intro as w K h
  unfold T_G_forgetGraph at h
  split at h
  · exact ⟨_, rfl⟩
  · exact h.elim
theorem G_G_forgetGraph (l : Launch) : rg_Good l y_G_forgetGraph c_G_forgetGraph 1 none 1 T_G_forgetGraph := by
  refine rg_good_of (P := P_G_forgetGraph) (by decide) (rg_pok rg_F_G_ok (rg_cons (cw_G_157 (G_E_forget l) (by decide) r_E_forget) rg_nil)) ?_
  intro as w K Z hT hZ
  unfold T_G_forgetGraph at hT
  split at hT
  rotate_left
  · exact hT.elim
  refine ⟨Nat.le_of_ble_eq_true rfl, ?_⟩
  show Z 0 [.ref 0] [] w 0
  refine hZ (rg_cut []) 400 0 _ _ _ ?_; simp only [rg_e_aload_0 (cut := rg_cut []) (f := true) d_G_forgetGraph_0 rfl 1 rfl, rg_e_getr (P := P_G_forgetGraph) (cut := rg_cut []) (f := false) d_G_forgetGraph_1 rfl 4 rfl 0 0 1 4 rfl (fun _ => rfl), rg_e_cv1 (P := P_G_forgetGraph) (cut := rg_cut []) (f := false) d_G_forgetGraph_4 rfl T_E_forget rfl, rg_e_aload_0 (cut := rg_cut []) (f := false) d_G_forgetGraph_7 rfl 8 rfl, rg_e_getr (P := P_G_forgetGraph) (cut := rg_cut []) (f := false) d_G_forgetGraph_8 rfl 11 rfl 0 0 2 13 rfl (fun _ => rfl), rg_e_iconst (cut := rg_cut []) (f := false) d_G_forgetGraph_11 rfl 12 rfl (nI 0) rg_ki_0, rg_e_put (P := P_G_forgetGraph) (cut := rg_cut []) (f := false) d_G_forgetGraph_12 rfl 15 rfl 13 3 3 rfl rfl, rg_e_vret (cut := rg_cut []) (f := false) d_G_forgetGraph_15 rfl, rg_nx_i, rg_nx_v, rg_wd_n, rg_wd_i, rg_wd_l, rg_wd_r, rg_clr_i, rg_clr_l, rg_clr_r, rg_clr_a, rg_clr_n, true_and, and_true, Nat.reduceAdd, Nat.reduceLeDiff, ↓Te_E_forget, rg_rt_e, rg_fit_ie, rg_fit_ve, rg_fit_1e, rg_fit_0e, rg_fit_be]
  exact hT
-- G.clear
def P_G_clear : rg_P := (rg_F_G, [(97, 1, 0, T_G_forgetGraph)], [], [], [], [], 0)
def T_G_clear : rg_T := fun as w K => match as with
  | [.ref 0] => ∀ w1, FgR w w1 → K none (rg_up (rg_up w1 13 3 (nI 0)) 1 2 (nI 0))
  | _ => False
theorem Te_G_clear  (w : rg_W) (K : Option Value → rg_W → Prop) : T_G_clear [.ref 0] w K = (∀ w1, FgR w w1 → K none (rg_up (rg_up w1 13 3 (nI 0)) 1 2 (nI 0))) := rfl
theorem r_G_clear : ∀ as w K, T_G_clear as w K → ∃ r, as = .ref 0 :: r := by
  intro as w K h
  unfold T_G_clear at h
  split at h
  · exact ⟨_, rfl⟩
  · exact h.elim
theorem G_G_clear (l : Launch) : rg_Good l y_G_clear c_G_clear 1 none 2 T_G_clear := by
  refine rg_good_of (P := P_G_clear) (by decide) (rg_pok rg_F_G_ok (rg_cons (cw_G_48 (G_G_forgetGraph l) (by decide) r_G_forgetGraph) rg_nil)) ?_
  intro as w K Z hT hZ
  unfold T_G_clear at hT
  split at hT
  rotate_left
  · exact hT.elim
  refine ⟨Nat.le_of_ble_eq_true rfl, ?_⟩
  show Z 0 [.ref 0] [] w 0
  refine hZ (rg_cut []) 400 0 _ _ _ ?_; simp only [rg_e_aload_0 (cut := rg_cut []) (f := true) d_G_clear_0 rfl 1 rfl, rg_e_cv1 (P := P_G_clear) (cut := rg_cut []) (f := false) d_G_clear_1 rfl T_G_forgetGraph rfl, rg_e_aload_0 (cut := rg_cut []) (f := false) d_G_clear_4 rfl 5 rfl, rg_e_getr (P := P_G_clear) (cut := rg_cut []) (f := false) d_G_clear_5 rfl 8 rfl 0 0 0 1 rfl (fun _ => rfl), rg_e_iconst (cut := rg_cut []) (f := false) d_G_clear_8 rfl 9 rfl (nI 0) rg_ki_0, rg_e_put (P := P_G_clear) (cut := rg_cut []) (f := false) d_G_clear_9 rfl 12 rfl 1 1 2 rfl rfl, rg_e_vret (cut := rg_cut []) (f := false) d_G_clear_12 rfl, rg_nx_i, rg_nx_v, rg_wd_n, rg_wd_i, rg_wd_l, rg_wd_r, rg_clr_i, rg_clr_l, rg_clr_r, rg_clr_a, rg_clr_n, true_and, and_true, Nat.reduceAdd, Nat.reduceLeDiff, ↓Te_G_forgetGraph, rg_rt_e, rg_fit_ie, rg_fit_ve, rg_fit_1e, rg_fit_0e, rg_fit_be]
  exact hT
-- G.all
def P_G_all : rg_P := (rg_F_G, [], [], [], [], [], 0)
def T_G_all : rg_T := fun as w K => match as with
  | [.ref 0] => K (some (.int (w.1 4 9))) w
  | _ => False
theorem Te_G_all  (w : rg_W) (K : Option Value → rg_W → Prop) : T_G_all [.ref 0] w K = (K (some (.int (w.1 4 9))) w) := rfl
theorem r_G_all : ∀ as w K, T_G_all as w K → ∃ r, as = .ref 0 :: r := by
  intro as w K h
  unfold T_G_all at h
  split at h
  · exact ⟨_, rfl⟩
  · exact h.elim
theorem G_G_all (l : Launch) : rg_Good l y_G_all c_G_all 1 (some .int) 0 T_G_all := by
  refine rg_good_of (P := P_G_all) (by decide) (rg_pok rg_F_G_ok rg_nil) ?_
  intro as w K Z hT hZ
  unfold T_G_all at hT
  split at hT
  rotate_left
  · exact hT.elim
  refine ⟨Nat.le_of_ble_eq_true rfl, ?_⟩
  show Z 0 [.ref 0] [] w 0
  refine hZ (rg_cut []) 400 0 _ _ _ ?_; simp only [rg_e_aload_0 (cut := rg_cut []) (f := true) d_G_all_0 rfl 1 rfl, rg_e_getr (P := P_G_all) (cut := rg_cut []) (f := false) d_G_all_1 rfl 4 rfl 0 0 1 4 rfl (fun _ => rfl), rg_e_geti (P := P_G_all) (cut := rg_cut []) (f := false) d_G_all_4 rfl 7 rfl 4 2 9 rfl (fun _ => rfl), rg_e_iret (cut := rg_cut []) (f := false) d_G_all_7 rfl, rg_nx_i, rg_nx_v, rg_wd_n, rg_wd_i, rg_wd_l, rg_wd_r, rg_clr_i, rg_clr_l, rg_clr_r, rg_clr_a, rg_clr_n, true_and, and_true, Nat.reduceAdd, Nat.reduceLeDiff, rg_rt_e, rg_fit_ie, rg_fit_ve, rg_fit_1e, rg_fit_0e, rg_fit_be]
  exact hT
-- G.kind
def P_G_kind : rg_P := (rg_F_G, [(243, 1, 0, T_E_shape)], [], [], [], [], 0)
def T_G_kind : rg_T := fun as w K => match as with
  | [.ref 0] => ∃ nd hg, GrW nd hg w ∧ (∀ i, hg i i = 0) ∧ K (some (.int (nI (shN nd hg)))) w
  | _ => False
theorem Te_G_kind  (w : rg_W) (K : Option Value → rg_W → Prop) : T_G_kind [.ref 0] w K = (∃ nd hg, GrW nd hg w ∧ (∀ i, hg i i = 0) ∧ K (some (.int (nI (shN nd hg)))) w) := rfl
theorem r_G_kind : ∀ as w K, T_G_kind as w K → ∃ r, as = .ref 0 :: r := by
  intro as w K h
  unfold T_G_kind at h
  split at h
  · exact ⟨_, rfl⟩
  · exact h.elim
theorem G_G_kind (l : Launch) : rg_Good l y_G_kind c_G_kind 1 (some .int) 2 T_G_kind := by
  refine rg_good_of (P := P_G_kind) (by decide) (rg_pok rg_F_G_ok (rg_cons (cw_G_121 (G_E_shape l) (by decide) r_E_shape) rg_nil)) ?_
  intro as w K Z hT hZ
  unfold T_G_kind at hT
  split at hT
  rotate_left
  · exact hT.elim
  refine ⟨Nat.le_of_ble_eq_true rfl, ?_⟩
  show Z 0 [.ref 0] [] w 0
  refine hZ (rg_cut []) 400 0 _ _ _ ?_; simp only [rg_e_aload_0 (cut := rg_cut []) (f := true) d_G_kind_0 rfl 1 rfl, rg_e_getr (P := P_G_kind) (cut := rg_cut []) (f := false) d_G_kind_1 rfl 4 rfl 0 0 1 4 rfl (fun _ => rfl), rg_e_cv1 (P := P_G_kind) (cut := rg_cut []) (f := false) d_G_kind_4 rfl T_E_shape rfl, rg_e_iret (cut := rg_cut []) (f := false) d_G_kind_7 rfl, rg_nx_i, rg_nx_v, rg_wd_n, rg_wd_i, rg_wd_l, rg_wd_r, rg_clr_i, rg_clr_l, rg_clr_r, rg_clr_a, rg_clr_n, true_and, and_true, Nat.reduceAdd, Nat.reduceLeDiff, ↓Te_E_shape, rg_rt_e, rg_fit_ie, rg_fit_ve, rg_fit_1e, rg_fit_0e, rg_fit_be]
  exact hT
/-- byte i of the lowest n bytes, the first one in the highest -/
def peN (p : Int64) (n i : Nat) : Nat := p.toBitVec.toNat / 2 ^ (8 * (n - 1 - i)) % 256
theorem pe_s : ∀ m, m < 8 → (((nI (8 * m)).toInt64.toUInt64 &&& Int64.toUInt64 63).toBitVec % 64).toNat = 8 * m := by decide +kernel
theorem pe_n {p : Int64} {n i : Nat} (hn : n ≤ 8) (hi : i < n) : (p.toUInt64 >>> ((nI 8 * (nI n - nI 1 - nI i)).toInt64.toUInt64 &&& Int64.toUInt64 63)).toInt64.toInt32 &&& nI 255 = nI (peN p n i) := by
  rw [pk_sub (by omega), pk_sub (by omega), pk_mul]
  have h8 : 8 * (n - 1 - i) < 64 := by omega
  generalize hm : n - 1 - i = m at *
  apply b_ext
  intro j hj
  rw [b_and, bt_nI _ j hj, bt_nI _ j hj]
  unfold peN
  rw [hm, show (256 : Nat) = 2 ^ 8 from rfl, Nat.testBit_mod_two_pow, ← Nat.shiftRight_eq_div_pow, Nat.testBit_shiftRight]
  have h255 : ∀ j, j < 32 → Nat.testBit 255 j = decide (j < 8) := by decide +kernel
  rw [h255 j hj, Bool.and_comm]
  congr 1
  show ((p.toUInt64 >>> ((nI (8 * m)).toInt64.toUInt64 &&& Int64.toUInt64 63)).toBitVec.signExtend 32).getLsbD j = p.toBitVec.toNat.testBit (8 * m + j)
  rw [BitVec.getLsbD_signExtend, UInt64.toBitVec_shiftRight]
  simp only [hj, decide_true, Bool.true_and, show j < 64 by omega, if_true]
  show (p.toUInt64.toBitVec >>> (((nI (8 * m)).toInt64.toUInt64 &&& Int64.toUInt64 63).toBitVec % 64).toNat).getLsbD j = _
  rw [pe_s m (by omega), BitVec.getLsbD_ushiftRight]
  rfl
theorem peN_lt (p : Int64) (n i : Nat) : peN p n i < 256 := Nat.mod_lt _ (by decide)
/-- the bytes are edges that make a walk -/
def pwB (hg : Nat → Nat → Nat) (p : Int64) (n i : Nat) : Bool := decide (peN p n i < eN hg) && (decide (i = 0) || decide (sr hg (peN p n i) = ds hg (peN p n (i - 1))))
-- G.isPackedWalk
def P_G_isPackedWalk : rg_P := (rg_F_G, [(320, 3, 0, T_G_packedEdge), (195, 2, 0, T_E_has)], [], [], [], [], 0)
def T_G_isPackedWalk : rg_T := fun as w K => match as with
  | [.ref 0, .long p, .int n] => ∃ hg n', GrE hg w ∧ n = nI n' ∧ n' ≤ 8 ∧ K (some (.int (zI ((List.range n').all (pwB hg p n'))))) w
  | _ => False
theorem Te_G_isPackedWalk (p : Int64) (n : Int32) (w : rg_W) (K : Option Value → rg_W → Prop) : T_G_isPackedWalk [.ref 0, .long p, .int n] w K = (∃ hg n', GrE hg w ∧ n = nI n' ∧ n' ≤ 8 ∧ K (some (.int (zI ((List.range n').all (pwB hg p n'))))) w) := rfl
theorem r_G_isPackedWalk : ∀ as w K, T_G_isPackedWalk as w K → ∃ r, as = .ref 0 :: r := by
  intro as w K h
  unfold T_G_isPackedWalk at h
  split at h
  · exact ⟨_, rfl⟩
  · exact h.elim
theorem G_G_isPackedWalk (l : Launch) : rg_Good l y_G_isPackedWalk c_G_isPackedWalk 6 (some .boolean) 1 T_G_isPackedWalk := by
  refine rg_good_of (P := P_G_isPackedWalk) (by decide) (rg_pok rg_F_G_ok (rg_cons (cw_G_160 (G_G_packedEdge l) (by decide)) (rg_cons (cw_G_97 (G_E_has l) (by decide) r_E_has) rg_nil))) ?_
  intro as w K Z hT hZ
  unfold T_G_isPackedWalk at hT
  split at hT
  rotate_left
  · exact hT.elim
  rename_i p n
  refine ⟨Nat.le_of_ble_eq_true rfl, ?_⟩
  show Z 0 [.ref 0, .long p, .null, .int n, .null, .null] [] w 0
  obtain ⟨hg, n', hG, rfl, hn, hK⟩ := hT
  have h72 := eN_le hG.2.2
  have hc : w.1 4 10 = nI (eN hg) := hG.1.1
  have loop : ∀ (i : Nat) (a5 : Value), (i ≤ n' ∧ ∀ b, b < i → pwB hg p n' b = true) → Z 3 [.ref 0, .long p, .null, .int (nI n'), .int (nI i), a5] [] w 0 := by
    refine rg_lp2 _ _ (fun i _ => n' - i) ?_
    intro i a5 ⟨hi, hno⟩ ih
    rcases Nat.lt_or_ge i n' with hi9 | hi9
    · have p1 := pe_n (p := p) hn hi9
      have hp1 := peN_lt p n' i
      have next : pwB hg p n' i = true → ∀ a5 : Value, Z 3 [.ref 0, .long p, .null, .int (nI n'), .int (nI (i + 1)), a5] [] w 0 := fun h a5 =>
        ih (i + 1) a5 ⟨by omega, fun b hb => by
          by_cases hbi : b = i
          · subst hbi; exact h
          · exact hno b (by omega)⟩ (by omega)
      have stop : pwB hg p n' i = false → K (some (.int (nI 0))) w := fun h => by
        have : (List.range n').all (pwB hg p n') = false := by
          rw [Bool.eq_false_iff]
          intro z
          have := List.all_eq_true.mp z i (List.mem_range.mpr hi9)
          rw [h] at this
          cases this
        rw [this] at hK
        exact hK
      refine hZ (rg_cut [3]) 400 3 _ _ _ ?_; simp only [rg_e_iload_4 (cut := rg_cut [3]) (f := true) d_G_isPackedWalk_3 rfl 5 rfl, rg_e_iload_3 (cut := rg_cut [3]) (f := false) d_G_isPackedWalk_5 rfl 6 rfl, rg_e_icmp_ge (cut := rg_cut [3]) (f := false) d_G_isPackedWalk_6 rfl 9 rfl 73 rfl, rg_e_lload_1 (cut := rg_cut [3]) (f := false) d_G_isPackedWalk_9 rfl 10 rfl, rg_e_iload_3 (cut := rg_cut [3]) (f := false) d_G_isPackedWalk_10 rfl 11 rfl, rg_e_iload_4 (cut := rg_cut [3]) (f := false) d_G_isPackedWalk_11 rfl 13 rfl, rg_e_cs3 (P := P_G_isPackedWalk) (cut := rg_cut [3]) (f := false) d_G_isPackedWalk_13 rfl T_G_packedEdge rfl, rg_e_istore_5 (cut := rg_cut [3]) (f := false) d_G_isPackedWalk_16 rfl 18 rfl, rg_e_aload_0 (cut := rg_cut [3]) (f := false) d_G_isPackedWalk_18 rfl 19 rfl, rg_e_getr (P := P_G_isPackedWalk) (cut := rg_cut [3]) (f := false) d_G_isPackedWalk_19 rfl 22 rfl 0 0 1 4 rfl (fun _ => rfl), rg_e_iload_5 (cut := rg_cut [3]) (f := false) d_G_isPackedWalk_22 rfl 24 rfl, rg_e_cv2 (P := P_G_isPackedWalk) (cut := rg_cut [3]) (f := false) d_G_isPackedWalk_24 rfl T_E_has rfl, rg_e_if_eq (cut := rg_cut [3]) (f := false) d_G_isPackedWalk_27 rfl 30 rfl 65 rfl, rg_e_iload_4 (cut := rg_cut [3]) (f := false) d_G_isPackedWalk_30 rfl 32 rfl, rg_e_if_le (cut := rg_cut [3]) (f := false) d_G_isPackedWalk_32 rfl 35 rfl 67 rfl, rg_e_aload_0 (cut := rg_cut [3]) (f := false) d_G_isPackedWalk_35 rfl 36 rfl, rg_e_getr (P := P_G_isPackedWalk) (cut := rg_cut [3]) (f := false) d_G_isPackedWalk_36 rfl 39 rfl 0 0 1 4 rfl (fun _ => rfl), rg_e_getr (P := P_G_isPackedWalk) (cut := rg_cut [3]) (f := false) d_G_isPackedWalk_39 rfl 42 rfl 4 2 1 6 rfl (fun _ => rfl), rg_e_iload_5 (cut := rg_cut [3]) (f := false) d_G_isPackedWalk_42 rfl 44 rfl, rg_e_iald (cut := rg_cut [3]) (f := false) d_G_isPackedWalk_44 rfl 45 rfl 6 72 rfl, rg_e_aload_0 (cut := rg_cut [3]) (f := false) d_G_isPackedWalk_45 rfl 46 rfl, rg_e_getr (P := P_G_isPackedWalk) (cut := rg_cut [3]) (f := false) d_G_isPackedWalk_46 rfl 49 rfl 0 0 1 4 rfl (fun _ => rfl), rg_e_getr (P := P_G_isPackedWalk) (cut := rg_cut [3]) (f := false) d_G_isPackedWalk_49 rfl 52 rfl 4 2 2 7 rfl (fun _ => rfl), rg_e_lload_1 (cut := rg_cut [3]) (f := false) d_G_isPackedWalk_52 rfl 53 rfl, rg_e_iload_3 (cut := rg_cut [3]) (f := false) d_G_isPackedWalk_53 rfl 54 rfl, rg_e_iload_4 (cut := rg_cut [3]) (f := false) d_G_isPackedWalk_54 rfl 56 rfl, rg_e_iconst (cut := rg_cut [3]) (f := false) d_G_isPackedWalk_56 rfl 57 rfl (nI 1) rg_ki_1, rg_e_isub (cut := rg_cut [3]) (f := false) d_G_isPackedWalk_57 rfl 58 rfl, rg_e_cs3 (P := P_G_isPackedWalk) (cut := rg_cut [3]) (f := false) d_G_isPackedWalk_58 rfl T_G_packedEdge rfl, rg_e_iald (cut := rg_cut [3]) (f := false) d_G_isPackedWalk_61 rfl 62 rfl 7 72 rfl, rg_e_icmp_eq (cut := rg_cut [3]) (f := false) d_G_isPackedWalk_62 rfl 65 rfl 67 rfl, rg_e_iconst (cut := rg_cut [3]) (f := false) d_G_isPackedWalk_65 rfl 66 rfl (nI 0) rg_ki_0, rg_e_iret (cut := rg_cut [3]) (f := false) d_G_isPackedWalk_66 rfl, rg_e_iinc_4 (cut := rg_cut [3]) (f := false) d_G_isPackedWalk_67 rfl 70 rfl (nI 1) rg_ki_1, rg_e_goto (cut := rg_cut [3]) (f := false) d_G_isPackedWalk_70 rfl 3 rfl, rg_e_iconst (cut := rg_cut [3]) (f := false) d_G_isPackedWalk_73 rfl 74 rfl (nI 1) rg_ki_1, rg_e_iret (cut := rg_cut [3]) (f := false) d_G_isPackedWalk_74 rfl, rg_e_cut (cut := rg_cut [3]) 3 rfl, rg_nx_i, rg_nx_v, rg_wd_n, rg_wd_i, rg_wd_l, rg_wd_r, rg_clr_i, rg_clr_l, rg_clr_r, rg_clr_a, rg_clr_n, true_and, and_true, Nat.reduceAdd, Nat.reduceLeDiff, ↓Te_G_packedEdge, ↓Te_E_has, rg_rt_e, rg_fit_ie, rg_fit_ve, rg_fit_1e, rg_fit_0e, rg_fit_be, p1, hc, zI_eq, nI_add]
      rw [nI_lep (by omega) (by omega), decide_eq_false (nI_pos (n := peN p n' i) (by omega))]
      refine ⟨fun h => by omega, fun _ => ⟨fun h => ?_, fun h => ?_⟩⟩
      · refine stop ?_
        unfold pwB
        rw [decide_eq_false, Bool.false_and]
        intro z
        rw [decide_eq_false (nI_ge z (by omega))] at h
        cases h
      · have hlt : peN p n' i < eN hg := by
          rcases Nat.lt_or_ge (peN p n' i) (eN hg) with z | z
          · exact z
          · rw [decide_eq_true (nI_le z (by omega))] at h
            exact absurd rfl h
        rw [show (nI i ≤ 0) = (i = 0) by rw [← nI_0, nI_lep (by omega) (by omega)]; exact propext Nat.le_zero]
        refine ⟨fun h0 => next (by unfold pwB; rw [decide_eq_true hlt, decide_eq_true h0]; rfl) _, fun h0 => ?_⟩
        have p2 := pe_n (p := p) (i := i - 1) hn (by omega)
        have hp2 := peN_lt p n' (i - 1)
        have hq : pwB hg p n' (i - 1) = true := hno (i - 1) (by omega)
        have hlt2 : peN p n' (i - 1) < eN hg := by
          unfold pwB at hq
          rw [Bool.and_eq_true] at hq
          exact of_decide_eq_true hq.1
        rw [pk_sub (by omega : 1 ≤ i), p2]
        have e1 := (hG.at hlt).1
        have e2 := (hG.at hlt2).2.1
        rw [nI_clamp (by omega), nI_clamp (by omega), e1, e2, nI_eqp (by have := sr_lt hlt; omega) (by have := sr_lt hlt2; omega)]
        refine ⟨vp_in_nI (by omega) (by omega), vp_in_nI (by omega) (by omega), fun h1 => next (by unfold pwB; rw [decide_eq_true hlt, decide_eq_true h1, Bool.or_true]; rfl) _, fun h1 => stop (by unfold pwB; rw [decide_eq_false h1, decide_eq_false h0, Bool.or_false, Bool.and_false])⟩
    · obtain rfl : i = n' := by omega
      refine hZ (rg_cut [3]) 400 3 _ _ _ ?_; simp only [rg_e_iload_4 (cut := rg_cut [3]) (f := true) d_G_isPackedWalk_3 rfl 5 rfl, rg_e_iload_3 (cut := rg_cut [3]) (f := false) d_G_isPackedWalk_5 rfl 6 rfl, rg_e_icmp_ge (cut := rg_cut [3]) (f := false) d_G_isPackedWalk_6 rfl 9 rfl 73 rfl, rg_e_lload_1 (cut := rg_cut [3]) (f := false) d_G_isPackedWalk_9 rfl 10 rfl, rg_e_iload_3 (cut := rg_cut [3]) (f := false) d_G_isPackedWalk_10 rfl 11 rfl, rg_e_iload_4 (cut := rg_cut [3]) (f := false) d_G_isPackedWalk_11 rfl 13 rfl, rg_e_cs3 (P := P_G_isPackedWalk) (cut := rg_cut [3]) (f := false) d_G_isPackedWalk_13 rfl T_G_packedEdge rfl, rg_e_istore_5 (cut := rg_cut [3]) (f := false) d_G_isPackedWalk_16 rfl 18 rfl, rg_e_aload_0 (cut := rg_cut [3]) (f := false) d_G_isPackedWalk_18 rfl 19 rfl, rg_e_getr (P := P_G_isPackedWalk) (cut := rg_cut [3]) (f := false) d_G_isPackedWalk_19 rfl 22 rfl 0 0 1 4 rfl (fun _ => rfl), rg_e_iload_5 (cut := rg_cut [3]) (f := false) d_G_isPackedWalk_22 rfl 24 rfl, rg_e_cv2 (P := P_G_isPackedWalk) (cut := rg_cut [3]) (f := false) d_G_isPackedWalk_24 rfl T_E_has rfl, rg_e_if_eq (cut := rg_cut [3]) (f := false) d_G_isPackedWalk_27 rfl 30 rfl 65 rfl, rg_e_iload_4 (cut := rg_cut [3]) (f := false) d_G_isPackedWalk_30 rfl 32 rfl, rg_e_if_le (cut := rg_cut [3]) (f := false) d_G_isPackedWalk_32 rfl 35 rfl 67 rfl, rg_e_aload_0 (cut := rg_cut [3]) (f := false) d_G_isPackedWalk_35 rfl 36 rfl, rg_e_getr (P := P_G_isPackedWalk) (cut := rg_cut [3]) (f := false) d_G_isPackedWalk_36 rfl 39 rfl 0 0 1 4 rfl (fun _ => rfl), rg_e_getr (P := P_G_isPackedWalk) (cut := rg_cut [3]) (f := false) d_G_isPackedWalk_39 rfl 42 rfl 4 2 1 6 rfl (fun _ => rfl), rg_e_iload_5 (cut := rg_cut [3]) (f := false) d_G_isPackedWalk_42 rfl 44 rfl, rg_e_iald (cut := rg_cut [3]) (f := false) d_G_isPackedWalk_44 rfl 45 rfl 6 72 rfl, rg_e_aload_0 (cut := rg_cut [3]) (f := false) d_G_isPackedWalk_45 rfl 46 rfl, rg_e_getr (P := P_G_isPackedWalk) (cut := rg_cut [3]) (f := false) d_G_isPackedWalk_46 rfl 49 rfl 0 0 1 4 rfl (fun _ => rfl), rg_e_getr (P := P_G_isPackedWalk) (cut := rg_cut [3]) (f := false) d_G_isPackedWalk_49 rfl 52 rfl 4 2 2 7 rfl (fun _ => rfl), rg_e_lload_1 (cut := rg_cut [3]) (f := false) d_G_isPackedWalk_52 rfl 53 rfl, rg_e_iload_3 (cut := rg_cut [3]) (f := false) d_G_isPackedWalk_53 rfl 54 rfl, rg_e_iload_4 (cut := rg_cut [3]) (f := false) d_G_isPackedWalk_54 rfl 56 rfl, rg_e_iconst (cut := rg_cut [3]) (f := false) d_G_isPackedWalk_56 rfl 57 rfl (nI 1) rg_ki_1, rg_e_isub (cut := rg_cut [3]) (f := false) d_G_isPackedWalk_57 rfl 58 rfl, rg_e_cs3 (P := P_G_isPackedWalk) (cut := rg_cut [3]) (f := false) d_G_isPackedWalk_58 rfl T_G_packedEdge rfl, rg_e_iald (cut := rg_cut [3]) (f := false) d_G_isPackedWalk_61 rfl 62 rfl 7 72 rfl, rg_e_icmp_eq (cut := rg_cut [3]) (f := false) d_G_isPackedWalk_62 rfl 65 rfl 67 rfl, rg_e_iconst (cut := rg_cut [3]) (f := false) d_G_isPackedWalk_65 rfl 66 rfl (nI 0) rg_ki_0, rg_e_iret (cut := rg_cut [3]) (f := false) d_G_isPackedWalk_66 rfl, rg_e_iinc_4 (cut := rg_cut [3]) (f := false) d_G_isPackedWalk_67 rfl 70 rfl (nI 1) rg_ki_1, rg_e_goto (cut := rg_cut [3]) (f := false) d_G_isPackedWalk_70 rfl 3 rfl, rg_e_iconst (cut := rg_cut [3]) (f := false) d_G_isPackedWalk_73 rfl 74 rfl (nI 1) rg_ki_1, rg_e_iret (cut := rg_cut [3]) (f := false) d_G_isPackedWalk_74 rfl, rg_e_cut (cut := rg_cut [3]) 3 rfl, rg_nx_i, rg_nx_v, rg_wd_n, rg_wd_i, rg_wd_l, rg_wd_r, rg_clr_i, rg_clr_l, rg_clr_r, rg_clr_a, rg_clr_n, true_and, and_true, Nat.reduceAdd, Nat.reduceLeDiff, ↓Te_G_packedEdge, ↓Te_E_has, rg_rt_e, rg_fit_ie, rg_fit_ve, rg_fit_1e, rg_fit_0e, rg_fit_be]
      refine ⟨fun _ => ?_, fun h => absurd (nI_le (Nat.le_refl _) (by omega)) h⟩
      have : (List.range i).all (pwB hg p i) = true := List.all_eq_true.mpr (fun b hb => hno b (List.mem_range.mp hb))
      rw [this] at hK
      exact hK
  refine hZ (rg_cut [3]) 400 0 _ _ _ ?_; simp only [rg_e_iconst (cut := rg_cut [3]) (f := true) d_G_isPackedWalk_0 rfl 1 rfl (nI 0) rg_ki_0, rg_e_istore_4 (cut := rg_cut [3]) (f := false) d_G_isPackedWalk_1 rfl 3 rfl, rg_e_cut (cut := rg_cut [3]) 3 rfl, rg_nx_i, rg_nx_v, rg_wd_n, rg_wd_i, rg_wd_l, rg_wd_r, rg_clr_i, rg_clr_l, rg_clr_r, rg_clr_a, rg_clr_n, true_and, and_true, Nat.reduceAdd, Nat.reduceLeDiff, ↓Te_G_packedEdge, ↓Te_E_has, rg_rt_e, rg_fit_ie, rg_fit_ve, rg_fit_1e, rg_fit_0e, rg_fit_be]
  exact loop 0 _ ⟨by omega, fun b hb => absurd hb (by omega)⟩
noncomputable def swB (hg : Nat → Nat → Nat) (f : Nat → Nat) (n : Nat) : Bool := (List.range n).all (fun j => (List.range j).all (fun i => !pbE hg (f i) (f j)))
-- G.isPackedWalkSafe
def P_G_isPackedWalkSafe : rg_P := (rg_F_G, [(320, 3, 0, T_G_packedEdge), (329, 3, 0, T_E_isPassedBy)], [], [], [], [], 0)
def T_G_isPackedWalkSafe : rg_T := fun as w K => match as with
  | [.ref 0, .long p, .int n] => ∃ hg n', GrE hg w ∧ n = nI n' ∧ n' ≤ 8 ∧ (∀ i, i < n' → peN p n' i < eN hg) ∧ K (some (.int (zI (swB hg (peN p n') n')))) w
  | _ => False
theorem Te_G_isPackedWalkSafe (p : Int64) (n : Int32) (w : rg_W) (K : Option Value → rg_W → Prop) : T_G_isPackedWalkSafe [.ref 0, .long p, .int n] w K = (∃ hg n', GrE hg w ∧ n = nI n' ∧ n' ≤ 8 ∧ (∀ i, i < n' → peN p n' i < eN hg) ∧ K (some (.int (zI (swB hg (peN p n') n')))) w) := rfl
theorem r_G_isPackedWalkSafe : ∀ as w K, T_G_isPackedWalkSafe as w K → ∃ r, as = .ref 0 :: r := by
  intro as w K h
  unfold T_G_isPackedWalkSafe at h
  split at h
  · exact ⟨_, rfl⟩
  · exact h.elim
theorem G_G_isPackedWalkSafe (l : Launch) : rg_Good l y_G_isPackedWalkSafe c_G_isPackedWalkSafe 6 (some .boolean) 2 T_G_isPackedWalkSafe := by
  refine rg_good_of (P := P_G_isPackedWalkSafe) (by decide) (rg_pok rg_F_G_ok (rg_cons (cw_G_160 (G_G_packedEdge l) (by decide)) (rg_cons (cw_G_164 (G_E_isPassedBy l) (by decide) r_E_isPassedBy) rg_nil))) ?_
  intro as w K Z hT hZ
  unfold T_G_isPackedWalkSafe at hT
  split at hT
  rotate_left
  · exact hT.elim
  rename_i p n
  refine ⟨Nat.le_of_ble_eq_true rfl, ?_⟩
  show Z 0 [.ref 0, .long p, .null, .int n, .null, .null] [] w 0
  obtain ⟨hg, n', hG, rfl, hn, hlt, hK⟩ := hT
  have stop : ∀ i j, i < j → j < n' → pbE hg (peN p n' i) (peN p n' j) = true → K (some (.int (nI 0))) w := fun i j hij hj h => by
    have : swB hg (peN p n') n' = false := by
      rw [Bool.eq_false_iff]
      intro z
      have := List.all_eq_true.mp z j (List.mem_range.mpr hj)
      have := List.all_eq_true.mp this i (List.mem_range.mpr hij)
      rw [h] at this
      cases this
    rw [this] at hK
    exact hK
  have l2 : ∀ (j i : Nat), (j < n' ∧ i ≤ j ∧ ∀ b, b < i → pbE hg (peN p n' b) (peN p n' j) = false) → ((∀ b, b < j → pbE hg (peN p n' b) (peN p n' j) = false) → ∀ a5 : Value, Z 3 [.ref 0, .long p, .null, .int (nI n'), .int (nI (j + 1)), a5] [] w 0) → Z 12 [.ref 0, .long p, .null, .int (nI n'), .int (nI j), .int (nI i)] [] w 0 := by
    intro j i hI hout
    revert i
    refine rg_lp1 _ _ (fun i => j - i) ?_
    intro i ⟨hj, hi, hno⟩ ih
    rcases Nat.lt_or_ge i j with hi9 | hi9
    · have p1 := pe_n (p := p) hn (i := i) (by omega)
      have p2 := pe_n (p := p) hn hj
      refine hZ (rg_cut [3, 12]) 400 12 _ _ _ ?_; simp only [rg_e_iload_5 (cut := rg_cut [3, 12]) (f := true) d_G_isPackedWalkSafe_12 rfl 14 rfl, rg_e_iload_4 (cut := rg_cut [3, 12]) (f := false) d_G_isPackedWalkSafe_14 rfl 16 rfl, rg_e_icmp_ge (cut := rg_cut [3, 12]) (f := false) d_G_isPackedWalkSafe_16 rfl 19 rfl 51 rfl, rg_e_aload_0 (cut := rg_cut [3, 12]) (f := false) d_G_isPackedWalkSafe_19 rfl 20 rfl, rg_e_getr (P := P_G_isPackedWalkSafe) (cut := rg_cut [3, 12]) (f := false) d_G_isPackedWalkSafe_20 rfl 23 rfl 0 0 1 4 rfl (fun _ => rfl), rg_e_lload_1 (cut := rg_cut [3, 12]) (f := false) d_G_isPackedWalkSafe_23 rfl 24 rfl, rg_e_iload_3 (cut := rg_cut [3, 12]) (f := false) d_G_isPackedWalkSafe_24 rfl 25 rfl, rg_e_iload_5 (cut := rg_cut [3, 12]) (f := false) d_G_isPackedWalkSafe_25 rfl 27 rfl, rg_e_cs3 (P := P_G_isPackedWalkSafe) (cut := rg_cut [3, 12]) (f := false) d_G_isPackedWalkSafe_27 rfl T_G_packedEdge rfl, rg_e_lload_1 (cut := rg_cut [3, 12]) (f := false) d_G_isPackedWalkSafe_30 rfl 31 rfl, rg_e_iload_3 (cut := rg_cut [3, 12]) (f := false) d_G_isPackedWalkSafe_31 rfl 32 rfl, rg_e_iload_4 (cut := rg_cut [3, 12]) (f := false) d_G_isPackedWalkSafe_32 rfl 34 rfl, rg_e_cs3 (P := P_G_isPackedWalkSafe) (cut := rg_cut [3, 12]) (f := false) d_G_isPackedWalkSafe_34 rfl T_G_packedEdge rfl, rg_e_cv3 (P := P_G_isPackedWalkSafe) (cut := rg_cut [3, 12]) (f := false) d_G_isPackedWalkSafe_37 rfl T_E_isPassedBy rfl, rg_e_if_eq (cut := rg_cut [3, 12]) (f := false) d_G_isPackedWalkSafe_40 rfl 43 rfl 45 rfl, rg_e_iconst (cut := rg_cut [3, 12]) (f := false) d_G_isPackedWalkSafe_43 rfl 44 rfl (nI 0) rg_ki_0, rg_e_iret (cut := rg_cut [3, 12]) (f := false) d_G_isPackedWalkSafe_44 rfl, rg_e_iinc_5 (cut := rg_cut [3, 12]) (f := false) d_G_isPackedWalkSafe_45 rfl 48 rfl (nI 1) rg_ki_1, rg_e_goto (cut := rg_cut [3, 12]) (f := false) d_G_isPackedWalkSafe_48 rfl 12 rfl, rg_e_iinc_4 (cut := rg_cut [3, 12]) (f := false) d_G_isPackedWalkSafe_51 rfl 54 rfl (nI 1) rg_ki_1, rg_e_goto (cut := rg_cut [3, 12]) (f := false) d_G_isPackedWalkSafe_54 rfl 3 rfl, rg_e_cut (cut := rg_cut [3, 12]) 3 rfl, rg_e_cut (cut := rg_cut [3, 12]) 12 rfl, rg_nx_i, rg_nx_v, rg_wd_n, rg_wd_i, rg_wd_l, rg_wd_r, rg_clr_i, rg_clr_l, rg_clr_r, rg_clr_a, rg_clr_n, true_and, and_true, Nat.reduceAdd, Nat.reduceLeDiff, ↓Te_G_packedEdge, ↓Te_E_isPassedBy, rg_rt_e, rg_fit_ie, rg_fit_ve, rg_fit_1e, rg_fit_0e, rg_fit_be, p1, p2, zI_eq, nI_add]
      refine ⟨fun h => absurd h (nI_ge hi9 (by omega)), fun _ => ⟨hg, _, _, hG, rfl, rfl, hlt i (by omega), hlt j hj, fun h => ih (i + 1) ⟨hj, by omega, fun b hb => ?_⟩ (by omega), fun h => stop i j hi9 hj (by simpa using h)⟩⟩
      by_cases hbi : b = i
      · subst hbi; exact h
      · exact hno b (by omega)
    · obtain rfl : i = j := by omega
      refine hZ (rg_cut [3, 12]) 400 12 _ _ _ ?_; simp only [rg_e_iload_5 (cut := rg_cut [3, 12]) (f := true) d_G_isPackedWalkSafe_12 rfl 14 rfl, rg_e_iload_4 (cut := rg_cut [3, 12]) (f := false) d_G_isPackedWalkSafe_14 rfl 16 rfl, rg_e_icmp_ge (cut := rg_cut [3, 12]) (f := false) d_G_isPackedWalkSafe_16 rfl 19 rfl 51 rfl, rg_e_aload_0 (cut := rg_cut [3, 12]) (f := false) d_G_isPackedWalkSafe_19 rfl 20 rfl, rg_e_getr (P := P_G_isPackedWalkSafe) (cut := rg_cut [3, 12]) (f := false) d_G_isPackedWalkSafe_20 rfl 23 rfl 0 0 1 4 rfl (fun _ => rfl), rg_e_lload_1 (cut := rg_cut [3, 12]) (f := false) d_G_isPackedWalkSafe_23 rfl 24 rfl, rg_e_iload_3 (cut := rg_cut [3, 12]) (f := false) d_G_isPackedWalkSafe_24 rfl 25 rfl, rg_e_iload_5 (cut := rg_cut [3, 12]) (f := false) d_G_isPackedWalkSafe_25 rfl 27 rfl, rg_e_cs3 (P := P_G_isPackedWalkSafe) (cut := rg_cut [3, 12]) (f := false) d_G_isPackedWalkSafe_27 rfl T_G_packedEdge rfl, rg_e_lload_1 (cut := rg_cut [3, 12]) (f := false) d_G_isPackedWalkSafe_30 rfl 31 rfl, rg_e_iload_3 (cut := rg_cut [3, 12]) (f := false) d_G_isPackedWalkSafe_31 rfl 32 rfl, rg_e_iload_4 (cut := rg_cut [3, 12]) (f := false) d_G_isPackedWalkSafe_32 rfl 34 rfl, rg_e_cs3 (P := P_G_isPackedWalkSafe) (cut := rg_cut [3, 12]) (f := false) d_G_isPackedWalkSafe_34 rfl T_G_packedEdge rfl, rg_e_cv3 (P := P_G_isPackedWalkSafe) (cut := rg_cut [3, 12]) (f := false) d_G_isPackedWalkSafe_37 rfl T_E_isPassedBy rfl, rg_e_if_eq (cut := rg_cut [3, 12]) (f := false) d_G_isPackedWalkSafe_40 rfl 43 rfl 45 rfl, rg_e_iconst (cut := rg_cut [3, 12]) (f := false) d_G_isPackedWalkSafe_43 rfl 44 rfl (nI 0) rg_ki_0, rg_e_iret (cut := rg_cut [3, 12]) (f := false) d_G_isPackedWalkSafe_44 rfl, rg_e_iinc_5 (cut := rg_cut [3, 12]) (f := false) d_G_isPackedWalkSafe_45 rfl 48 rfl (nI 1) rg_ki_1, rg_e_goto (cut := rg_cut [3, 12]) (f := false) d_G_isPackedWalkSafe_48 rfl 12 rfl, rg_e_iinc_4 (cut := rg_cut [3, 12]) (f := false) d_G_isPackedWalkSafe_51 rfl 54 rfl (nI 1) rg_ki_1, rg_e_goto (cut := rg_cut [3, 12]) (f := false) d_G_isPackedWalkSafe_54 rfl 3 rfl, rg_e_cut (cut := rg_cut [3, 12]) 3 rfl, rg_e_cut (cut := rg_cut [3, 12]) 12 rfl, rg_nx_i, rg_nx_v, rg_wd_n, rg_wd_i, rg_wd_l, rg_wd_r, rg_clr_i, rg_clr_l, rg_clr_r, rg_clr_a, rg_clr_n, true_and, and_true, Nat.reduceAdd, Nat.reduceLeDiff, ↓Te_G_packedEdge, ↓Te_E_isPassedBy, rg_rt_e, rg_fit_ie, rg_fit_ve, rg_fit_1e, rg_fit_0e, rg_fit_be, nI_add]
      exact ⟨fun _ => hout hno _, fun h => absurd (nI_le (Nat.le_refl _) (by omega)) h⟩
  have l1 : ∀ (j : Nat) (a5 : Value), (1 ≤ j ∧ (j ≤ n' ∨ j = 1) ∧ ∀ c, c < j → ∀ b, b < c → pbE hg (peN p n' b) (peN p n' c) = false) → Z 3 [.ref 0, .long p, .null, .int (nI n'), .int (nI j), a5] [] w 0 := by
    refine rg_lp2 _ _ (fun j _ => n' - j) ?_
    intro j a5 ⟨hj1, hj, hno⟩ ih
    refine hZ (rg_cut [3, 12]) 400 3 _ _ _ ?_; simp only [rg_e_iload_4 (cut := rg_cut [3, 12]) (f := true) d_G_isPackedWalkSafe_3 rfl 5 rfl, rg_e_iload_3 (cut := rg_cut [3, 12]) (f := false) d_G_isPackedWalkSafe_5 rfl 6 rfl, rg_e_icmp_ge (cut := rg_cut [3, 12]) (f := false) d_G_isPackedWalkSafe_6 rfl 9 rfl 57 rfl, rg_e_iconst (cut := rg_cut [3, 12]) (f := false) d_G_isPackedWalkSafe_9 rfl 10 rfl (nI 0) rg_ki_0, rg_e_istore_5 (cut := rg_cut [3, 12]) (f := false) d_G_isPackedWalkSafe_10 rfl 12 rfl, rg_e_iconst (cut := rg_cut [3, 12]) (f := false) d_G_isPackedWalkSafe_57 rfl 58 rfl (nI 1) rg_ki_1, rg_e_iret (cut := rg_cut [3, 12]) (f := false) d_G_isPackedWalkSafe_58 rfl, rg_e_cut (cut := rg_cut [3, 12]) 3 rfl, rg_e_cut (cut := rg_cut [3, 12]) 12 rfl, rg_nx_i, rg_nx_v, rg_wd_n, rg_wd_i, rg_wd_l, rg_wd_r, rg_clr_i, rg_clr_l, rg_clr_r, rg_clr_a, rg_clr_n, true_and, and_true, Nat.reduceAdd, Nat.reduceLeDiff, ↓Te_G_packedEdge, ↓Te_E_isPassedBy, rg_rt_e, rg_fit_ie, rg_fit_ve, rg_fit_1e, rg_fit_0e, rg_fit_be]
    rw [nI_lep (by omega) (by omega)]
    refine ⟨fun h => ?_, fun h => l2 j 0 ⟨by omega, by omega, fun b hb => absurd hb (by omega)⟩ (fun hb a5 => ih (j + 1) a5 ⟨by omega, by omega, fun c hc b hbc => ?_⟩ (by omega))⟩
    · have : swB hg (peN p n') n' = true := List.all_eq_true.mpr (fun c hc => List.all_eq_true.mpr (fun b hb => by rw [hno c (by have := List.mem_range.mp hc; omega) b (List.mem_range.mp hb)]; rfl))
      rw [this] at hK
      exact hK
    · by_cases hcj : c = j
      · subst hcj; exact hb b hbc
      · exact hno c (by omega) b hbc
  refine hZ (rg_cut [3, 12]) 400 0 _ _ _ ?_; simp only [rg_e_iconst (cut := rg_cut [3, 12]) (f := true) d_G_isPackedWalkSafe_0 rfl 1 rfl (nI 1) rg_ki_1, rg_e_istore_4 (cut := rg_cut [3, 12]) (f := false) d_G_isPackedWalkSafe_1 rfl 3 rfl, rg_e_cut (cut := rg_cut [3, 12]) 3 rfl, rg_e_cut (cut := rg_cut [3, 12]) 12 rfl, rg_nx_i, rg_nx_v, rg_wd_n, rg_wd_i, rg_wd_l, rg_wd_r, rg_clr_i, rg_clr_l, rg_clr_r, rg_clr_a, rg_clr_n, true_and, and_true, Nat.reduceAdd, Nat.reduceLeDiff, ↓Te_G_packedEdge, ↓Te_E_isPassedBy, rg_rt_e, rg_fit_ie, rg_fit_ve, rg_fit_1e, rg_fit_0e, rg_fit_be]
  exact l1 1 _ ⟨by omega, Or.inr rfl, fun c hc b hb => absurd hb (by omega)⟩
/-- the edges lead between reads, their hangs are within -/
def EdOk (nr : Nat) (ln : Nat → Nat) (hg : Nat → Nat → Nat) : Prop := ∀ e, e < eN hg → sr hg e < nr ∧ ds hg e < nr ∧ hg (sr hg e) (ds hg e) ≤ ln (ds hg e)
def AcOk (hg : Nat → Nat → Nat) (A : List (List Nat)) : Prop := ∀ t ∈ A, 0 < t.length ∧ ∀ e ∈ t, e < eN hg
def hE (hg : Nat → Nat → Nat) (e : Nat) : Nat := hg (sr hg e) (ds hg e)
def sH (hg : Nat → Nat → Nat) : List Nat → Nat
  | [] => 0
  | e :: t => hE hg e + sH hg t
theorem sH_app (hg : Nat → Nat → Nat) (s t : List Nat) : sH hg (s ++ t) = sH hg s + sH hg t := by
  induction s with
  | nil => simp [sH]
  | cons e s ih => simp only [List.cons_append, sH, ih]; omega
theorem take_s {t : List Nat} {i : Nat} (h : i < t.length) : t.take (i + 1) = t.take i ++ [t.getD i 0] := by
  rw [List.take_succ, List.getElem?_eq_getElem h, List.getD_eq_getElem?_getD, List.getElem?_eq_getElem h]
  rfl
theorem sH_le {hg : Nat → Nat → Nat} {b : Nat} : ∀ t : List Nat, (∀ e ∈ t, hE hg e ≤ b) → sH hg t ≤ b * t.length
  | [], _ => by simp [sH]
  | e :: t, h => by
    have h1 := h e List.mem_cons_self
    have h2 := sH_le t (fun x hx => h x (List.mem_cons_of_mem _ hx))
    simp only [sH, List.length_cons, Nat.mul_add]
    omega
theorem drop_c {t : List Nat} {i : Nat} (h : i < t.length) : t.drop i = t.getD i 0 :: t.drop (i + 1) := by
  rw [List.drop_eq_getElem_cons h, List.getD_eq_getElem?_getD, List.getElem?_eq_getElem h]
  rfl
theorem gDA_mem {A : List (List Nat)} {k : Nat} (h : k < A.length) : A.getD k [] ∈ A := by
  rw [List.getD_eq_getElem?_getD, List.getElem?_eq_getElem h]
  exact List.getElem_mem h
/-- how many letters walk t spells -/
def spL (ln : Nat → Nat) (hg : Nat → Nat → Nat) (t : List Nat) : Nat := ln (sr hg (t.getD 0 0)) + sH hg t
-- G.spelledLength
def P_G_spelledLength : rg_P := (rg_F_G, [(295, 3, 0, T_W_edgeAt)], [], [], [], [], 0)
def T_G_spelledLength : rg_T := fun as w K => match as with
  | [.ref 0, .int k] => ∃ nr ln pk hg A k', Rd nr ln pk w ∧ GrE hg w ∧ Ac A w ∧ EdOk nr ln hg ∧ AcOk hg A ∧ k = nI k' ∧ k' < A.length ∧ K (some (.int (nI (spL ln hg (A.getD k' []))))) w
  | _ => False
theorem Te_G_spelledLength (k : Int32) (w : rg_W) (K : Option Value → rg_W → Prop) : T_G_spelledLength [.ref 0, .int k] w K = (∃ nr ln pk hg A k', Rd nr ln pk w ∧ GrE hg w ∧ Ac A w ∧ EdOk nr ln hg ∧ AcOk hg A ∧ k = nI k' ∧ k' < A.length ∧ K (some (.int (nI (spL ln hg (A.getD k' []))))) w) := rfl
theorem r_G_spelledLength : ∀ as w K, T_G_spelledLength as w K → ∃ r, as = .ref 0 :: r := by
  intro as w K h
  unfold T_G_spelledLength at h
  split at h
  · exact ⟨_, rfl⟩
  · exact h.elim
theorem G_G_spelledLength (l : Launch) : rg_Good l y_G_spelledLength c_G_spelledLength 4 (some .int) 1 T_G_spelledLength := by
  refine rg_good_of (P := P_G_spelledLength) (by decide) (rg_pok rg_F_G_ok (rg_cons (cw_G_147 (G_W_edgeAt l) (by decide) r_W_edgeAt) rg_nil)) ?_
  intro as w K Z hT hZ
  unfold T_G_spelledLength at hT
  split at hT
  rotate_left
  · exact hT.elim
  rename_i k
  refine ⟨Nat.le_of_ble_eq_true rfl, ?_⟩
  show Z 0 [.ref 0, .int k, .null, .null] [] w 0
  obtain ⟨nr, ln, pk, hg, A, k', hR, hG, hA, hE1, hA1, rfl, hk, hK⟩ := hT
  have h72 := eN_le hG.2.2
  have hn9 := hR.1
  obtain ⟨a1, a2, a3⟩ := hA.2.2 k' hk
  obtain ⟨b1, b2⟩ := hA1 _ (gDA_mem hk)
  have hA50 := hA.2.1
  unfold spL at hK
  generalize A.getD k' [] = t at *
  have t0 : t.getD 0 0 < eN hg := b2 _ (gD_mem b1)
  obtain ⟨s0, -, -⟩ := hE1 _ t0
  have q0 := hR.2.2 _ s0
  have hle : ∀ e ∈ t, hE hg e ≤ 12 := fun e he => by
    obtain ⟨x1, x2, x3⟩ := hE1 e (b2 e he)
    have := (hR.2.2 _ x2).2.1
    unfold hE
    omega
  have ck : (nI k').toNatClampNeg = k' := nI_clamp (by omega)
  have vk : vp_in (nI k') 50 := vp_in_nI (by omega) (by omega)
  have loop : ∀ i, (i ≤ t.length) → Z 28 [.ref 0, .int (nI k'), .int (nI (ln (sr hg (t.getD 0 0)) + sH hg (t.take i))), .int (nI i)] [] w 0 := by
    refine rg_lp1 _ _ (fun i => t.length - i) ?_
    intro i hi ih
    rcases Nat.lt_or_ge i t.length with hi9 | hi9
    · have x1 : nI k' * nI 40 + nI i = nI (40 * k' + i) := by rw [pk_mul, nI_add, Nat.mul_comm]
      have v1 : vp_in (nI (40 * k' + i)) 2000 := vp_in_nI (by omega) (by omega)
      have c1 : (nI (40 * k' + i)).toNatClampNeg = 40 * k' + i := nI_clamp (by omega)
      have e1 := a3 i hi9
      have ti : t.getD i 0 < eN hg := b2 _ (gD_mem hi9)
      have v2 : vp_in (nI (t.getD i 0)) 72 := vp_in_nI (by omega) (by omega)
      have c2 : (nI (t.getD i 0)).toNatClampNeg = t.getD i 0 := nI_clamp (by omega)
      have e2 := (hG.at ti).2.2
      refine hZ (rg_cut [28]) 400 28 _ _ _ ?_; simp only [rg_e_iload_3 (cut := rg_cut [28]) (f := true) d_G_spelledLength_28 rfl 29 rfl, rg_e_aload_0 (cut := rg_cut [28]) (f := false) d_G_spelledLength_29 rfl 30 rfl, rg_e_getr (P := P_G_spelledLength) (cut := rg_cut [28]) (f := false) d_G_spelledLength_30 rfl 33 rfl 0 0 2 13 rfl (fun _ => rfl), rg_e_getr (P := P_G_spelledLength) (cut := rg_cut [28]) (f := false) d_G_spelledLength_33 rfl 36 rfl 13 3 2 15 rfl (fun _ => rfl), rg_e_iload_1 (cut := rg_cut [28]) (f := false) d_G_spelledLength_36 rfl 37 rfl, rg_e_iald (cut := rg_cut [28]) (f := false) d_G_spelledLength_37 rfl 38 rfl 15 50 rfl, rg_e_icmp_ge (cut := rg_cut [28]) (f := false) d_G_spelledLength_38 rfl 41 rfl 67 rfl, rg_e_iload_2 (cut := rg_cut [28]) (f := false) d_G_spelledLength_41 rfl 42 rfl, rg_e_aload_0 (cut := rg_cut [28]) (f := false) d_G_spelledLength_42 rfl 43 rfl, rg_e_getr (P := P_G_spelledLength) (cut := rg_cut [28]) (f := false) d_G_spelledLength_43 rfl 46 rfl 0 0 1 4 rfl (fun _ => rfl), rg_e_getr (P := P_G_spelledLength) (cut := rg_cut [28]) (f := false) d_G_spelledLength_46 rfl 49 rfl 4 2 3 8 rfl (fun _ => rfl), rg_e_aload_0 (cut := rg_cut [28]) (f := false) d_G_spelledLength_49 rfl 50 rfl, rg_e_getr (P := P_G_spelledLength) (cut := rg_cut [28]) (f := false) d_G_spelledLength_50 rfl 53 rfl 0 0 2 13 rfl (fun _ => rfl), rg_e_iload_1 (cut := rg_cut [28]) (f := false) d_G_spelledLength_53 rfl 54 rfl, rg_e_iload_3 (cut := rg_cut [28]) (f := false) d_G_spelledLength_54 rfl 55 rfl, rg_e_cv3 (P := P_G_spelledLength) (cut := rg_cut [28]) (f := false) d_G_spelledLength_55 rfl T_W_edgeAt rfl, rg_e_iald (cut := rg_cut [28]) (f := false) d_G_spelledLength_58 rfl 59 rfl 8 72 rfl, rg_e_iadd (cut := rg_cut [28]) (f := false) d_G_spelledLength_59 rfl 60 rfl, rg_e_istore_2 (cut := rg_cut [28]) (f := false) d_G_spelledLength_60 rfl 61 rfl, rg_e_iinc_3 (cut := rg_cut [28]) (f := false) d_G_spelledLength_61 rfl 64 rfl (nI 1) rg_ki_1, rg_e_goto (cut := rg_cut [28]) (f := false) d_G_spelledLength_64 rfl 28 rfl, rg_e_iload_2 (cut := rg_cut [28]) (f := false) d_G_spelledLength_67 rfl 68 rfl, rg_e_iret (cut := rg_cut [28]) (f := false) d_G_spelledLength_68 rfl, rg_e_cut (cut := rg_cut [28]) 28 rfl, rg_nx_i, rg_nx_v, rg_wd_n, rg_wd_i, rg_wd_l, rg_wd_r, rg_clr_i, rg_clr_l, rg_clr_r, rg_clr_a, rg_clr_n, true_and, and_true, Nat.reduceAdd, Nat.reduceLeDiff, ↓Te_W_edgeAt, rg_rt_e, rg_fit_ie, rg_fit_ve, rg_fit_1e, rg_fit_0e, rg_fit_be, vk, ck, a2, x1, v1, c1, e1, v2, c2, e2, nI_add]
      refine ⟨fun h => absurd h (nI_ge hi9 (by omega)), fun _ => ?_⟩
      have := ih (i + 1) (by omega) (by omega)
      rw [take_s hi9, sH_app] at this
      simp only [sH, Nat.add_zero] at this
      rw [← Nat.add_assoc] at this
      exact this
    · obtain rfl : i = t.length := by omega
      refine hZ (rg_cut [28]) 400 28 _ _ _ ?_; simp only [rg_e_iload_3 (cut := rg_cut [28]) (f := true) d_G_spelledLength_28 rfl 29 rfl, rg_e_aload_0 (cut := rg_cut [28]) (f := false) d_G_spelledLength_29 rfl 30 rfl, rg_e_getr (P := P_G_spelledLength) (cut := rg_cut [28]) (f := false) d_G_spelledLength_30 rfl 33 rfl 0 0 2 13 rfl (fun _ => rfl), rg_e_getr (P := P_G_spelledLength) (cut := rg_cut [28]) (f := false) d_G_spelledLength_33 rfl 36 rfl 13 3 2 15 rfl (fun _ => rfl), rg_e_iload_1 (cut := rg_cut [28]) (f := false) d_G_spelledLength_36 rfl 37 rfl, rg_e_iald (cut := rg_cut [28]) (f := false) d_G_spelledLength_37 rfl 38 rfl 15 50 rfl, rg_e_icmp_ge (cut := rg_cut [28]) (f := false) d_G_spelledLength_38 rfl 41 rfl 67 rfl, rg_e_iload_2 (cut := rg_cut [28]) (f := false) d_G_spelledLength_41 rfl 42 rfl, rg_e_aload_0 (cut := rg_cut [28]) (f := false) d_G_spelledLength_42 rfl 43 rfl, rg_e_getr (P := P_G_spelledLength) (cut := rg_cut [28]) (f := false) d_G_spelledLength_43 rfl 46 rfl 0 0 1 4 rfl (fun _ => rfl), rg_e_getr (P := P_G_spelledLength) (cut := rg_cut [28]) (f := false) d_G_spelledLength_46 rfl 49 rfl 4 2 3 8 rfl (fun _ => rfl), rg_e_aload_0 (cut := rg_cut [28]) (f := false) d_G_spelledLength_49 rfl 50 rfl, rg_e_getr (P := P_G_spelledLength) (cut := rg_cut [28]) (f := false) d_G_spelledLength_50 rfl 53 rfl 0 0 2 13 rfl (fun _ => rfl), rg_e_iload_1 (cut := rg_cut [28]) (f := false) d_G_spelledLength_53 rfl 54 rfl, rg_e_iload_3 (cut := rg_cut [28]) (f := false) d_G_spelledLength_54 rfl 55 rfl, rg_e_cv3 (P := P_G_spelledLength) (cut := rg_cut [28]) (f := false) d_G_spelledLength_55 rfl T_W_edgeAt rfl, rg_e_iald (cut := rg_cut [28]) (f := false) d_G_spelledLength_58 rfl 59 rfl 8 72 rfl, rg_e_iadd (cut := rg_cut [28]) (f := false) d_G_spelledLength_59 rfl 60 rfl, rg_e_istore_2 (cut := rg_cut [28]) (f := false) d_G_spelledLength_60 rfl 61 rfl, rg_e_iinc_3 (cut := rg_cut [28]) (f := false) d_G_spelledLength_61 rfl 64 rfl (nI 1) rg_ki_1, rg_e_goto (cut := rg_cut [28]) (f := false) d_G_spelledLength_64 rfl 28 rfl, rg_e_iload_2 (cut := rg_cut [28]) (f := false) d_G_spelledLength_67 rfl 68 rfl, rg_e_iret (cut := rg_cut [28]) (f := false) d_G_spelledLength_68 rfl, rg_e_cut (cut := rg_cut [28]) 28 rfl, rg_nx_i, rg_nx_v, rg_wd_n, rg_wd_i, rg_wd_l, rg_wd_r, rg_clr_i, rg_clr_l, rg_clr_r, rg_clr_a, rg_clr_n, true_and, and_true, Nat.reduceAdd, Nat.reduceLeDiff, ↓Te_W_edgeAt, rg_rt_e, rg_fit_ie, rg_fit_ve, rg_fit_1e, rg_fit_0e, rg_fit_be, vk, ck, a2]
      refine ⟨fun _ => ?_, fun h => absurd (nI_le (Nat.le_refl _) (by omega)) h⟩
      rw [List.take_length]
      exact hK
  have x1 : nI k' * nI 40 + nI 0 = nI (40 * k') := by rw [pk_mul, nI_add, Nat.mul_comm, Nat.add_zero]
  have v1 : vp_in (nI (40 * k')) 2000 := vp_in_nI (by omega) (by omega)
  have c1 : (nI (40 * k')).toNatClampNeg = 40 * k' := nI_clamp (by omega)
  have e1 : w.1 14 (40 * k') = nI (t.getD 0 0) := a3 0 b1
  have v2 : vp_in (nI (t.getD 0 0)) 72 := vp_in_nI (by omega) (by omega)
  have c2 : (nI (t.getD 0 0)).toNatClampNeg = t.getD 0 0 := nI_clamp (by omega)
  have e2 := (hG.at t0).1
  have v3 : vp_in (nI (sr hg (t.getD 0 0))) 9 := vp_in_nI (by omega) (by omega)
  have c3 : (nI (sr hg (t.getD 0 0))).toNatClampNeg = sr hg (t.getD 0 0) := nI_clamp (by omega)
  have e3 := q0.2.2.2.1
  refine hZ (rg_cut [28]) 400 0 _ _ _ ?_; simp only [rg_e_aload_0 (cut := rg_cut [28]) (f := true) d_G_spelledLength_0 rfl 1 rfl, rg_e_getr (P := P_G_spelledLength) (cut := rg_cut [28]) (f := false) d_G_spelledLength_1 rfl 4 rfl 0 0 0 1 rfl (fun _ => rfl), rg_e_getr (P := P_G_spelledLength) (cut := rg_cut [28]) (f := false) d_G_spelledLength_4 rfl 7 rfl 1 1 1 3 rfl (fun _ => rfl), rg_e_aload_0 (cut := rg_cut [28]) (f := false) d_G_spelledLength_7 rfl 8 rfl, rg_e_getr (P := P_G_spelledLength) (cut := rg_cut [28]) (f := false) d_G_spelledLength_8 rfl 11 rfl 0 0 1 4 rfl (fun _ => rfl), rg_e_getr (P := P_G_spelledLength) (cut := rg_cut [28]) (f := false) d_G_spelledLength_11 rfl 14 rfl 4 2 1 6 rfl (fun _ => rfl), rg_e_aload_0 (cut := rg_cut [28]) (f := false) d_G_spelledLength_14 rfl 15 rfl, rg_e_getr (P := P_G_spelledLength) (cut := rg_cut [28]) (f := false) d_G_spelledLength_15 rfl 18 rfl 0 0 2 13 rfl (fun _ => rfl), rg_e_iload_1 (cut := rg_cut [28]) (f := false) d_G_spelledLength_18 rfl 19 rfl, rg_e_iconst (cut := rg_cut [28]) (f := false) d_G_spelledLength_19 rfl 20 rfl (nI 0) rg_ki_0, rg_e_cv3 (P := P_G_spelledLength) (cut := rg_cut [28]) (f := false) d_G_spelledLength_20 rfl T_W_edgeAt rfl, rg_e_iald (cut := rg_cut [28]) (f := false) d_G_spelledLength_23 rfl 24 rfl 6 72 rfl, rg_e_iald (cut := rg_cut [28]) (f := false) d_G_spelledLength_24 rfl 25 rfl 3 9 rfl, rg_e_istore_2 (cut := rg_cut [28]) (f := false) d_G_spelledLength_25 rfl 26 rfl, rg_e_iconst (cut := rg_cut [28]) (f := false) d_G_spelledLength_26 rfl 27 rfl (nI 0) rg_ki_0, rg_e_istore_3 (cut := rg_cut [28]) (f := false) d_G_spelledLength_27 rfl 28 rfl, rg_e_cut (cut := rg_cut [28]) 28 rfl, rg_nx_i, rg_nx_v, rg_wd_n, rg_wd_i, rg_wd_l, rg_wd_r, rg_clr_i, rg_clr_l, rg_clr_r, rg_clr_a, rg_clr_n, true_and, and_true, Nat.reduceAdd, Nat.reduceLeDiff, ↓Te_W_edgeAt, rg_rt_e, rg_fit_ie, rg_fit_ve, rg_fit_1e, rg_fit_0e, rg_fit_be, vk, ck, a2, x1, v1, c1, e1, v2, c2, e2, v3, c3, e3]
  have := loop 0 (by omega)
  simp only [List.take_zero, sH, Nat.add_zero] at this
  exact this
/-- letter 'left' of what the edges t spell -/
def spG (ln pk : Nat → Nat) (hg : Nat → Nat → Nat) : List Nat → Nat → Nat
  | [], _ => 0
  | e :: t, left => if left < hE hg e then lt4 (ln (ds hg e)) (pk (ds hg e)) (ln (ds hg e) - hE hg e + left) else spG ln pk hg t (left - hE hg e)
def spN (ln pk : Nat → Nat) (hg : Nat → Nat → Nat) (t : List Nat) (i : Nat) : Nat := if i < ln (sr hg (t.getD 0 0)) then lt4 (ln (sr hg (t.getD 0 0))) (pk (sr hg (t.getD 0 0))) i else spG ln pk hg t (i - ln (sr hg (t.getD 0 0)))
-- G.spelledLetter
def P_G_spelledLetter : rg_P := (rg_F_G, [(295, 3, 0, T_W_edgeAt), (141, 3, 0, T_R_letterAt)], [], [], [], [], 0)
def T_G_spelledLetter : rg_T := fun as w K => match as with
  | [.ref 0, .int k, .int i] => ∃ nr ln pk hg A k' i', Rd nr ln pk w ∧ GrE hg w ∧ Ac A w ∧ EdOk nr ln hg ∧ AcOk hg A ∧ k = nI k' ∧ k' < A.length ∧ i = nI i' ∧ i' < 2 ^ 30 ∧ K (some (.int (nI (spN ln pk hg (A.getD k' []) i')))) w
  | _ => False
theorem Te_G_spelledLetter (k : Int32) (i : Int32) (w : rg_W) (K : Option Value → rg_W → Prop) : T_G_spelledLetter [.ref 0, .int k, .int i] w K = (∃ nr ln pk hg A k' i', Rd nr ln pk w ∧ GrE hg w ∧ Ac A w ∧ EdOk nr ln hg ∧ AcOk hg A ∧ k = nI k' ∧ k' < A.length ∧ i = nI i' ∧ i' < 2 ^ 30 ∧ K (some (.int (nI (spN ln pk hg (A.getD k' []) i')))) w) := rfl
theorem r_G_spelledLetter : ∀ as w K, T_G_spelledLetter as w K → ∃ r, as = .ref 0 :: r := by
  intro as w K h
  unfold T_G_spelledLetter at h
  split at h
  · exact ⟨_, rfl⟩
  · exact h.elim
theorem G_G_spelledLetter (l : Launch) : rg_Good l y_G_spelledLetter c_G_spelledLetter 8 (some .int) 1 T_G_spelledLetter := by
  refine rg_good_of (P := P_G_spelledLetter) (by decide) (rg_pok rg_F_G_ok (rg_cons (cw_G_147 (G_W_edgeAt l) (by decide) r_W_edgeAt) (rg_cons (cw_G_70 (G_R_letterAt l) (by decide) r_R_letterAt) rg_nil))) ?_
  intro as w K Z hT hZ
  unfold T_G_spelledLetter at hT
  split at hT
  rotate_left
  · exact hT.elim
  rename_i k i
  refine ⟨Nat.le_of_ble_eq_true rfl, ?_⟩
  show Z 0 [.ref 0, .int k, .int i, .null, .null, .null, .null, .null] [] w 0
  obtain ⟨nr, ln, pk, hg, A, k', i', hR, hG, hA, hE1, hA1, rfl, hk, rfl, hi30, hK⟩ := hT
  have h72 := eN_le hG.2.2
  have hn9 := hR.1
  obtain ⟨a1, a2, a3⟩ := hA.2.2 k' hk
  obtain ⟨b1, b2⟩ := hA1 _ (gDA_mem hk)
  have hA50 := hA.2.1
  unfold spN at hK
  generalize A.getD k' [] = t at *
  have t0 : t.getD 0 0 < eN hg := b2 _ (gD_mem b1)
  obtain ⟨s0, -, -⟩ := hE1 _ t0
  have q0 := hR.2.2 _ s0
  have ck : (nI k').toNatClampNeg = k' := nI_clamp (by omega)
  have vk : vp_in (nI k') 50 := vp_in_nI (by omega) (by omega)
  have loop : ln (sr hg (t.getD 0 0)) ≤ i' → ∀ (j left : Nat) (a6 a7 : Value), (j ≤ t.length ∧ left < 2 ^ 30 ∧ spG ln pk hg (t.drop j) left = spG ln pk hg t (i' - ln (sr hg (t.getD 0 0)))) → Z 57 [.ref 0, .int (nI k'), .int (nI i'), .int (nI (sr hg (t.getD 0 0))), .int (nI left), .int (nI j), a6, a7] [] w 0 := by
    intro hge
    rw [if_neg (by omega)] at hK
    refine rg_lp4 _ _ (fun j _ _ _ => t.length - j) ?_
    intro j left a6 a7 ⟨hj, hl30, hsp⟩ ih
    rcases Nat.lt_or_ge j t.length with hi9 | hi9
    · have x1 : nI k' * nI 40 + nI j = nI (40 * k' + j) := by rw [pk_mul, nI_add, Nat.mul_comm]
      have v1 : vp_in (nI (40 * k' + j)) 2000 := vp_in_nI (by omega) (by omega)
      have c1 : (nI (40 * k' + j)).toNatClampNeg = 40 * k' + j := nI_clamp (by omega)
      have e1 := a3 j hi9
      have ti : t.getD j 0 < eN hg := b2 _ (gD_mem hi9)
      have v2 : vp_in (nI (t.getD j 0)) 72 := vp_in_nI (by omega) (by omega)
      have c2 : (nI (t.getD j 0)).toNatClampNeg = t.getD j 0 := nI_clamp (by omega)
      have e2 := (hG.at ti).2.1
      have e3 := (hG.at ti).2.2
      obtain ⟨y1, y2, y3⟩ := hE1 _ ti
      have q1 := hR.2.2 _ y2
      have v3 : vp_in (nI (ds hg (t.getD j 0))) 9 := vp_in_nI (by omega) (by omega)
      have c3 : (nI (ds hg (t.getD j 0))).toNatClampNeg = ds hg (t.getD j 0) := nI_clamp (by omega)
      have e4 := q1.2.2.2.1
      have e5 := q1.2.2.2.2
      have pl := hR.pk_lt y2
      rw [drop_c hi9, spG] at hsp
      unfold hE at hsp
      refine hZ (rg_cut [57]) 400 57 _ _ _ ?_; simp only [rg_e_iload_5 (cut := rg_cut [57]) (f := true) d_G_spelledLetter_57 rfl 59 rfl, rg_e_aload_0 (cut := rg_cut [57]) (f := false) d_G_spelledLetter_59 rfl 60 rfl, rg_e_getr (P := P_G_spelledLetter) (cut := rg_cut [57]) (f := false) d_G_spelledLetter_60 rfl 63 rfl 0 0 2 13 rfl (fun _ => rfl), rg_e_getr (P := P_G_spelledLetter) (cut := rg_cut [57]) (f := false) d_G_spelledLetter_63 rfl 66 rfl 13 3 2 15 rfl (fun _ => rfl), rg_e_iload_1 (cut := rg_cut [57]) (f := false) d_G_spelledLetter_66 rfl 67 rfl, rg_e_iald (cut := rg_cut [57]) (f := false) d_G_spelledLetter_67 rfl 68 rfl 15 50 rfl, rg_e_icmp_ge (cut := rg_cut [57]) (f := false) d_G_spelledLetter_68 rfl 71 rfl 165 rfl, rg_e_aload_0 (cut := rg_cut [57]) (f := false) d_G_spelledLetter_71 rfl 72 rfl, rg_e_getr (P := P_G_spelledLetter) (cut := rg_cut [57]) (f := false) d_G_spelledLetter_72 rfl 75 rfl 0 0 2 13 rfl (fun _ => rfl), rg_e_iload_1 (cut := rg_cut [57]) (f := false) d_G_spelledLetter_75 rfl 76 rfl, rg_e_iload_5 (cut := rg_cut [57]) (f := false) d_G_spelledLetter_76 rfl 78 rfl, rg_e_cv3 (P := P_G_spelledLetter) (cut := rg_cut [57]) (f := false) d_G_spelledLetter_78 rfl T_W_edgeAt rfl, rg_e_istore_6 (cut := rg_cut [57]) (f := false) d_G_spelledLetter_81 rfl 83 rfl, rg_e_aload_0 (cut := rg_cut [57]) (f := false) d_G_spelledLetter_83 rfl 84 rfl, rg_e_getr (P := P_G_spelledLetter) (cut := rg_cut [57]) (f := false) d_G_spelledLetter_84 rfl 87 rfl 0 0 1 4 rfl (fun _ => rfl), rg_e_getr (P := P_G_spelledLetter) (cut := rg_cut [57]) (f := false) d_G_spelledLetter_87 rfl 90 rfl 4 2 2 7 rfl (fun _ => rfl), rg_e_iload_6 (cut := rg_cut [57]) (f := false) d_G_spelledLetter_90 rfl 92 rfl, rg_e_iald (cut := rg_cut [57]) (f := false) d_G_spelledLetter_92 rfl 93 rfl 7 72 rfl, rg_e_istore_7 (cut := rg_cut [57]) (f := false) d_G_spelledLetter_93 rfl 95 rfl, rg_e_iload_4 (cut := rg_cut [57]) (f := false) d_G_spelledLetter_95 rfl 97 rfl, rg_e_aload_0 (cut := rg_cut [57]) (f := false) d_G_spelledLetter_97 rfl 98 rfl, rg_e_getr (P := P_G_spelledLetter) (cut := rg_cut [57]) (f := false) d_G_spelledLetter_98 rfl 101 rfl 0 0 1 4 rfl (fun _ => rfl), rg_e_getr (P := P_G_spelledLetter) (cut := rg_cut [57]) (f := false) d_G_spelledLetter_101 rfl 104 rfl 4 2 3 8 rfl (fun _ => rfl), rg_e_iload_6 (cut := rg_cut [57]) (f := false) d_G_spelledLetter_104 rfl 106 rfl, rg_e_iald (cut := rg_cut [57]) (f := false) d_G_spelledLetter_106 rfl 107 rfl 8 72 rfl, rg_e_icmp_ge (cut := rg_cut [57]) (f := false) d_G_spelledLetter_107 rfl 110 rfl 144 rfl, rg_e_aload_0 (cut := rg_cut [57]) (f := false) d_G_spelledLetter_110 rfl 111 rfl, rg_e_getr (P := P_G_spelledLetter) (cut := rg_cut [57]) (f := false) d_G_spelledLetter_111 rfl 114 rfl 0 0 0 1 rfl (fun _ => rfl), rg_e_iload_7 (cut := rg_cut [57]) (f := false) d_G_spelledLetter_114 rfl 116 rfl, rg_e_aload_0 (cut := rg_cut [57]) (f := false) d_G_spelledLetter_116 rfl 117 rfl, rg_e_getr (P := P_G_spelledLetter) (cut := rg_cut [57]) (f := false) d_G_spelledLetter_117 rfl 120 rfl 0 0 0 1 rfl (fun _ => rfl), rg_e_getr (P := P_G_spelledLetter) (cut := rg_cut [57]) (f := false) d_G_spelledLetter_120 rfl 123 rfl 1 1 1 3 rfl (fun _ => rfl), rg_e_iload_7 (cut := rg_cut [57]) (f := false) d_G_spelledLetter_123 rfl 125 rfl, rg_e_iald (cut := rg_cut [57]) (f := false) d_G_spelledLetter_125 rfl 126 rfl 3 9 rfl, rg_e_aload_0 (cut := rg_cut [57]) (f := false) d_G_spelledLetter_126 rfl 127 rfl, rg_e_getr (P := P_G_spelledLetter) (cut := rg_cut [57]) (f := false) d_G_spelledLetter_127 rfl 130 rfl 0 0 1 4 rfl (fun _ => rfl), rg_e_getr (P := P_G_spelledLetter) (cut := rg_cut [57]) (f := false) d_G_spelledLetter_130 rfl 133 rfl 4 2 3 8 rfl (fun _ => rfl), rg_e_iload_6 (cut := rg_cut [57]) (f := false) d_G_spelledLetter_133 rfl 135 rfl, rg_e_iald (cut := rg_cut [57]) (f := false) d_G_spelledLetter_135 rfl 136 rfl 8 72 rfl, rg_e_isub (cut := rg_cut [57]) (f := false) d_G_spelledLetter_136 rfl 137 rfl, rg_e_iload_4 (cut := rg_cut [57]) (f := false) d_G_spelledLetter_137 rfl 139 rfl, rg_e_iadd (cut := rg_cut [57]) (f := false) d_G_spelledLetter_139 rfl 140 rfl, rg_e_cv3 (P := P_G_spelledLetter) (cut := rg_cut [57]) (f := false) d_G_spelledLetter_140 rfl T_R_letterAt rfl, rg_e_iret (cut := rg_cut [57]) (f := false) d_G_spelledLetter_143 rfl, rg_e_iload_4 (cut := rg_cut [57]) (f := false) d_G_spelledLetter_144 rfl 146 rfl, rg_e_aload_0 (cut := rg_cut [57]) (f := false) d_G_spelledLetter_146 rfl 147 rfl, rg_e_getr (P := P_G_spelledLetter) (cut := rg_cut [57]) (f := false) d_G_spelledLetter_147 rfl 150 rfl 0 0 1 4 rfl (fun _ => rfl), rg_e_getr (P := P_G_spelledLetter) (cut := rg_cut [57]) (f := false) d_G_spelledLetter_150 rfl 153 rfl 4 2 3 8 rfl (fun _ => rfl), rg_e_iload_6 (cut := rg_cut [57]) (f := false) d_G_spelledLetter_153 rfl 155 rfl, rg_e_iald (cut := rg_cut [57]) (f := false) d_G_spelledLetter_155 rfl 156 rfl 8 72 rfl, rg_e_isub (cut := rg_cut [57]) (f := false) d_G_spelledLetter_156 rfl 157 rfl, rg_e_istore_4 (cut := rg_cut [57]) (f := false) d_G_spelledLetter_157 rfl 159 rfl, rg_e_iinc_5 (cut := rg_cut [57]) (f := false) d_G_spelledLetter_159 rfl 162 rfl (nI 1) rg_ki_1, rg_e_goto (cut := rg_cut [57]) (f := false) d_G_spelledLetter_162 rfl 57 rfl, rg_e_iconst (cut := rg_cut [57]) (f := false) d_G_spelledLetter_165 rfl 166 rfl (nI 0) rg_ki_0, rg_e_iret (cut := rg_cut [57]) (f := false) d_G_spelledLetter_166 rfl, rg_e_cut (cut := rg_cut [57]) 57 rfl, rg_nx_i, rg_nx_v, rg_wd_n, rg_wd_i, rg_wd_l, rg_wd_r, rg_clr_i, rg_clr_l, rg_clr_r, rg_clr_a, rg_clr_n, true_and, and_true, Nat.reduceAdd, Nat.reduceLeDiff, ↓Te_W_edgeAt, ↓Te_R_letterAt, rg_rt_e, rg_fit_ie, rg_fit_ve, rg_fit_1e, rg_fit_0e, rg_fit_be, vk, ck, a2, x1, v1, c1, e1, v2, c2, e2, e3, v3, c3, e4, e5, nI_add]
      rw [nI_lep (a := t.length) (by omega) (by omega), nI_lep (a := hg (sr hg (t.getD j 0)) (ds hg (t.getD j 0))) (by omega) (by omega)]
      refine ⟨fun h => by omega, fun _ => ⟨fun h => ?_, fun h => ?_⟩⟩
      · rw [pk_sub h]
        rw [if_neg (by omega)] at hsp
        exact ih (j + 1) _ _ _ ⟨by omega, by omega, hsp⟩ (by omega)
      · rw [if_pos (by omega)] at hsp
        rw [pk_sub y3, nI_add, letter_n (by omega) (by omega) (by omega), hsp]
        exact hK
    · obtain rfl : j = t.length := by omega
      refine hZ (rg_cut [57]) 400 57 _ _ _ ?_; simp only [rg_e_iload_5 (cut := rg_cut [57]) (f := true) d_G_spelledLetter_57 rfl 59 rfl, rg_e_aload_0 (cut := rg_cut [57]) (f := false) d_G_spelledLetter_59 rfl 60 rfl, rg_e_getr (P := P_G_spelledLetter) (cut := rg_cut [57]) (f := false) d_G_spelledLetter_60 rfl 63 rfl 0 0 2 13 rfl (fun _ => rfl), rg_e_getr (P := P_G_spelledLetter) (cut := rg_cut [57]) (f := false) d_G_spelledLetter_63 rfl 66 rfl 13 3 2 15 rfl (fun _ => rfl), rg_e_iload_1 (cut := rg_cut [57]) (f := false) d_G_spelledLetter_66 rfl 67 rfl, rg_e_iald (cut := rg_cut [57]) (f := false) d_G_spelledLetter_67 rfl 68 rfl 15 50 rfl, rg_e_icmp_ge (cut := rg_cut [57]) (f := false) d_G_spelledLetter_68 rfl 71 rfl 165 rfl, rg_e_aload_0 (cut := rg_cut [57]) (f := false) d_G_spelledLetter_71 rfl 72 rfl, rg_e_getr (P := P_G_spelledLetter) (cut := rg_cut [57]) (f := false) d_G_spelledLetter_72 rfl 75 rfl 0 0 2 13 rfl (fun _ => rfl), rg_e_iload_1 (cut := rg_cut [57]) (f := false) d_G_spelledLetter_75 rfl 76 rfl, rg_e_iload_5 (cut := rg_cut [57]) (f := false) d_G_spelledLetter_76 rfl 78 rfl, rg_e_cv3 (P := P_G_spelledLetter) (cut := rg_cut [57]) (f := false) d_G_spelledLetter_78 rfl T_W_edgeAt rfl, rg_e_istore_6 (cut := rg_cut [57]) (f := false) d_G_spelledLetter_81 rfl 83 rfl, rg_e_aload_0 (cut := rg_cut [57]) (f := false) d_G_spelledLetter_83 rfl 84 rfl, rg_e_getr (P := P_G_spelledLetter) (cut := rg_cut [57]) (f := false) d_G_spelledLetter_84 rfl 87 rfl 0 0 1 4 rfl (fun _ => rfl), rg_e_getr (P := P_G_spelledLetter) (cut := rg_cut [57]) (f := false) d_G_spelledLetter_87 rfl 90 rfl 4 2 2 7 rfl (fun _ => rfl), rg_e_iload_6 (cut := rg_cut [57]) (f := false) d_G_spelledLetter_90 rfl 92 rfl, rg_e_iald (cut := rg_cut [57]) (f := false) d_G_spelledLetter_92 rfl 93 rfl 7 72 rfl, rg_e_istore_7 (cut := rg_cut [57]) (f := false) d_G_spelledLetter_93 rfl 95 rfl, rg_e_iload_4 (cut := rg_cut [57]) (f := false) d_G_spelledLetter_95 rfl 97 rfl, rg_e_aload_0 (cut := rg_cut [57]) (f := false) d_G_spelledLetter_97 rfl 98 rfl, rg_e_getr (P := P_G_spelledLetter) (cut := rg_cut [57]) (f := false) d_G_spelledLetter_98 rfl 101 rfl 0 0 1 4 rfl (fun _ => rfl), rg_e_getr (P := P_G_spelledLetter) (cut := rg_cut [57]) (f := false) d_G_spelledLetter_101 rfl 104 rfl 4 2 3 8 rfl (fun _ => rfl), rg_e_iload_6 (cut := rg_cut [57]) (f := false) d_G_spelledLetter_104 rfl 106 rfl, rg_e_iald (cut := rg_cut [57]) (f := false) d_G_spelledLetter_106 rfl 107 rfl 8 72 rfl, rg_e_icmp_ge (cut := rg_cut [57]) (f := false) d_G_spelledLetter_107 rfl 110 rfl 144 rfl, rg_e_aload_0 (cut := rg_cut [57]) (f := false) d_G_spelledLetter_110 rfl 111 rfl, rg_e_getr (P := P_G_spelledLetter) (cut := rg_cut [57]) (f := false) d_G_spelledLetter_111 rfl 114 rfl 0 0 0 1 rfl (fun _ => rfl), rg_e_iload_7 (cut := rg_cut [57]) (f := false) d_G_spelledLetter_114 rfl 116 rfl, rg_e_aload_0 (cut := rg_cut [57]) (f := false) d_G_spelledLetter_116 rfl 117 rfl, rg_e_getr (P := P_G_spelledLetter) (cut := rg_cut [57]) (f := false) d_G_spelledLetter_117 rfl 120 rfl 0 0 0 1 rfl (fun _ => rfl), rg_e_getr (P := P_G_spelledLetter) (cut := rg_cut [57]) (f := false) d_G_spelledLetter_120 rfl 123 rfl 1 1 1 3 rfl (fun _ => rfl), rg_e_iload_7 (cut := rg_cut [57]) (f := false) d_G_spelledLetter_123 rfl 125 rfl, rg_e_iald (cut := rg_cut [57]) (f := false) d_G_spelledLetter_125 rfl 126 rfl 3 9 rfl, rg_e_aload_0 (cut := rg_cut [57]) (f := false) d_G_spelledLetter_126 rfl 127 rfl, rg_e_getr (P := P_G_spelledLetter) (cut := rg_cut [57]) (f := false) d_G_spelledLetter_127 rfl 130 rfl 0 0 1 4 rfl (fun _ => rfl), rg_e_getr (P := P_G_spelledLetter) (cut := rg_cut [57]) (f := false) d_G_spelledLetter_130 rfl 133 rfl 4 2 3 8 rfl (fun _ => rfl), rg_e_iload_6 (cut := rg_cut [57]) (f := false) d_G_spelledLetter_133 rfl 135 rfl, rg_e_iald (cut := rg_cut [57]) (f := false) d_G_spelledLetter_135 rfl 136 rfl 8 72 rfl, rg_e_isub (cut := rg_cut [57]) (f := false) d_G_spelledLetter_136 rfl 137 rfl, rg_e_iload_4 (cut := rg_cut [57]) (f := false) d_G_spelledLetter_137 rfl 139 rfl, rg_e_iadd (cut := rg_cut [57]) (f := false) d_G_spelledLetter_139 rfl 140 rfl, rg_e_cv3 (P := P_G_spelledLetter) (cut := rg_cut [57]) (f := false) d_G_spelledLetter_140 rfl T_R_letterAt rfl, rg_e_iret (cut := rg_cut [57]) (f := false) d_G_spelledLetter_143 rfl, rg_e_iload_4 (cut := rg_cut [57]) (f := false) d_G_spelledLetter_144 rfl 146 rfl, rg_e_aload_0 (cut := rg_cut [57]) (f := false) d_G_spelledLetter_146 rfl 147 rfl, rg_e_getr (P := P_G_spelledLetter) (cut := rg_cut [57]) (f := false) d_G_spelledLetter_147 rfl 150 rfl 0 0 1 4 rfl (fun _ => rfl), rg_e_getr (P := P_G_spelledLetter) (cut := rg_cut [57]) (f := false) d_G_spelledLetter_150 rfl 153 rfl 4 2 3 8 rfl (fun _ => rfl), rg_e_iload_6 (cut := rg_cut [57]) (f := false) d_G_spelledLetter_153 rfl 155 rfl, rg_e_iald (cut := rg_cut [57]) (f := false) d_G_spelledLetter_155 rfl 156 rfl 8 72 rfl, rg_e_isub (cut := rg_cut [57]) (f := false) d_G_spelledLetter_156 rfl 157 rfl, rg_e_istore_4 (cut := rg_cut [57]) (f := false) d_G_spelledLetter_157 rfl 159 rfl, rg_e_iinc_5 (cut := rg_cut [57]) (f := false) d_G_spelledLetter_159 rfl 162 rfl (nI 1) rg_ki_1, rg_e_goto (cut := rg_cut [57]) (f := false) d_G_spelledLetter_162 rfl 57 rfl, rg_e_iconst (cut := rg_cut [57]) (f := false) d_G_spelledLetter_165 rfl 166 rfl (nI 0) rg_ki_0, rg_e_iret (cut := rg_cut [57]) (f := false) d_G_spelledLetter_166 rfl, rg_e_cut (cut := rg_cut [57]) 57 rfl, rg_nx_i, rg_nx_v, rg_wd_n, rg_wd_i, rg_wd_l, rg_wd_r, rg_clr_i, rg_clr_l, rg_clr_r, rg_clr_a, rg_clr_n, true_and, and_true, Nat.reduceAdd, Nat.reduceLeDiff, ↓Te_W_edgeAt, ↓Te_R_letterAt, rg_rt_e, rg_fit_ie, rg_fit_ve, rg_fit_1e, rg_fit_0e, rg_fit_be, vk, ck, a2]
      refine ⟨fun _ => ?_, fun h => absurd (nI_le (Nat.le_refl _) (by omega)) h⟩
      rw [List.drop_length, spG] at hsp
      rw [← hsp] at hK
      exact hK
  have x1 : nI k' * nI 40 + nI 0 = nI (40 * k') := by rw [pk_mul, nI_add, Nat.mul_comm, Nat.add_zero]
  have v1 : vp_in (nI (40 * k')) 2000 := vp_in_nI (by omega) (by omega)
  have c1 : (nI (40 * k')).toNatClampNeg = 40 * k' := nI_clamp (by omega)
  have e1 : w.1 14 (40 * k') = nI (t.getD 0 0) := a3 0 b1
  have v2 : vp_in (nI (t.getD 0 0)) 72 := vp_in_nI (by omega) (by omega)
  have c2 : (nI (t.getD 0 0)).toNatClampNeg = t.getD 0 0 := nI_clamp (by omega)
  have e2 := (hG.at t0).1
  have v3 : vp_in (nI (sr hg (t.getD 0 0))) 9 := vp_in_nI (by omega) (by omega)
  have c3 : (nI (sr hg (t.getD 0 0))).toNatClampNeg = sr hg (t.getD 0 0) := nI_clamp (by omega)
  have e3 := q0.2.2.2.1
  have e4 := q0.2.2.2.2
  have pl := hR.pk_lt s0
  refine hZ (rg_cut [57]) 400 0 _ _ _ ?_; simp only [rg_e_aload_0 (cut := rg_cut [57]) (f := true) d_G_spelledLetter_0 rfl 1 rfl, rg_e_getr (P := P_G_spelledLetter) (cut := rg_cut [57]) (f := false) d_G_spelledLetter_1 rfl 4 rfl 0 0 1 4 rfl (fun _ => rfl), rg_e_getr (P := P_G_spelledLetter) (cut := rg_cut [57]) (f := false) d_G_spelledLetter_4 rfl 7 rfl 4 2 1 6 rfl (fun _ => rfl), rg_e_aload_0 (cut := rg_cut [57]) (f := false) d_G_spelledLetter_7 rfl 8 rfl, rg_e_getr (P := P_G_spelledLetter) (cut := rg_cut [57]) (f := false) d_G_spelledLetter_8 rfl 11 rfl 0 0 2 13 rfl (fun _ => rfl), rg_e_iload_1 (cut := rg_cut [57]) (f := false) d_G_spelledLetter_11 rfl 12 rfl, rg_e_iconst (cut := rg_cut [57]) (f := false) d_G_spelledLetter_12 rfl 13 rfl (nI 0) rg_ki_0, rg_e_cv3 (P := P_G_spelledLetter) (cut := rg_cut [57]) (f := false) d_G_spelledLetter_13 rfl T_W_edgeAt rfl, rg_e_iald (cut := rg_cut [57]) (f := false) d_G_spelledLetter_16 rfl 17 rfl 6 72 rfl, rg_e_istore_3 (cut := rg_cut [57]) (f := false) d_G_spelledLetter_17 rfl 18 rfl, rg_e_iload_2 (cut := rg_cut [57]) (f := false) d_G_spelledLetter_18 rfl 19 rfl, rg_e_aload_0 (cut := rg_cut [57]) (f := false) d_G_spelledLetter_19 rfl 20 rfl, rg_e_getr (P := P_G_spelledLetter) (cut := rg_cut [57]) (f := false) d_G_spelledLetter_20 rfl 23 rfl 0 0 0 1 rfl (fun _ => rfl), rg_e_getr (P := P_G_spelledLetter) (cut := rg_cut [57]) (f := false) d_G_spelledLetter_23 rfl 26 rfl 1 1 1 3 rfl (fun _ => rfl), rg_e_iload_3 (cut := rg_cut [57]) (f := false) d_G_spelledLetter_26 rfl 27 rfl, rg_e_iald (cut := rg_cut [57]) (f := false) d_G_spelledLetter_27 rfl 28 rfl 3 9 rfl, rg_e_icmp_ge (cut := rg_cut [57]) (f := false) d_G_spelledLetter_28 rfl 31 rfl 41 rfl, rg_e_aload_0 (cut := rg_cut [57]) (f := false) d_G_spelledLetter_31 rfl 32 rfl, rg_e_getr (P := P_G_spelledLetter) (cut := rg_cut [57]) (f := false) d_G_spelledLetter_32 rfl 35 rfl 0 0 0 1 rfl (fun _ => rfl), rg_e_iload_3 (cut := rg_cut [57]) (f := false) d_G_spelledLetter_35 rfl 36 rfl, rg_e_iload_2 (cut := rg_cut [57]) (f := false) d_G_spelledLetter_36 rfl 37 rfl, rg_e_cv3 (P := P_G_spelledLetter) (cut := rg_cut [57]) (f := false) d_G_spelledLetter_37 rfl T_R_letterAt rfl, rg_e_iret (cut := rg_cut [57]) (f := false) d_G_spelledLetter_40 rfl, rg_e_iload_2 (cut := rg_cut [57]) (f := false) d_G_spelledLetter_41 rfl 42 rfl, rg_e_aload_0 (cut := rg_cut [57]) (f := false) d_G_spelledLetter_42 rfl 43 rfl, rg_e_getr (P := P_G_spelledLetter) (cut := rg_cut [57]) (f := false) d_G_spelledLetter_43 rfl 46 rfl 0 0 0 1 rfl (fun _ => rfl), rg_e_getr (P := P_G_spelledLetter) (cut := rg_cut [57]) (f := false) d_G_spelledLetter_46 rfl 49 rfl 1 1 1 3 rfl (fun _ => rfl), rg_e_iload_3 (cut := rg_cut [57]) (f := false) d_G_spelledLetter_49 rfl 50 rfl, rg_e_iald (cut := rg_cut [57]) (f := false) d_G_spelledLetter_50 rfl 51 rfl 3 9 rfl, rg_e_isub (cut := rg_cut [57]) (f := false) d_G_spelledLetter_51 rfl 52 rfl, rg_e_istore_4 (cut := rg_cut [57]) (f := false) d_G_spelledLetter_52 rfl 54 rfl, rg_e_iconst (cut := rg_cut [57]) (f := false) d_G_spelledLetter_54 rfl 55 rfl (nI 0) rg_ki_0, rg_e_istore_5 (cut := rg_cut [57]) (f := false) d_G_spelledLetter_55 rfl 57 rfl, rg_e_cut (cut := rg_cut [57]) 57 rfl, rg_nx_i, rg_nx_v, rg_wd_n, rg_wd_i, rg_wd_l, rg_wd_r, rg_clr_i, rg_clr_l, rg_clr_r, rg_clr_a, rg_clr_n, true_and, and_true, Nat.reduceAdd, Nat.reduceLeDiff, ↓Te_W_edgeAt, ↓Te_R_letterAt, rg_rt_e, rg_fit_ie, rg_fit_ve, rg_fit_1e, rg_fit_0e, rg_fit_be, vk, ck, a2, x1, v1, c1, e1, v2, c2, e2, v3, c3, e3, e4]
  rw [nI_lep (by omega) (by omega)]
  refine ⟨fun h => ?_, fun h => ?_⟩
  · rw [pk_sub h]
    exact loop h 0 _ _ _ ⟨by omega, by omega, by rw [List.drop_zero]⟩
  · rw [if_pos (by omega)] at hK
    rw [letter_n (by omega) (by omega) (by omega)]
    exact hK
end
