-- ===== PART A: goes FIRST, ahead of the names: the tables' words, and 'selects' of the private methods out of them =====
/-- a private method of a class that the tables say can be made, by its rows of tables_1 -/
def lw_okq (q : MethodName × Nat) : Prop := (q.1.cls ≠ "java/lang/invoke/MethodHandle" ∧ q.1.cls ≠ "java/lang/invoke/VarHandle") ∧ Cond.instantiable q.1.cls q.2 ∈ tables_1 ∧ Cond.privateMethod q.1 ∈ tables_1 ∧ Cond.instanceMethod q.1 ∈ tables_1
theorem lw_p0 : lw_okq (⟨"StackMarks", "addItem", "(IIIIII)I"⟩, 10) := ⟨⟨by decide +kernel, by decide +kernel⟩, List.mem_of_getElem? (i := 14) (by decide +kernel), List.mem_of_getElem? (i := 230) (by decide +kernel), List.mem_of_getElem? (i := 231) (by decide +kernel)⟩
theorem lw_p1 : lw_okq (⟨"StackMarks$Items", "isAt", "(I)Z"⟩, 7) := ⟨⟨by decide +kernel, by decide +kernel⟩, List.mem_of_getElem? (i := 22) (by decide +kernel), List.mem_of_getElem? (i := 235) (by decide +kernel), List.mem_of_getElem? (i := 236) (by decide +kernel)⟩
theorem lw_p2 : lw_okq (⟨"StackMarks$Items", "add", "(IIIIII)I"⟩, 7) := ⟨⟨by decide +kernel, by decide +kernel⟩, List.mem_of_getElem? (i := 22) (by decide +kernel), List.mem_of_getElem? (i := 240) (by decide +kernel), List.mem_of_getElem? (i := 241) (by decide +kernel)⟩
theorem lw_p3 : lw_okq (⟨"StackMarks$Items", "has", "(I)Z"⟩, 7) := ⟨⟨by decide +kernel, by decide +kernel⟩, List.mem_of_getElem? (i := 22) (by decide +kernel), List.mem_of_getElem? (i := 252) (by decide +kernel), List.mem_of_getElem? (i := 253) (by decide +kernel)⟩
theorem lw_p4 : lw_okq (⟨"StackMarks$Kinds", "has", "(I)Z"⟩, 1) := ⟨⟨by decide +kernel, by decide +kernel⟩, List.mem_of_getElem? (i := 58) (by decide +kernel), List.mem_of_getElem? (i := 260) (by decide +kernel), List.mem_of_getElem? (i := 261) (by decide +kernel)⟩
theorem lw_p5 : lw_okq (⟨"StackMarks$Kinds", "takes", "(II)Z"⟩, 1) := ⟨⟨by decide +kernel, by decide +kernel⟩, List.mem_of_getElem? (i := 58) (by decide +kernel), List.mem_of_getElem? (i := 264) (by decide +kernel), List.mem_of_getElem? (i := 265) (by decide +kernel)⟩
theorem lw_p6 : lw_okq (⟨"StackMarks$Kinds", "change", "(III)I"⟩, 1) := ⟨⟨by decide +kernel, by decide +kernel⟩, List.mem_of_getElem? (i := 58) (by decide +kernel), List.mem_of_getElem? (i := 270) (by decide +kernel), List.mem_of_getElem? (i := 271) (by decide +kernel)⟩
theorem lw_p7 : lw_okq (⟨"StackMarks$Kinds", "get", "(II)I"⟩, 1) := ⟨⟨by decide +kernel, by decide +kernel⟩, List.mem_of_getElem? (i := 58) (by decide +kernel), List.mem_of_getElem? (i := 274) (by decide +kernel), List.mem_of_getElem? (i := 275) (by decide +kernel)⟩
theorem lw_p8 : lw_okq (⟨"StackMarks$Marks", "add", "(IIII)I"⟩, 12) := ⟨⟨by decide +kernel, by decide +kernel⟩, List.mem_of_getElem? (i := 70) (by decide +kernel), List.mem_of_getElem? (i := 282) (by decide +kernel), List.mem_of_getElem? (i := 283) (by decide +kernel)⟩
theorem lw_p9 : lw_okq (⟨"StackMarks$Marks", "has", "(I)Z"⟩, 12) := ⟨⟨by decide +kernel, by decide +kernel⟩, List.mem_of_getElem? (i := 70) (by decide +kernel), List.mem_of_getElem? (i := 290) (by decide +kernel), List.mem_of_getElem? (i := 291) (by decide +kernel)⟩
theorem lw_p10 : lw_okq (⟨"StackMarks$Slurs", "add", "(IIII)I"⟩, 7) := ⟨⟨by decide +kernel, by decide +kernel⟩, List.mem_of_getElem? (i := 126) (by decide +kernel), List.mem_of_getElem? (i := 301) (by decide +kernel), List.mem_of_getElem? (i := 302) (by decide +kernel)⟩
theorem lw_p11 : lw_okq (⟨"StackMarks$Outline", "clear", "()V"⟩, 6) := ⟨⟨by decide +kernel, by decide +kernel⟩, List.mem_of_getElem? (i := 161) (by decide +kernel), List.mem_of_getElem? (i := 309) (by decide +kernel), List.mem_of_getElem? (i := 310) (by decide +kernel)⟩
theorem lw_p12 : lw_okq (⟨"StackMarks", "coverItems", "()V"⟩, 10) := ⟨⟨by decide +kernel, by decide +kernel⟩, List.mem_of_getElem? (i := 14) (by decide +kernel), List.mem_of_getElem? (i := 314) (by decide +kernel), List.mem_of_getElem? (i := 315) (by decide +kernel)⟩
theorem lw_p13 : lw_okq (⟨"StackMarks", "coverHeads", "(III)V"⟩, 10) := ⟨⟨by decide +kernel, by decide +kernel⟩, List.mem_of_getElem? (i := 14) (by decide +kernel), List.mem_of_getElem? (i := 318) (by decide +kernel), List.mem_of_getElem? (i := 319) (by decide +kernel)⟩
theorem lw_p14 : lw_okq (⟨"StackMarks$Outline", "cover", "(III)V"⟩, 6) := ⟨⟨by decide +kernel, by decide +kernel⟩, List.mem_of_getElem? (i := 161) (by decide +kernel), List.mem_of_getElem? (i := 322) (by decide +kernel), List.mem_of_getElem? (i := 323) (by decide +kernel)⟩
theorem lw_p15 : lw_okq (⟨"StackMarks", "coverStem", "(I)V"⟩, 10) := ⟨⟨by decide +kernel, by decide +kernel⟩, List.mem_of_getElem? (i := 14) (by decide +kernel), List.mem_of_getElem? (i := 326) (by decide +kernel), List.mem_of_getElem? (i := 327) (by decide +kernel)⟩
def lw_privs_1 : List (MethodName × Nat) := [(⟨"StackMarks", "addItem", "(IIIIII)I"⟩, 10), (⟨"StackMarks$Items", "isAt", "(I)Z"⟩, 7), (⟨"StackMarks$Items", "add", "(IIIIII)I"⟩, 7), (⟨"StackMarks$Items", "has", "(I)Z"⟩, 7), (⟨"StackMarks$Kinds", "has", "(I)Z"⟩, 1), (⟨"StackMarks$Kinds", "takes", "(II)Z"⟩, 1), (⟨"StackMarks$Kinds", "change", "(III)I"⟩, 1), (⟨"StackMarks$Kinds", "get", "(II)I"⟩, 1), (⟨"StackMarks$Marks", "add", "(IIII)I"⟩, 12), (⟨"StackMarks$Marks", "has", "(I)Z"⟩, 12), (⟨"StackMarks$Slurs", "add", "(IIII)I"⟩, 7), (⟨"StackMarks$Outline", "clear", "()V"⟩, 6), (⟨"StackMarks", "coverItems", "()V"⟩, 10), (⟨"StackMarks", "coverHeads", "(III)V"⟩, 10), (⟨"StackMarks$Outline", "cover", "(III)V"⟩, 6), (⟨"StackMarks", "coverStem", "(I)V"⟩, 10)]
theorem lw_r1 : ∀ q ∈ lw_privs_1, lw_okq q := List.forall_mem_cons.mpr ⟨lw_p0, List.forall_mem_cons.mpr ⟨lw_p1, List.forall_mem_cons.mpr ⟨lw_p2, List.forall_mem_cons.mpr ⟨lw_p3, List.forall_mem_cons.mpr ⟨lw_p4, List.forall_mem_cons.mpr ⟨lw_p5, List.forall_mem_cons.mpr ⟨lw_p6, List.forall_mem_cons.mpr ⟨lw_p7, List.forall_mem_cons.mpr ⟨lw_p8, List.forall_mem_cons.mpr ⟨lw_p9, List.forall_mem_cons.mpr ⟨lw_p10, List.forall_mem_cons.mpr ⟨lw_p11, List.forall_mem_cons.mpr ⟨lw_p12, List.forall_mem_cons.mpr ⟨lw_p13, List.forall_mem_cons.mpr ⟨lw_p14, List.forall_mem_cons.mpr ⟨lw_p15, fun _ h => absurd h List.not_mem_nil⟩⟩⟩⟩⟩⟩⟩⟩⟩⟩⟩⟩⟩⟩⟩⟩
theorem lw_p16 : lw_okq (⟨"StackMarks", "laySlurs", "()V"⟩, 10) := ⟨⟨by decide +kernel, by decide +kernel⟩, List.mem_of_getElem? (i := 14) (by decide +kernel), List.mem_of_getElem? (i := 330) (by decide +kernel), List.mem_of_getElem? (i := 331) (by decide +kernel)⟩
theorem lw_p17 : lw_okq (⟨"StackMarks", "outline", "(I)LStackMarks$Outline;"⟩, 10) := ⟨⟨by decide +kernel, by decide +kernel⟩, List.mem_of_getElem? (i := 14) (by decide +kernel), List.mem_of_getElem? (i := 334) (by decide +kernel), List.mem_of_getElem? (i := 335) (by decide +kernel)⟩
theorem lw_p18 : lw_okq (⟨"StackMarks$Outline", "greatest", "(II)I"⟩, 6) := ⟨⟨by decide +kernel, by decide +kernel⟩, List.mem_of_getElem? (i := 161) (by decide +kernel), List.mem_of_getElem? (i := 338) (by decide +kernel), List.mem_of_getElem? (i := 339) (by decide +kernel)⟩
theorem lw_p19 : lw_okq (⟨"StackMarks$Outline", "reachOut", "(I)V"⟩, 6) := ⟨⟨by decide +kernel, by decide +kernel⟩, List.mem_of_getElem? (i := 161) (by decide +kernel), List.mem_of_getElem? (i := 345) (by decide +kernel), List.mem_of_getElem? (i := 346) (by decide +kernel)⟩
theorem lw_p20 : lw_okq (⟨"StackMarks", "queueMarks", "()V"⟩, 10) := ⟨⟨by decide +kernel, by decide +kernel⟩, List.mem_of_getElem? (i := 14) (by decide +kernel), List.mem_of_getElem? (i := 349) (by decide +kernel), List.mem_of_getElem? (i := 350) (by decide +kernel)⟩
theorem lw_p21 : lw_okq (⟨"StackMarks$Items", "haveBothVoices", "()Z"⟩, 7) := ⟨⟨by decide +kernel, by decide +kernel⟩, List.mem_of_getElem? (i := 22) (by decide +kernel), List.mem_of_getElem? (i := 353) (by decide +kernel), List.mem_of_getElem? (i := 354) (by decide +kernel)⟩
theorem lw_p22 : lw_okq (⟨"StackMarks", "leftEdge", "(I)I"⟩, 10) := ⟨⟨by decide +kernel, by decide +kernel⟩, List.mem_of_getElem? (i := 14) (by decide +kernel), List.mem_of_getElem? (i := 357) (by decide +kernel), List.mem_of_getElem? (i := 358) (by decide +kernel)⟩
theorem lw_p23 : lw_okq (⟨"StackMarks$Kinds", "liesFromX", "(I)Z"⟩, 1) := ⟨⟨by decide +kernel, by decide +kernel⟩, List.mem_of_getElem? (i := 58) (by decide +kernel), List.mem_of_getElem? (i := 361) (by decide +kernel), List.mem_of_getElem? (i := 362) (by decide +kernel)⟩
theorem lw_p24 : lw_okq (⟨"StackMarks", "chooseSide", "(IZ)I"⟩, 10) := ⟨⟨by decide +kernel, by decide +kernel⟩, List.mem_of_getElem? (i := 14) (by decide +kernel), List.mem_of_getElem? (i := 365) (by decide +kernel), List.mem_of_getElem? (i := 366) (by decide +kernel)⟩
theorem lw_p25 : lw_okq (⟨"StackMarks", "queueMark", "(I)V"⟩, 10) := ⟨⟨by decide +kernel, by decide +kernel⟩, List.mem_of_getElem? (i := 14) (by decide +kernel), List.mem_of_getElem? (i := 370) (by decide +kernel), List.mem_of_getElem? (i := 371) (by decide +kernel)⟩
theorem lw_p26 : lw_okq (⟨"StackMarks", "rank", "(I)I"⟩, 10) := ⟨⟨by decide +kernel, by decide +kernel⟩, List.mem_of_getElem? (i := 14) (by decide +kernel), List.mem_of_getElem? (i := 374) (by decide +kernel), List.mem_of_getElem? (i := 375) (by decide +kernel)⟩
theorem lw_p27 : lw_okq (⟨"StackMarks$Kinds", "rank", "(I)I"⟩, 1) := ⟨⟨by decide +kernel, by decide +kernel⟩, List.mem_of_getElem? (i := 58) (by decide +kernel), List.mem_of_getElem? (i := 378) (by decide +kernel), List.mem_of_getElem? (i := 379) (by decide +kernel)⟩
theorem lw_p28 : lw_okq (⟨"StackMarks", "layMarks", "()I"⟩, 10) := ⟨⟨by decide +kernel, by decide +kernel⟩, List.mem_of_getElem? (i := 14) (by decide +kernel), List.mem_of_getElem? (i := 383) (by decide +kernel), List.mem_of_getElem? (i := 384) (by decide +kernel)⟩
theorem lw_p29 : lw_okq (⟨"StackMarks$Kinds", "isInRow", "(I)Z"⟩, 1) := ⟨⟨by decide +kernel, by decide +kernel⟩, List.mem_of_getElem? (i := 58) (by decide +kernel), List.mem_of_getElem? (i := 387) (by decide +kernel), List.mem_of_getElem? (i := 388) (by decide +kernel)⟩
theorem lw_p30 : lw_okq (⟨"StackMarks", "innerAlone", "(I)I"⟩, 10) := ⟨⟨by decide +kernel, by decide +kernel⟩, List.mem_of_getElem? (i := 14) (by decide +kernel), List.mem_of_getElem? (i := 391) (by decide +kernel), List.mem_of_getElem? (i := 392) (by decide +kernel)⟩
theorem lw_p31 : lw_okq (⟨"StackMarks$Marks", "behind", "(I)I"⟩, 12) := ⟨⟨by decide +kernel, by decide +kernel⟩, List.mem_of_getElem? (i := 70) (by decide +kernel), List.mem_of_getElem? (i := 395) (by decide +kernel), List.mem_of_getElem? (i := 396) (by decide +kernel)⟩
def lw_privs_2 : List (MethodName × Nat) := [(⟨"StackMarks", "laySlurs", "()V"⟩, 10), (⟨"StackMarks", "outline", "(I)LStackMarks$Outline;"⟩, 10), (⟨"StackMarks$Outline", "greatest", "(II)I"⟩, 6), (⟨"StackMarks$Outline", "reachOut", "(I)V"⟩, 6), (⟨"StackMarks", "queueMarks", "()V"⟩, 10), (⟨"StackMarks$Items", "haveBothVoices", "()Z"⟩, 7), (⟨"StackMarks", "leftEdge", "(I)I"⟩, 10), (⟨"StackMarks$Kinds", "liesFromX", "(I)Z"⟩, 1), (⟨"StackMarks", "chooseSide", "(IZ)I"⟩, 10), (⟨"StackMarks", "queueMark", "(I)V"⟩, 10), (⟨"StackMarks", "rank", "(I)I"⟩, 10), (⟨"StackMarks$Kinds", "rank", "(I)I"⟩, 1), (⟨"StackMarks", "layMarks", "()I"⟩, 10), (⟨"StackMarks$Kinds", "isInRow", "(I)Z"⟩, 1), (⟨"StackMarks", "innerAlone", "(I)I"⟩, 10), (⟨"StackMarks$Marks", "behind", "(I)I"⟩, 12)]
theorem lw_r2 : ∀ q ∈ lw_privs_2, lw_okq q := List.forall_mem_cons.mpr ⟨lw_p16, List.forall_mem_cons.mpr ⟨lw_p17, List.forall_mem_cons.mpr ⟨lw_p18, List.forall_mem_cons.mpr ⟨lw_p19, List.forall_mem_cons.mpr ⟨lw_p20, List.forall_mem_cons.mpr ⟨lw_p21, List.forall_mem_cons.mpr ⟨lw_p22, List.forall_mem_cons.mpr ⟨lw_p23, List.forall_mem_cons.mpr ⟨lw_p24, List.forall_mem_cons.mpr ⟨lw_p25, List.forall_mem_cons.mpr ⟨lw_p26, List.forall_mem_cons.mpr ⟨lw_p27, List.forall_mem_cons.mpr ⟨lw_p28, List.forall_mem_cons.mpr ⟨lw_p29, List.forall_mem_cons.mpr ⟨lw_p30, List.forall_mem_cons.mpr ⟨lw_p31, fun _ h => absurd h List.not_mem_nil⟩⟩⟩⟩⟩⟩⟩⟩⟩⟩⟩⟩⟩⟩⟩⟩
theorem lw_p32 : lw_okq (⟨"StackMarks", "layAt", "(II)V"⟩, 10) := ⟨⟨by decide +kernel, by decide +kernel⟩, List.mem_of_getElem? (i := 14) (by decide +kernel), List.mem_of_getElem? (i := 399) (by decide +kernel), List.mem_of_getElem? (i := 400) (by decide +kernel)⟩
theorem lw_p33 : lw_okq (⟨"StackMarks", "layRow", "(II)I"⟩, 10) := ⟨⟨by decide +kernel, by decide +kernel⟩, List.mem_of_getElem? (i := 14) (by decide +kernel), List.mem_of_getElem? (i := 403) (by decide +kernel), List.mem_of_getElem? (i := 404) (by decide +kernel)⟩
theorem lw_p34 : lw_okq (⟨"StackMarks", "fillRow", "(II)I"⟩, 10) := ⟨⟨by decide +kernel, by decide +kernel⟩, List.mem_of_getElem? (i := 14) (by decide +kernel), List.mem_of_getElem? (i := 407) (by decide +kernel), List.mem_of_getElem? (i := 408) (by decide +kernel)⟩
theorem lw_p35 : lw_okq (⟨"StackMarks$Marks", "isOf", "(III)Z"⟩, 12) := ⟨⟨by decide +kernel, by decide +kernel⟩, List.mem_of_getElem? (i := 70) (by decide +kernel), List.mem_of_getElem? (i := 412) (by decide +kernel), List.mem_of_getElem? (i := 413) (by decide +kernel)⟩
theorem lw_p36 : lw_okq (⟨"StackMarks", "isFreeInRow", "(I)Z"⟩, 10) := ⟨⟨by decide +kernel, by decide +kernel⟩, List.mem_of_getElem? (i := 14) (by decide +kernel), List.mem_of_getElem? (i := 416) (by decide +kernel), List.mem_of_getElem? (i := 417) (by decide +kernel)⟩
theorem lw_p37 : lw_okq (⟨"StackMarks$Marks", "shareX", "(II)Z"⟩, 12) := ⟨⟨by decide +kernel, by decide +kernel⟩, List.mem_of_getElem? (i := 70) (by decide +kernel), List.mem_of_getElem? (i := 420) (by decide +kernel), List.mem_of_getElem? (i := 421) (by decide +kernel)⟩
theorem lw_p38 : lw_okq (⟨"StackMarks", "layRowMarks", "(III)V"⟩, 10) := ⟨⟨by decide +kernel, by decide +kernel⟩, List.mem_of_getElem? (i := 14) (by decide +kernel), List.mem_of_getElem? (i := 426) (by decide +kernel), List.mem_of_getElem? (i := 427) (by decide +kernel)⟩
theorem lw_p39 : lw_okq (⟨"StackMarks", "layLate", "(II)I"⟩, 10) := ⟨⟨by decide +kernel, by decide +kernel⟩, List.mem_of_getElem? (i := 14) (by decide +kernel), List.mem_of_getElem? (i := 430) (by decide +kernel), List.mem_of_getElem? (i := 431) (by decide +kernel)⟩
theorem lw_p40 : lw_okq (⟨"StackMarks", "lackOf", "(I)I"⟩, 10) := ⟨⟨by decide +kernel, by decide +kernel⟩, List.mem_of_getElem? (i := 14) (by decide +kernel), List.mem_of_getElem? (i := 438) (by decide +kernel), List.mem_of_getElem? (i := 439) (by decide +kernel)⟩
theorem lw_p41 : lw_okq (⟨"StackMarks$Items", "next", "(I)I"⟩, 7) := ⟨⟨by decide +kernel, by decide +kernel⟩, List.mem_of_getElem? (i := 22) (by decide +kernel), List.mem_of_getElem? (i := 442) (by decide +kernel), List.mem_of_getElem? (i := 443) (by decide +kernel)⟩
theorem lw_p42 : lw_okq (⟨"StackMarks$Items", "greatestX", "()I"⟩, 7) := ⟨⟨by decide +kernel, by decide +kernel⟩, List.mem_of_getElem? (i := 22) (by decide +kernel), List.mem_of_getElem? (i := 450) (by decide +kernel), List.mem_of_getElem? (i := 451) (by decide +kernel)⟩
theorem lw_p43 : lw_okq (⟨"StackMarks$Items", "moveBehind", "(II)V"⟩, 7) := ⟨⟨by decide +kernel, by decide +kernel⟩, List.mem_of_getElem? (i := 22) (by decide +kernel), List.mem_of_getElem? (i := 455) (by decide +kernel), List.mem_of_getElem? (i := 456) (by decide +kernel)⟩
theorem lw_p44 : lw_okq (⟨"StackMarks$Marks", "countAt", "(I)I"⟩, 12) := ⟨⟨by decide +kernel, by decide +kernel⟩, List.mem_of_getElem? (i := 70) (by decide +kernel), List.mem_of_getElem? (i := 463) (by decide +kernel), List.mem_of_getElem? (i := 464) (by decide +kernel)⟩
theorem lw_p45 : lw_okq (⟨"StackMarks", "demandPlaces", "()V"⟩, 10) := ⟨⟨by decide +kernel, by decide +kernel⟩, List.mem_of_getElem? (i := 14) (by decide +kernel), List.mem_of_getElem? (i := 475) (by decide +kernel), List.mem_of_getElem? (i := 476) (by decide +kernel)⟩
theorem lw_p46 : lw_okq (⟨"java/lang/Throwable", "fillInStackTrace", "(I)Ljava/lang/Throwable;"⟩, 6) := ⟨⟨by decide +kernel, by decide +kernel⟩, List.mem_of_getElem? (i := 515) (by decide +kernel), List.mem_of_getElem? (i := 513) (by decide +kernel), List.mem_of_getElem? (i := 514) (by decide +kernel)⟩
theorem lw_p47 : lw_okq (⟨"StackMarks$Slurs", "has", "(I)Z"⟩, 7) := ⟨⟨by decide +kernel, by decide +kernel⟩, List.mem_of_getElem? (i := 126) (by decide +kernel), List.mem_of_getElem? (i := 552) (by decide +kernel), List.mem_of_getElem? (i := 553) (by decide +kernel)⟩
def lw_privs_3 : List (MethodName × Nat) := [(⟨"StackMarks", "layAt", "(II)V"⟩, 10), (⟨"StackMarks", "layRow", "(II)I"⟩, 10), (⟨"StackMarks", "fillRow", "(II)I"⟩, 10), (⟨"StackMarks$Marks", "isOf", "(III)Z"⟩, 12), (⟨"StackMarks", "isFreeInRow", "(I)Z"⟩, 10), (⟨"StackMarks$Marks", "shareX", "(II)Z"⟩, 12), (⟨"StackMarks", "layRowMarks", "(III)V"⟩, 10), (⟨"StackMarks", "layLate", "(II)I"⟩, 10), (⟨"StackMarks", "lackOf", "(I)I"⟩, 10), (⟨"StackMarks$Items", "next", "(I)I"⟩, 7), (⟨"StackMarks$Items", "greatestX", "()I"⟩, 7), (⟨"StackMarks$Items", "moveBehind", "(II)V"⟩, 7), (⟨"StackMarks$Marks", "countAt", "(I)I"⟩, 12), (⟨"StackMarks", "demandPlaces", "()V"⟩, 10), (⟨"java/lang/Throwable", "fillInStackTrace", "(I)Ljava/lang/Throwable;"⟩, 6), (⟨"StackMarks$Slurs", "has", "(I)Z"⟩, 7)]
theorem lw_r3 : ∀ q ∈ lw_privs_3, lw_okq q := List.forall_mem_cons.mpr ⟨lw_p32, List.forall_mem_cons.mpr ⟨lw_p33, List.forall_mem_cons.mpr ⟨lw_p34, List.forall_mem_cons.mpr ⟨lw_p35, List.forall_mem_cons.mpr ⟨lw_p36, List.forall_mem_cons.mpr ⟨lw_p37, List.forall_mem_cons.mpr ⟨lw_p38, List.forall_mem_cons.mpr ⟨lw_p39, List.forall_mem_cons.mpr ⟨lw_p40, List.forall_mem_cons.mpr ⟨lw_p41, List.forall_mem_cons.mpr ⟨lw_p42, List.forall_mem_cons.mpr ⟨lw_p43, List.forall_mem_cons.mpr ⟨lw_p44, List.forall_mem_cons.mpr ⟨lw_p45, List.forall_mem_cons.mpr ⟨lw_p46, List.forall_mem_cons.mpr ⟨lw_p47, fun _ h => absurd h List.not_mem_nil⟩⟩⟩⟩⟩⟩⟩⟩⟩⟩⟩⟩⟩⟩⟩⟩
theorem lw_p48 : lw_okq (⟨"StackMarks$Marks", "isOn", "(III)Z"⟩, 12) := ⟨⟨by decide +kernel, by decide +kernel⟩, List.mem_of_getElem? (i := 70) (by decide +kernel), List.mem_of_getElem? (i := 578) (by decide +kernel), List.mem_of_getElem? (i := 579) (by decide +kernel)⟩
theorem lw_p49 : lw_okq (⟨"StackMarks$Marks", "countNearer", "(I)I"⟩, 12) := ⟨⟨by decide +kernel, by decide +kernel⟩, List.mem_of_getElem? (i := 70) (by decide +kernel), List.mem_of_getElem? (i := 582) (by decide +kernel), List.mem_of_getElem? (i := 583) (by decide +kernel)⟩
theorem lw_p50 : lw_okq (⟨"StackMarks$Marks", "countThere", "()I"⟩, 12) := ⟨⟨by decide +kernel, by decide +kernel⟩, List.mem_of_getElem? (i := 70) (by decide +kernel), List.mem_of_getElem? (i := 601) (by decide +kernel), List.mem_of_getElem? (i := 602) (by decide +kernel)⟩
theorem lw_p51 : lw_okq (⟨"StackMarks", "outermost", "(I)I"⟩, 10) := ⟨⟨by decide +kernel, by decide +kernel⟩, List.mem_of_getElem? (i := 14) (by decide +kernel), List.mem_of_getElem? (i := 605) (by decide +kernel), List.mem_of_getElem? (i := 606) (by decide +kernel)⟩
theorem lw_p52 : lw_okq (⟨"StackMarksModel", "isTaken", "(I)Z"⟩, 31) := ⟨⟨by decide +kernel, by decide +kernel⟩, List.mem_of_getElem? (i := 609) (by decide +kernel), List.mem_of_getElem? (i := 721) (by decide +kernel), List.mem_of_getElem? (i := 722) (by decide +kernel)⟩
theorem lw_p53 : lw_okq (⟨"StackMarksModel", "come", "(IIIIIZ)I"⟩, 31) := ⟨⟨by decide +kernel, by decide +kernel⟩, List.mem_of_getElem? (i := 609) (by decide +kernel), List.mem_of_getElem? (i := 726) (by decide +kernel), List.mem_of_getElem? (i := 727) (by decide +kernel)⟩
theorem lw_p54 : lw_okq (⟨"StackMarksModel", "isItem", "(I)Z"⟩, 31) := ⟨⟨by decide +kernel, by decide +kernel⟩, List.mem_of_getElem? (i := 609) (by decide +kernel), List.mem_of_getElem? (i := 739) (by decide +kernel), List.mem_of_getElem? (i := 740) (by decide +kernel)⟩
theorem lw_p55 : lw_okq (⟨"StackMarksModel", "isMark", "(I)Z"⟩, 31) := ⟨⟨by decide +kernel, by decide +kernel⟩, List.mem_of_getElem? (i := 609) (by decide +kernel), List.mem_of_getElem? (i := 758) (by decide +kernel), List.mem_of_getElem? (i := 759) (by decide +kernel)⟩
theorem lw_p56 : lw_okq (⟨"StackMarksModel", "greatest", "(III)I"⟩, 31) := ⟨⟨by decide +kernel, by decide +kernel⟩, List.mem_of_getElem? (i := 609) (by decide +kernel), List.mem_of_getElem? (i := 773) (by decide +kernel), List.mem_of_getElem? (i := 774) (by decide +kernel)⟩
theorem lw_p57 : lw_okq (⟨"StackMarksModel", "sideOf", "(I)I"⟩, 31) := ⟨⟨by decide +kernel, by decide +kernel⟩, List.mem_of_getElem? (i := 609) (by decide +kernel), List.mem_of_getElem? (i := 780) (by decide +kernel), List.mem_of_getElem? (i := 781) (by decide +kernel)⟩
theorem lw_p58 : lw_okq (⟨"StackMarksModel", "areBoth", "()Z"⟩, 31) := ⟨⟨by decide +kernel, by decide +kernel⟩, List.mem_of_getElem? (i := 609) (by decide +kernel), List.mem_of_getElem? (i := 784) (by decide +kernel), List.mem_of_getElem? (i := 785) (by decide +kernel)⟩
theorem lw_p59 : lw_okq (⟨"StackMarksModel", "left", "(I)I"⟩, 31) := ⟨⟨by decide +kernel, by decide +kernel⟩, List.mem_of_getElem? (i := 609) (by decide +kernel), List.mem_of_getElem? (i := 788) (by decide +kernel), List.mem_of_getElem? (i := 789) (by decide +kernel)⟩
theorem lw_p60 : lw_okq (⟨"StackMarksModel", "isAhead", "(II)Z"⟩, 31) := ⟨⟨by decide +kernel, by decide +kernel⟩, List.mem_of_getElem? (i := 609) (by decide +kernel), List.mem_of_getElem? (i := 793) (by decide +kernel), List.mem_of_getElem? (i := 794) (by decide +kernel)⟩
theorem lw_p61 : lw_okq (⟨"StackMarksModel", "lieRow", "(II)I"⟩, 31) := ⟨⟨by decide +kernel, by decide +kernel⟩, List.mem_of_getElem? (i := 609) (by decide +kernel), List.mem_of_getElem? (i := 797) (by decide +kernel), List.mem_of_getElem? (i := 798) (by decide +kernel)⟩
theorem lw_p62 : lw_okq (⟨"StackMarksModel", "gather", "(II)I"⟩, 31) := ⟨⟨by decide +kernel, by decide +kernel⟩, List.mem_of_getElem? (i := 609) (by decide +kernel), List.mem_of_getElem? (i := 801) (by decide +kernel), List.mem_of_getElem? (i := 802) (by decide +kernel)⟩
theorem lw_p63 : lw_okq (⟨"StackMarksModel", "cover", "(II)Z"⟩, 31) := ⟨⟨by decide +kernel, by decide +kernel⟩, List.mem_of_getElem? (i := 609) (by decide +kernel), List.mem_of_getElem? (i := 805) (by decide +kernel), List.mem_of_getElem? (i := 806) (by decide +kernel)⟩
def lw_privs_4 : List (MethodName × Nat) := [(⟨"StackMarks$Marks", "isOn", "(III)Z"⟩, 12), (⟨"StackMarks$Marks", "countNearer", "(I)I"⟩, 12), (⟨"StackMarks$Marks", "countThere", "()I"⟩, 12), (⟨"StackMarks", "outermost", "(I)I"⟩, 10), (⟨"StackMarksModel", "isTaken", "(I)Z"⟩, 31), (⟨"StackMarksModel", "come", "(IIIIIZ)I"⟩, 31), (⟨"StackMarksModel", "isItem", "(I)Z"⟩, 31), (⟨"StackMarksModel", "isMark", "(I)Z"⟩, 31), (⟨"StackMarksModel", "greatest", "(III)I"⟩, 31), (⟨"StackMarksModel", "sideOf", "(I)I"⟩, 31), (⟨"StackMarksModel", "areBoth", "()Z"⟩, 31), (⟨"StackMarksModel", "left", "(I)I"⟩, 31), (⟨"StackMarksModel", "isAhead", "(II)Z"⟩, 31), (⟨"StackMarksModel", "lieRow", "(II)I"⟩, 31), (⟨"StackMarksModel", "gather", "(II)I"⟩, 31), (⟨"StackMarksModel", "cover", "(II)Z"⟩, 31)]
theorem lw_r4 : ∀ q ∈ lw_privs_4, lw_okq q := List.forall_mem_cons.mpr ⟨lw_p48, List.forall_mem_cons.mpr ⟨lw_p49, List.forall_mem_cons.mpr ⟨lw_p50, List.forall_mem_cons.mpr ⟨lw_p51, List.forall_mem_cons.mpr ⟨lw_p52, List.forall_mem_cons.mpr ⟨lw_p53, List.forall_mem_cons.mpr ⟨lw_p54, List.forall_mem_cons.mpr ⟨lw_p55, List.forall_mem_cons.mpr ⟨lw_p56, List.forall_mem_cons.mpr ⟨lw_p57, List.forall_mem_cons.mpr ⟨lw_p58, List.forall_mem_cons.mpr ⟨lw_p59, List.forall_mem_cons.mpr ⟨lw_p60, List.forall_mem_cons.mpr ⟨lw_p61, List.forall_mem_cons.mpr ⟨lw_p62, List.forall_mem_cons.mpr ⟨lw_p63, fun _ h => absurd h List.not_mem_nil⟩⟩⟩⟩⟩⟩⟩⟩⟩⟩⟩⟩⟩⟩⟩⟩
theorem lw_p64 : lw_okq (⟨"StackMarksModel", "own", "(I)I"⟩, 31) := ⟨⟨by decide +kernel, by decide +kernel⟩, List.mem_of_getElem? (i := 609) (by decide +kernel), List.mem_of_getElem? (i := 809) (by decide +kernel), List.mem_of_getElem? (i := 810) (by decide +kernel)⟩
theorem lw_p65 : lw_okq (⟨"StackMarksModel", "lie", "(IIZ)V"⟩, 31) := ⟨⟨by decide +kernel, by decide +kernel⟩, List.mem_of_getElem? (i := 609) (by decide +kernel), List.mem_of_getElem? (i := 813) (by decide +kernel), List.mem_of_getElem? (i := 814) (by decide +kernel)⟩
theorem lw_p66 : lw_okq (⟨"StackMarksModel", "throwsNow", "()Z"⟩, 31) := ⟨⟨by decide +kernel, by decide +kernel⟩, List.mem_of_getElem? (i := 609) (by decide +kernel), List.mem_of_getElem? (i := 821) (by decide +kernel), List.mem_of_getElem? (i := 822) (by decide +kernel)⟩
theorem lw_p67 : lw_okq (⟨"StackMarksModel", "lacks", "(I)I"⟩, 31) := ⟨⟨by decide +kernel, by decide +kernel⟩, List.mem_of_getElem? (i := 609) (by decide +kernel), List.mem_of_getElem? (i := 850) (by decide +kernel), List.mem_of_getElem? (i := 851) (by decide +kernel)⟩
theorem lw_p68 : lw_okq (⟨"StackMarksModel", "nextOf", "(I)I"⟩, 31) := ⟨⟨by decide +kernel, by decide +kernel⟩, List.mem_of_getElem? (i := 609) (by decide +kernel), List.mem_of_getElem? (i := 854) (by decide +kernel), List.mem_of_getElem? (i := 855) (by decide +kernel)⟩
theorem lw_p69 : lw_okq (⟨"StackMarksModel", "marksOf", "(I)I"⟩, 31) := ⟨⟨by decide +kernel, by decide +kernel⟩, List.mem_of_getElem? (i := 609) (by decide +kernel), List.mem_of_getElem? (i := 866) (by decide +kernel), List.mem_of_getElem? (i := 867) (by decide +kernel)⟩
theorem lw_p70 : lw_okq (⟨"StackMarksModel", "outermost", "(I)I"⟩, 31) := ⟨⟨by decide +kernel, by decide +kernel⟩, List.mem_of_getElem? (i := 609) (by decide +kernel), List.mem_of_getElem? (i := 874) (by decide +kernel), List.mem_of_getElem? (i := 875) (by decide +kernel)⟩
def lw_privs_5 : List (MethodName × Nat) := [(⟨"StackMarksModel", "own", "(I)I"⟩, 31), (⟨"StackMarksModel", "lie", "(IIZ)V"⟩, 31), (⟨"StackMarksModel", "throwsNow", "()Z"⟩, 31), (⟨"StackMarksModel", "lacks", "(I)I"⟩, 31), (⟨"StackMarksModel", "nextOf", "(I)I"⟩, 31), (⟨"StackMarksModel", "marksOf", "(I)I"⟩, 31), (⟨"StackMarksModel", "outermost", "(I)I"⟩, 31)]
theorem lw_r5 : ∀ q ∈ lw_privs_5, lw_okq q := List.forall_mem_cons.mpr ⟨lw_p64, List.forall_mem_cons.mpr ⟨lw_p65, List.forall_mem_cons.mpr ⟨lw_p66, List.forall_mem_cons.mpr ⟨lw_p67, List.forall_mem_cons.mpr ⟨lw_p68, List.forall_mem_cons.mpr ⟨lw_p69, List.forall_mem_cons.mpr ⟨lw_p70, fun _ h => absurd h List.not_mem_nil⟩⟩⟩⟩⟩⟩⟩
def lw_privs : List (MethodName × Nat) := lw_privs_1 ++ (lw_privs_2 ++ (lw_privs_3 ++ (lw_privs_4 ++ (lw_privs_5))))
def lw_tbl : List Cond := k2_sels lw_privs ++ tables_1
theorem lw_privs_ok : ∀ q ∈ lw_privs, lw_okq q := by
  show ∀ q ∈ lw_privs_1 ++ (lw_privs_2 ++ (lw_privs_3 ++ (lw_privs_4 ++ (lw_privs_5)))), lw_okq q
  exact List.forall_mem_append.mpr ⟨lw_r1, List.forall_mem_append.mpr ⟨lw_r2, List.forall_mem_append.mpr ⟨lw_r3, List.forall_mem_append.mpr ⟨lw_r4, lw_r5⟩⟩⟩⟩
/-! ===== BEGIN printed: names, fields, word lists, decode rows ===== -/
def RX0 : String := "StackMarks$Items"
def TX0 : u_T := fun k => match k with
  | 0 => ("StackMarks$Items", "x", "[I", true)
  | 1 => ("StackMarks$Items", "low", "[I", true)
  | 2 => ("StackMarks$Items", "high", "[I", true)
  | 3 => ("StackMarks$Items", "voice", "[I", true)
  | 4 => ("StackMarks$Items", "stem", "[I", true)
  | 5 => ("StackMarks$Items", "rest", "[I", true)
  | _ => ("StackMarks$Items", "count", "I", false)
def tyX0 : Nat → FieldType := fun k => match k with
  | 0 => .array .int
  | 1 => .array .int
  | 2 => .array .int
  | 3 => .array .int
  | 4 => .array .int
  | 5 => .array .int
  | _ => .int
abbrev wsX00 : List Cond := u_ws RX0 TX0 7
theorem nmX0 : ∀ a, a < 7 → ∀ b, b < 7 → a ≠ b → (TX0 a).2.1 ≠ (TX0 b).2.1 := by decide +kernel
theorem tyX0_ok : ∀ k, k < 7 → parseFieldDescriptor (TX0 k).2.2.1 = some (tyX0 k) := by decide +kernel
abbrev cX0_init : ByteArray := prog_2_method_1_code
def yX0_init : MethodName := ⟨RX0, "<init>", "()V"⟩
abbrev cX0_has : ByteArray := prog_2_method_2_code
def yX0_has : MethodName := ⟨RX0, "has", "(I)Z"⟩
abbrev cX0_isAt : ByteArray := prog_2_method_3_code
def yX0_isAt : MethodName := ⟨RX0, "isAt", "(I)Z"⟩
abbrev cX0_add : ByteArray := prog_2_method_4_code
def yX0_add : MethodName := ⟨RX0, "add", "(IIIIII)I"⟩
abbrev cX0_next : ByteArray := prog_2_method_5_code
def yX0_next : MethodName := ⟨RX0, "next", "(I)I"⟩
abbrev cX0_greatestX : ByteArray := prog_2_method_6_code
def yX0_greatestX : MethodName := ⟨RX0, "greatestX", "()I"⟩
abbrev cX0_moveBehind : ByteArray := prog_2_method_7_code
def yX0_moveBehind : MethodName := ⟨RX0, "moveBehind", "(II)V"⟩
abbrev cX0_haveBothVoices : ByteArray := prog_2_method_8_code
def yX0_haveBothVoices : MethodName := ⟨RX0, "haveBothVoices", "()Z"⟩
def RX1 : String := "StackMarks$Kinds"
def TX1 : u_T := fun k => match k with
  | _ => ("StackMarks$Kinds", "settings", "[I", true)
def tyX1 : Nat → FieldType := fun k => match k with
  | _ => .array .int
abbrev wsX10 : List Cond := u_ws RX1 TX1 1
theorem nmX1 : ∀ a, a < 1 → ∀ b, b < 1 → a ≠ b → (TX1 a).2.1 ≠ (TX1 b).2.1 := by decide +kernel
theorem tyX1_ok : ∀ k, k < 1 → parseFieldDescriptor (TX1 k).2.2.1 = some (tyX1 k) := by decide +kernel
abbrev cX1_init : ByteArray := prog_3_method_1_code
def yX1_init : MethodName := ⟨RX1, "<init>", "()V"⟩
abbrev cX1_has : ByteArray := prog_3_method_2_code
def yX1_has : MethodName := ⟨RX1, "has", "(I)Z"⟩
abbrev cX1_takes : ByteArray := prog_3_method_3_code
def yX1_takes : MethodName := ⟨RX1, "takes", "(II)Z"⟩
abbrev cX1_get : ByteArray := prog_3_method_4_code
def yX1_get : MethodName := ⟨RX1, "get", "(II)I"⟩
abbrev cX1_change : ByteArray := prog_3_method_5_code
def yX1_change : MethodName := ⟨RX1, "change", "(III)I"⟩
abbrev cX1_liesFromX : ByteArray := prog_3_method_6_code
def yX1_liesFromX : MethodName := ⟨RX1, "liesFromX", "(I)Z"⟩
abbrev cX1_isInRow : ByteArray := prog_3_method_7_code
def yX1_isInRow : MethodName := ⟨RX1, "isInRow", "(I)Z"⟩
abbrev cX1_rank : ByteArray := prog_3_method_8_code
def yX1_rank : MethodName := ⟨RX1, "rank", "(I)I"⟩
def RX2 : String := "StackMarks$Marks"
def TX2 : u_T := fun k => match k with
  | 0 => ("StackMarks$Marks", "item", "[I", true)
  | 1 => ("StackMarks$Marks", "kind", "[I", true)
  | 2 => ("StackMarks$Marks", "width", "[I", true)
  | 3 => ("StackMarks$Marks", "height", "[I", true)
  | 4 => ("StackMarks$Marks", "gone", "[Z", true)
  | 5 => ("StackMarks$Marks", "left", "[I", true)
  | 6 => ("StackMarks$Marks", "side", "[I", true)
  | 7 => ("StackMarks$Marks", "inner", "[I", true)
  | 8 => ("StackMarks$Marks", "outer", "[I", true)
  | 9 => ("StackMarks$Marks", "inRow", "[Z", true)
  | 10 => ("StackMarks$Marks", "turn", "[I", true)
  | _ => ("StackMarks$Marks", "count", "I", false)
def tyX2 : Nat → FieldType := fun k => match k with
  | 0 => .array .int
  | 1 => .array .int
  | 2 => .array .int
  | 3 => .array .int
  | 4 => .array .boolean
  | 5 => .array .int
  | 6 => .array .int
  | 7 => .array .int
  | 8 => .array .int
  | 9 => .array .boolean
  | 10 => .array .int
  | _ => .int
abbrev wsX20 : List Cond := u_ws RX2 TX2 12
theorem nmX2 : ∀ a, a < 12 → ∀ b, b < 12 → a ≠ b → (TX2 a).2.1 ≠ (TX2 b).2.1 := by decide +kernel
theorem tyX2_ok : ∀ k, k < 12 → parseFieldDescriptor (TX2 k).2.2.1 = some (tyX2 k) := by decide +kernel
abbrev cX2_init : ByteArray := prog_4_method_1_code
def yX2_init : MethodName := ⟨RX2, "<init>", "()V"⟩
abbrev cX2_has : ByteArray := prog_4_method_2_code
def yX2_has : MethodName := ⟨RX2, "has", "(I)Z"⟩
abbrev cX2_add : ByteArray := prog_4_method_3_code
def yX2_add : MethodName := ⟨RX2, "add", "(IIII)I"⟩
abbrev cX2_countThere : ByteArray := prog_4_method_4_code
def yX2_countThere : MethodName := ⟨RX2, "countThere", "()I"⟩
abbrev cX2_countAt : ByteArray := prog_4_method_5_code
def yX2_countAt : MethodName := ⟨RX2, "countAt", "(I)I"⟩
abbrev cX2_isOn : ByteArray := prog_4_method_6_code
def yX2_isOn : MethodName := ⟨RX2, "isOn", "(III)Z"⟩
abbrev cX2_isOf : ByteArray := prog_4_method_7_code
def yX2_isOf : MethodName := ⟨RX2, "isOf", "(III)Z"⟩
abbrev cX2_behind : ByteArray := prog_4_method_8_code
def yX2_behind : MethodName := ⟨RX2, "behind", "(I)I"⟩
abbrev cX2_shareX : ByteArray := prog_4_method_9_code
def yX2_shareX : MethodName := ⟨RX2, "shareX", "(II)Z"⟩
abbrev cX2_countNearer : ByteArray := prog_4_method_10_code
def yX2_countNearer : MethodName := ⟨RX2, "countNearer", "(I)I"⟩
def RX3 : String := "StackMarks$Outline"
def TX3 : u_T := fun k => match k with
  | 0 => ("StackMarks$Outline", "first", "[I", true)
  | 1 => ("StackMarks$Outline", "last", "[I", true)
  | 2 => ("StackMarks$Outline", "height", "[I", true)
  | 3 => ("StackMarks$Outline", "rowInner", "[I", true)
  | 4 => ("StackMarks$Outline", "blocks", "I", false)
  | _ => ("StackMarks$Outline", "outermost", "I", false)
def tyX3 : Nat → FieldType := fun k => match k with
  | 0 => .array .int
  | 1 => .array .int
  | 2 => .array .int
  | 3 => .array .int
  | 4 => .int
  | _ => .int
abbrev wsX30 : List Cond := u_ws RX3 TX3 6
theorem nmX3 : ∀ a, a < 6 → ∀ b, b < 6 → a ≠ b → (TX3 a).2.1 ≠ (TX3 b).2.1 := by decide +kernel
theorem tyX3_ok : ∀ k, k < 6 → parseFieldDescriptor (TX3 k).2.2.1 = some (tyX3 k) := by decide +kernel
abbrev cX3_init : ByteArray := prog_5_method_1_code
def yX3_init : MethodName := ⟨RX3, "<init>", "()V"⟩
abbrev cX3_clear : ByteArray := prog_5_method_2_code
def yX3_clear : MethodName := ⟨RX3, "clear", "()V"⟩
abbrev cX3_cover : ByteArray := prog_5_method_3_code
def yX3_cover : MethodName := ⟨RX3, "cover", "(III)V"⟩
abbrev cX3_greatest : ByteArray := prog_5_method_4_code
def yX3_greatest : MethodName := ⟨RX3, "greatest", "(II)I"⟩
abbrev cX3_reachOut : ByteArray := prog_5_method_5_code
def yX3_reachOut : MethodName := ⟨RX3, "reachOut", "(I)V"⟩
def RX4 : String := "StackMarks$Slurs"
def TX4 : u_T := fun k => match k with
  | 0 => ("StackMarks$Slurs", "from", "[I", true)
  | 1 => ("StackMarks$Slurs", "to", "[I", true)
  | 2 => ("StackMarks$Slurs", "side", "[I", true)
  | 3 => ("StackMarks$Slurs", "thickness", "[I", true)
  | 4 => ("StackMarks$Slurs", "inner", "[I", true)
  | 5 => ("StackMarks$Slurs", "outer", "[I", true)
  | _ => ("StackMarks$Slurs", "count", "I", false)
def tyX4 : Nat → FieldType := fun k => match k with
  | 0 => .array .int
  | 1 => .array .int
  | 2 => .array .int
  | 3 => .array .int
  | 4 => .array .int
  | 5 => .array .int
  | _ => .int
abbrev wsX40 : List Cond := u_ws RX4 TX4 7
theorem nmX4 : ∀ a, a < 7 → ∀ b, b < 7 → a ≠ b → (TX4 a).2.1 ≠ (TX4 b).2.1 := by decide +kernel
theorem tyX4_ok : ∀ k, k < 7 → parseFieldDescriptor (TX4 k).2.2.1 = some (tyX4 k) := by decide +kernel
abbrev cX4_init : ByteArray := prog_6_method_1_code
def yX4_init : MethodName := ⟨RX4, "<init>", "()V"⟩
abbrev cX4_has : ByteArray := prog_6_method_2_code
def yX4_has : MethodName := ⟨RX4, "has", "(I)Z"⟩
abbrev cX4_add : ByteArray := prog_6_method_3_code
def yX4_add : MethodName := ⟨RX4, "add", "(IIII)I"⟩
def RX5 : String := "StackMarks"
def TX5 : u_T := fun k => match k with
  | 0 => ("StackMarks", "items", "LStackMarks$Items;", true)
  | 1 => ("StackMarks", "kinds", "LStackMarks$Kinds;", true)
  | 2 => ("StackMarks", "marks", "LStackMarks$Marks;", true)
  | 3 => ("StackMarks", "slurs", "LStackMarks$Slurs;", true)
  | 4 => ("StackMarks", "above", "LStackMarks$Outline;", true)
  | 5 => ("StackMarks", "below", "LStackMarks$Outline;", true)
  | 6 => ("StackMarks", "queue", "[I", true)
  | 7 => ("StackMarks", "queued", "I", false)
  | 8 => ("StackMarks", "turns", "I", false)
  | _ => ("StackMarks", "placed", "Z", false)
def tyX5 : Nat → FieldType := fun k => match k with
  | 0 => .object "StackMarks$Items"
  | 1 => .object "StackMarks$Kinds"
  | 2 => .object "StackMarks$Marks"
  | 3 => .object "StackMarks$Slurs"
  | 4 => .object "StackMarks$Outline"
  | 5 => .object "StackMarks$Outline"
  | 6 => .array .int
  | 7 => .int
  | 8 => .int
  | _ => .boolean
abbrev wsX50 : List Cond := u_ws RX5 TX5 10
theorem nmX5 : ∀ a, a < 10 → ∀ b, b < 10 → a ≠ b → (TX5 a).2.1 ≠ (TX5 b).2.1 := by decide +kernel
theorem tyX5_ok : ∀ k, k < 10 → parseFieldDescriptor (TX5 k).2.2.1 = some (tyX5 k) := by decide +kernel
abbrev cX5_init : ByteArray := prog_1_method_1_code
def yX5_init : MethodName := ⟨RX5, "<init>", "()V"⟩
abbrev cX5_note : ByteArray := prog_1_method_2_code
def yX5_note : MethodName := ⟨RX5, "note", "(IIIII)I"⟩
abbrev cX5_rest : ByteArray := prog_1_method_3_code
def yX5_rest : MethodName := ⟨RX5, "rest", "(III)I"⟩
abbrev cX5_lift : ByteArray := prog_1_method_4_code
def yX5_lift : MethodName := ⟨RX5, "lift", "(II)I"⟩
abbrev cX5_set : ByteArray := prog_1_method_5_code
def yX5_set : MethodName := ⟨RX5, "set", "(III)I"⟩
abbrev cX5_mark : ByteArray := prog_1_method_6_code
def yX5_mark : MethodName := ⟨RX5, "mark", "(IIII)I"⟩
abbrev cX5_drop : ByteArray := prog_1_method_7_code
def yX5_drop : MethodName := ⟨RX5, "drop", "(I)I"⟩
abbrev cX5_slur : ByteArray := prog_1_method_8_code
def yX5_slur : MethodName := ⟨RX5, "slur", "(IIII)I"⟩
abbrev cX5_place : ByteArray := prog_1_method_9_code
def yX5_place : MethodName := ⟨RX5, "place", "()I"⟩
abbrev cX5_at : ByteArray := prog_1_method_10_code
def yX5_at : MethodName := ⟨RX5, "at", "(II)I"⟩
abbrev cX5_slurAt : ByteArray := prog_1_method_11_code
def yX5_slurAt : MethodName := ⟨RX5, "slurAt", "(II)I"⟩
abbrev cX5_skyline : ByteArray := prog_1_method_12_code
def yX5_skyline : MethodName := ⟨RX5, "skyline", "(II)I"⟩
abbrev cX5_row : ByteArray := prog_1_method_13_code
def yX5_row : MethodName := ⟨RX5, "row", "(II)I"⟩
abbrev cX5_order : ByteArray := prog_1_method_14_code
def yX5_order : MethodName := ⟨RX5, "order", "(III)I"⟩
abbrev cX5_meets : ByteArray := prog_1_method_15_code
def yX5_meets : MethodName := ⟨RX5, "meets", "(II)I"⟩
abbrev cX5_wide : ByteArray := prog_1_method_16_code
def yX5_wide : MethodName := ⟨RX5, "wide", "(I)I"⟩
abbrev cX5_push : ByteArray := prog_1_method_17_code
def yX5_push : MethodName := ⟨RX5, "push", "(I)I"⟩
abbrev cX5_item : ByteArray := prog_1_method_18_code
def yX5_item : MethodName := ⟨RX5, "item", "(II)I"⟩
abbrev cX5_count : ByteArray := prog_1_method_19_code
def yX5_count : MethodName := ⟨RX5, "count", "(I)I"⟩
abbrev cX5_isWithin : ByteArray := prog_1_method_20_code
def yX5_isWithin : MethodName := ⟨RX5, "isWithin", "(III)Z"⟩
abbrev cX5_isHead : ByteArray := prog_1_method_21_code
def yX5_isHead : MethodName := ⟨RX5, "isHead", "(I)Z"⟩
abbrev cX5_isSide : ByteArray := prog_1_method_22_code
def yX5_isSide : MethodName := ⟨RX5, "isSide", "(I)Z"⟩
abbrev cX5_demandPlaces : ByteArray := prog_1_method_23_code
def yX5_demandPlaces : MethodName := ⟨RX5, "demandPlaces", "()V"⟩
abbrev cX5_addItem : ByteArray := prog_1_method_24_code
def yX5_addItem : MethodName := ⟨RX5, "addItem", "(IIIIII)I"⟩
abbrev cX5_outline : ByteArray := prog_1_method_25_code
def yX5_outline : MethodName := ⟨RX5, "outline", "(I)LStackMarks$Outline;"⟩
abbrev cX5_outermost : ByteArray := prog_1_method_26_code
def yX5_outermost : MethodName := ⟨RX5, "outermost", "(I)I"⟩
abbrev cX5_lackOf : ByteArray := prog_1_method_27_code
def yX5_lackOf : MethodName := ⟨RX5, "lackOf", "(I)I"⟩
abbrev cX5_coverItems : ByteArray := prog_1_method_28_code
def yX5_coverItems : MethodName := ⟨RX5, "coverItems", "()V"⟩
abbrev cX5_coverHeads : ByteArray := prog_1_method_29_code
def yX5_coverHeads : MethodName := ⟨RX5, "coverHeads", "(III)V"⟩
abbrev cX5_coverStem : ByteArray := prog_1_method_30_code
def yX5_coverStem : MethodName := ⟨RX5, "coverStem", "(I)V"⟩
abbrev cX5_laySlurs : ByteArray := prog_1_method_31_code
def yX5_laySlurs : MethodName := ⟨RX5, "laySlurs", "()V"⟩
abbrev cX5_queueMarks : ByteArray := prog_1_method_32_code
def yX5_queueMarks : MethodName := ⟨RX5, "queueMarks", "()V"⟩
abbrev cX5_queueMark : ByteArray := prog_1_method_33_code
def yX5_queueMark : MethodName := ⟨RX5, "queueMark", "(I)V"⟩
abbrev cX5_rank : ByteArray := prog_1_method_34_code
def yX5_rank : MethodName := ⟨RX5, "rank", "(I)I"⟩
abbrev cX5_leftEdge : ByteArray := prog_1_method_35_code
def yX5_leftEdge : MethodName := ⟨RX5, "leftEdge", "(I)I"⟩
abbrev cX5_chooseSide : ByteArray := prog_1_method_36_code
def yX5_chooseSide : MethodName := ⟨RX5, "chooseSide", "(IZ)I"⟩
abbrev cX5_layMarks : ByteArray := prog_1_method_37_code
def yX5_layMarks : MethodName := ⟨RX5, "layMarks", "()I"⟩
abbrev cX5_innerAlone : ByteArray := prog_1_method_38_code
def yX5_innerAlone : MethodName := ⟨RX5, "innerAlone", "(I)I"⟩
abbrev cX5_layAt : ByteArray := prog_1_method_39_code
def yX5_layAt : MethodName := ⟨RX5, "layAt", "(II)V"⟩
abbrev cX5_layRow : ByteArray := prog_1_method_40_code
def yX5_layRow : MethodName := ⟨RX5, "layRow", "(II)I"⟩
abbrev cX5_fillRow : ByteArray := prog_1_method_41_code
def yX5_fillRow : MethodName := ⟨RX5, "fillRow", "(II)I"⟩
abbrev cX5_isFreeInRow : ByteArray := prog_1_method_42_code
def yX5_isFreeInRow : MethodName := ⟨RX5, "isFreeInRow", "(I)Z"⟩
abbrev cX5_layRowMarks : ByteArray := prog_1_method_43_code
def yX5_layRowMarks : MethodName := ⟨RX5, "layRowMarks", "(III)V"⟩
abbrev cX5_layLate : ByteArray := prog_1_method_44_code
def yX5_layLate : MethodName := ⟨RX5, "layLate", "(II)I"⟩
def RX6 : String := "StackMarksModel"
def TX6 : u_T := fun k => match k with
  | 0 => ("StackMarksModel", "code", "I", false)
  | 1 => ("StackMarksModel", "items", "I", false)
  | 2 => ("StackMarksModel", "xs", "[I", true)
  | 3 => ("StackMarksModel", "lows", "[I", true)
  | 4 => ("StackMarksModel", "highs", "[I", true)
  | 5 => ("StackMarksModel", "voices", "[I", true)
  | 6 => ("StackMarksModel", "stems", "[I", true)
  | 7 => ("StackMarksModel", "rests", "[Z", true)
  | 8 => ("StackMarksModel", "kinds", "[I", true)
  | 9 => ("StackMarksModel", "marks", "I", false)
  | 10 => ("StackMarksModel", "ofItem", "[I", true)
  | 11 => ("StackMarksModel", "ofKind", "[I", true)
  | 12 => ("StackMarksModel", "wides", "[I", true)
  | 13 => ("StackMarksModel", "tall", "[I", true)
  | 14 => ("StackMarksModel", "gone", "[Z", true)
  | 15 => ("StackMarksModel", "laid", "[Z", true)
  | 16 => ("StackMarksModel", "inners", "[I", true)
  | 17 => ("StackMarksModel", "inRow", "[Z", true)
  | 18 => ("StackMarksModel", "turns", "[I", true)
  | 19 => ("StackMarksModel", "turn", "I", false)
  | 20 => ("StackMarksModel", "slurs", "I", false)
  | 21 => ("StackMarksModel", "begins", "[I", true)
  | 22 => ("StackMarksModel", "ends", "[I", true)
  | 23 => ("StackMarksModel", "slurSides", "[I", true)
  | 24 => ("StackMarksModel", "thick", "[I", true)
  | 25 => ("StackMarksModel", "slurInner", "[I", true)
  | 26 => ("StackMarksModel", "slursLaid", "I", false)
  | 27 => ("StackMarksModel", "hasRow", "[Z", true)
  | 28 => ("StackMarksModel", "rowInner", "[I", true)
  | 29 => ("StackMarksModel", "isPlaced", "Z", false)
  | _ => ("StackMarksModel", "list", "[I", true)
def tyX6 : Nat → FieldType := fun k => match k with
  | 0 => .int
  | 1 => .int
  | 2 => .array .int
  | 3 => .array .int
  | 4 => .array .int
  | 5 => .array .int
  | 6 => .array .int
  | 7 => .array .boolean
  | 8 => .array .int
  | 9 => .int
  | 10 => .array .int
  | 11 => .array .int
  | 12 => .array .int
  | 13 => .array .int
  | 14 => .array .boolean
  | 15 => .array .boolean
  | 16 => .array .int
  | 17 => .array .boolean
  | 18 => .array .int
  | 19 => .int
  | 20 => .int
  | 21 => .array .int
  | 22 => .array .int
  | 23 => .array .int
  | 24 => .array .int
  | 25 => .array .int
  | 26 => .int
  | 27 => .array .boolean
  | 28 => .array .int
  | 29 => .boolean
  | _ => .array .int
abbrev wsX60 : List Cond := u_ws RX6 TX6 31
theorem nmX6 : ∀ a, a < 31 → ∀ b, b < 31 → a ≠ b → (TX6 a).2.1 ≠ (TX6 b).2.1 := by decide +kernel
theorem tyX6_ok : ∀ k, k < 31 → parseFieldDescriptor (TX6 k).2.2.1 = some (tyX6 k) := by decide +kernel
abbrev cX6_init : ByteArray := prog_8_method_1_code
def yX6_init : MethodName := ⟨RX6, "<init>", "()V"⟩
abbrev cX6_thrown : ByteArray := prog_8_method_2_code
def yX6_thrown : MethodName := ⟨RX6, "thrown", "()I"⟩
abbrev cX6_in : ByteArray := prog_8_method_3_code
def yX6_in : MethodName := ⟨RX6, "in", "(III)Z"⟩
abbrev cX6_isSide : ByteArray := prog_8_method_4_code
def yX6_isSide : MethodName := ⟨RX6, "isSide", "(I)Z"⟩
abbrev cX6_isItem : ByteArray := prog_8_method_5_code
def yX6_isItem : MethodName := ⟨RX6, "isItem", "(I)Z"⟩
abbrev cX6_isMark : ByteArray := prog_8_method_6_code
def yX6_isMark : MethodName := ⟨RX6, "isMark", "(I)Z"⟩
abbrev cX6_isTaken : ByteArray := prog_8_method_7_code
def yX6_isTaken : MethodName := ⟨RX6, "isTaken", "(I)Z"⟩
abbrev cX6_come : ByteArray := prog_8_method_8_code
def yX6_come : MethodName := ⟨RX6, "come", "(IIIIIZ)I"⟩
abbrev cX6_note : ByteArray := prog_8_method_9_code
def yX6_note : MethodName := ⟨RX6, "note", "(IIIII)I"⟩
abbrev cX6_rest : ByteArray := prog_8_method_10_code
def yX6_rest : MethodName := ⟨RX6, "rest", "(III)I"⟩
abbrev cX6_lift : ByteArray := prog_8_method_11_code
def yX6_lift : MethodName := ⟨RX6, "lift", "(II)I"⟩
abbrev cX6_most : ByteArray := prog_8_method_12_code
def yX6_most : MethodName := ⟨RX6, "most", "(I)I"⟩
abbrev cX6_set : ByteArray := prog_8_method_13_code
def yX6_set : MethodName := ⟨RX6, "set", "(III)I"⟩
abbrev cX6_mark : ByteArray := prog_8_method_14_code
def yX6_mark : MethodName := ⟨RX6, "mark", "(IIII)I"⟩
abbrev cX6_drop : ByteArray := prog_8_method_15_code
def yX6_drop : MethodName := ⟨RX6, "drop", "(I)I"⟩
abbrev cX6_slur : ByteArray := prog_8_method_16_code
def yX6_slur : MethodName := ⟨RX6, "slur", "(IIII)I"⟩
abbrev cX6_areBoth : ByteArray := prog_8_method_17_code
def yX6_areBoth : MethodName := ⟨RX6, "areBoth", "()Z"⟩
abbrev cX6_sideOf : ByteArray := prog_8_method_18_code
def yX6_sideOf : MethodName := ⟨RX6, "sideOf", "(I)I"⟩
abbrev cX6_left : ByteArray := prog_8_method_19_code
def yX6_left : MethodName := ⟨RX6, "left", "(I)I"⟩
abbrev cX6_above : ByteArray := prog_8_method_20_code
def yX6_above : MethodName := ⟨RX6, "above", "(IIIIII)I"⟩
abbrev cX6_greatest : ByteArray := prog_8_method_21_code
def yX6_greatest : MethodName := ⟨RX6, "greatest", "(III)I"⟩
abbrev cX6_own : ByteArray := prog_8_method_22_code
def yX6_own : MethodName := ⟨RX6, "own", "(I)I"⟩
abbrev cX6_lie : ByteArray := prog_8_method_23_code
def yX6_lie : MethodName := ⟨RX6, "lie", "(IIZ)V"⟩
abbrev cX6_isAhead : ByteArray := prog_8_method_24_code
def yX6_isAhead : MethodName := ⟨RX6, "isAhead", "(II)Z"⟩
abbrev cX6_cover : ByteArray := prog_8_method_25_code
def yX6_cover : MethodName := ⟨RX6, "cover", "(II)Z"⟩
abbrev cX6_gather : ByteArray := prog_8_method_26_code
def yX6_gather : MethodName := ⟨RX6, "gather", "(II)I"⟩
abbrev cX6_lieRow : ByteArray := prog_8_method_27_code
def yX6_lieRow : MethodName := ⟨RX6, "lieRow", "(II)I"⟩
abbrev cX6_place : ByteArray := prog_8_method_28_code
def yX6_place : MethodName := ⟨RX6, "place", "()I"⟩
abbrev cX6_throwsNow : ByteArray := prog_8_method_29_code
def yX6_throwsNow : MethodName := ⟨RX6, "throwsNow", "()Z"⟩
abbrev cX6_at : ByteArray := prog_8_method_30_code
def yX6_at : MethodName := ⟨RX6, "at", "(II)I"⟩
abbrev cX6_slurAt : ByteArray := prog_8_method_31_code
def yX6_slurAt : MethodName := ⟨RX6, "slurAt", "(II)I"⟩
abbrev cX6_skyline : ByteArray := prog_8_method_32_code
def yX6_skyline : MethodName := ⟨RX6, "skyline", "(II)I"⟩
abbrev cX6_row : ByteArray := prog_8_method_33_code
def yX6_row : MethodName := ⟨RX6, "row", "(II)I"⟩
abbrev cX6_order : ByteArray := prog_8_method_34_code
def yX6_order : MethodName := ⟨RX6, "order", "(III)I"⟩
abbrev cX6_meets : ByteArray := prog_8_method_35_code
def yX6_meets : MethodName := ⟨RX6, "meets", "(II)I"⟩
abbrev cX6_nextOf : ByteArray := prog_8_method_36_code
def yX6_nextOf : MethodName := ⟨RX6, "nextOf", "(I)I"⟩
abbrev cX6_lacks : ByteArray := prog_8_method_37_code
def yX6_lacks : MethodName := ⟨RX6, "lacks", "(I)I"⟩
abbrev cX6_wide : ByteArray := prog_8_method_38_code
def yX6_wide : MethodName := ⟨RX6, "wide", "(I)I"⟩
abbrev cX6_push : ByteArray := prog_8_method_39_code
def yX6_push : MethodName := ⟨RX6, "push", "(I)I"⟩
abbrev cX6_marksOf : ByteArray := prog_8_method_40_code
def yX6_marksOf : MethodName := ⟨RX6, "marksOf", "(I)I"⟩
abbrev cX6_item : ByteArray := prog_8_method_41_code
def yX6_item : MethodName := ⟨RX6, "item", "(II)I"⟩
abbrev cX6_outermost : ByteArray := prog_8_method_42_code
def yX6_outermost : MethodName := ⟨RX6, "outermost", "(I)I"⟩
abbrev cX6_count : ByteArray := prog_8_method_43_code
def yX6_count : MethodName := ⟨RX6, "count", "(I)I"⟩
def RJ9 : String := "java/lang/Math"
def TJ9 : u_T := fun k => match k with
  | _ => ("", "", "", false)
def tyJ9 : Nat → FieldType := fun k => match k with
  | _ => .int
abbrev wsJ90 : List Cond := u_ws RJ9 TJ9 0
theorem nmJ9 : ∀ a, a < 0 → ∀ b, b < 0 → a ≠ b → (TJ9 a).2.1 ≠ (TJ9 b).2.1 := by decide +kernel
theorem tyJ9_ok : ∀ k, k < 0 → parseFieldDescriptor (TJ9 k).2.2.1 = some (tyJ9 k) := by decide +kernel
abbrev cJ9_max_7cf53 : ByteArray := prog_11_method_65_code
def yJ9_max_7cf53 : MethodName := ⟨RJ9, "max", "(II)I"⟩
def RJ0 : String := "java/lang/String"
def TJ0 : u_T := fun k => match k with
  | _ => ("", "", "", false)
def tyJ0 : Nat → FieldType := fun k => match k with
  | _ => .int
abbrev wsJ00 : List Cond := u_ws RJ0 TJ0 0
theorem nmJ0 : ∀ a, a < 0 → ∀ b, b < 0 → a ≠ b → (TJ0 a).2.1 ≠ (TJ0 b).2.1 := by decide +kernel
theorem tyJ0_ok : ∀ k, k < 0 → parseFieldDescriptor (TJ0 k).2.2.1 = some (tyJ0 k) := by decide +kernel
def RL : String := "StackMarksLaw"
abbrev cL_at : ByteArray := method_3_code
def yL_at : MethodName := ⟨RL, "at", "(LStackMarks;II[J)I"⟩
abbrev cL_slurAt : ByteArray := method_4_code
def yL_slurAt : MethodName := ⟨RL, "slurAt", "(LStackMarks;II[J)I"⟩
abbrev cL_skyline : ByteArray := method_5_code
def yL_skyline : MethodName := ⟨RL, "skyline", "(LStackMarks;II[J)I"⟩
abbrev cL_row : ByteArray := method_6_code
def yL_row : MethodName := ⟨RL, "row", "(LStackMarks;II[J)I"⟩
abbrev cL_order : ByteArray := method_7_code
def yL_order : MethodName := ⟨RL, "order", "(LStackMarks;III[J)I"⟩
abbrev cL_meets : ByteArray := method_8_code
def yL_meets : MethodName := ⟨RL, "meets", "(LStackMarks;II[J)I"⟩
abbrev cL_count : ByteArray := method_9_code
def yL_count : MethodName := ⟨RL, "count", "(LStackMarks;I[J)I"⟩
abbrev cL_law : ByteArray := code
def yL_law : MethodName := ⟨RL, "law", "([I)Z"⟩
abbrev vwCl : List vw_C := [(RX0, TX0, 7), (RX1, TX1, 1), (RX2, TX2, 12), (RX3, TX3, 6), (RX4, TX4, 7), (RX5, TX5, 10), (RX6, TX6, 31)]
