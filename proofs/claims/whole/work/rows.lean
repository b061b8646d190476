section
def vx_no (w : Cond) : Bool := decide (w ≠ .isRef (.static Bundle.tN "UNASSIGNED_STACK" Bundle.steD)) && decide (w ≠ .isRef (.static Bundle.tN "SUPPRESSED_SENTINEL" Bundle.listD)) && decide (w ≠ .laysStatic Bundle.tN "UNASSIGNED_STACK" Bundle.steD) && decide (w ≠ .laysStatic Bundle.tN "SUPPRESSED_SENTINEL" Bundle.listD)
def vx_at0 (own : String) (ic : Nat) (X : String) (names : List String) : List Cond := (Bundle.ownAtoms0 own ic X names).filter vx_no
def vx_atS (own : String) (ic : Nat) (X : String) (names : List String) : List Cond := (Bundle.ownAtoms own ic X names).filter vx_no
def vx_ot (w : Cond) : Bool := w.onTables || goodWord w
end
section
-- ===== PART A: goes FIRST, ahead of the names: the tables' words, and 'selects' of the private methods out of them =====
/-- a private method of a class that the tables say can be made, by its rows of tables_1 -/
def lw_okq (q : MethodName × Nat) : Prop := (q.1.cls ≠ "java/lang/invoke/MethodHandle" ∧ q.1.cls ≠ "java/lang/invoke/VarHandle") ∧ Cond.instantiable q.1.cls q.2 ∈ tables_1 ∧ Cond.privateMethod q.1 ∈ tables_1 ∧ Cond.instanceMethod q.1 ∈ tables_1
theorem lw_p0 : lw_okq (⟨"StackMarks", "addItem", "(IIIIII)I"⟩, 10) := ⟨⟨by decide +kernel, by decide +kernel⟩, List.mem_of_getElem? (i := 14) (by decide +kernel), List.mem_of_getElem? (i := 230) (by decide +kernel), List.mem_of_getElem? (i := 231) (by decide +kernel)⟩
theorem lw_p1 : lw_okq (⟨"StackMarks$Items", "isAt", "(I)Z"⟩, 7) := ⟨⟨by decide +kernel, by decide +kernel⟩, List.mem_of_getElem? (i := 22) (by decide +kernel), List.mem_of_getElem? (i := 235) (by decide +kernel), List.mem_of_getElem? (i := 236) (by decide +kernel)⟩
theorem lw_p2 : lw_okq (⟨"StackMarks$Items", "add", "(IIIIII)I"⟩, 7) := ⟨⟨by decide +kernel, by decide +kernel⟩, List.mem_of_getElem? (i := 22) (by decide +kernel), List.mem_of_getElem? (i := 240) (by decide +kernel), List.mem_of_getElem? (i := 241) (by decide +kernel)⟩
theorem lw_p3 : lw_okq (⟨"StackMarks$Items", "has", "(I)Z"⟩, 7) := ⟨⟨by decide +kernel, by decide +kernel⟩, List.mem_of_getElem? (i := 22) (by decide +kernel), List.mem_of_getElem? (i := 252) (by decide +kernel), List.mem_of_getElem? (i := 253) (by decide +kernel)⟩
theorem lw_p4 : lw_okq (⟨"StackMarks$Kinds", "has", "(I)Z"⟩, 1) := ⟨⟨by decide +kernel, by decide +kernel⟩, List.mem_of_getElem? (i := 58) (by decide +kernel), List.mem_of_getElem? (i := 260) (by decide +kernel), List.mem_of_getElem? (i := 261) (by decide +kernel)⟩
theorem lw_p5 : lw_okq (⟨"StackMarks$Kinds", "takes", "(II)Z"⟩, 1) := ⟨⟨by decide +kernel, by decide +kernel⟩, List.mem_of_getElem? (i := 58) (by decide +kernel), List.mem_of_getElem? (i := 264) (by decide +kernel), List.mem_of_getElem? (i := 265) (by decide +kernel)⟩
theorem lw_p6 : lw_okq (⟨"StackMarks$Kinds", "change", "(III)I"⟩, 1) := ⟨⟨by decide +kernel, by decide +kernel⟩, List.mem_of_getElem? (i := 58) (by decide +kernel), List.mem_of_getElem? (i := 270) (by decide +kernel), List.mem_of_getElem? (i := 271) (by decide +kernel)⟩
theorem lw_p7 : lw_okq (⟨"StackMarks$Kinds", "get", "(II)I"⟩, 1) := ⟨⟨by decide +kernel, by decide +kernel⟩, List.mem_of_getElem? (i := 58) (by decide +kernel), List.mem_of_getElem? (i := 274) (by decide +kernel), List.mem_of_getElem? (i := 275) (by decide +kernel)⟩
theorem lw_p8 : lw_okq (⟨"StackMarks$Marks", "add", "(IIII)I"⟩, 12) := ⟨⟨by decide +kernel, by decide +kernel⟩, List.mem_of_getElem? (i := 70) (by decide +kernel), List.mem_of_getElem? (i := 282) (by decide +kernel), List.mem_of_getElem? (i := 283) (by decide +kernel)⟩
theorem lw_p9 : lw_okq (⟨"StackMarks$Marks", "has", "(I)Z"⟩, 12) := ⟨⟨by decide +kernel, by decide +kernel⟩, List.mem_of_getElem? (i := 70) (by decide +kernel), List.mem_of_getElem? (i := 290) (by decide +kernel), List.mem_of_getElem? (i := 291) (by decide +kernel)⟩
theorem lw_p10 : lw_okq (⟨"StackMarks$Slurs", "add", "(IIII)I"⟩, 7) := ⟨⟨by decide +kernel, by decide +kernel⟩, List.mem_of_getElem? (i := 126) (by decide +kernel), List.mem_of_getElem? (i := 301) (by decide +kernel), List.mem_of_getElem? (i := 302) (by decide +kernel)⟩
theorem lw_p11 : lw_okq (⟨"StackMarks$Outline", "clear", "()V"⟩, 6) := ⟨⟨by decide +kernel, by decide +kernel⟩, List.mem_of_getElem? (i := 161) (by decide +kernel), List.mem_of_getElem? (i := 309) (by decide +kernel), List.mem_of_getElem? (i := 310) (by decide +kernel)⟩
theorem lw_p12 : lw_okq (⟨"StackMarks", "coverItems", "()V"⟩, 10) := ⟨⟨by decide +kernel, by decide +kernel⟩, List.mem_of_getElem? (i := 14) (by decide +kernel), List.mem_of_getElem? (i := 314) (by decide +kernel), List.mem_of_getElem? (i := 315) (by decide +kernel)⟩
theorem lw_p13 : lw_okq (⟨"StackMarks", "coverHeads", "(III)V"⟩, 10) := ⟨⟨by decide +kernel, by decide +kernel⟩, List.mem_of_getElem? (i := 14) (by decide +kernel), List.mem_of_getElem? (i := 318) (by decide +kernel), List.mem_of_getElem? (i := 319) (by decide +kernel)⟩
theorem lw_p14 : lw_okq (⟨"StackMarks$Outline", "cover", "(III)V"⟩, 6) := ⟨⟨by decide +kernel, by decide +kernel⟩, List.mem_of_getElem? (i := 161) (by decide +kernel), List.mem_of_getElem? (i := 322) (by decide +kernel), List.mem_of_getElem? (i := 323) (by decide +kernel)⟩
theorem lw_p15 : lw_okq (⟨"StackMarks", "coverStem", "(I)V"⟩, 10) := ⟨⟨by decide +kernel, by decide +kernel⟩, List.mem_of_getElem? (i := 14) (by decide +kernel), List.mem_of_getElem? (i := 326) (by decide +kernel), List.mem_of_getElem? (i := 327) (by decide +kernel)⟩
def lw_privs_1 : List (MethodName × Nat) := [(⟨"StackMarks", "addItem", "(IIIIII)I"⟩, 10), (⟨"StackMarks$Items", "isAt", "(I)Z"⟩, 7), (⟨"StackMarks$Items", "add", "(IIIIII)I"⟩, 7), (⟨"StackMarks$Items", "has", "(I)Z"⟩, 7), (⟨"StackMarks$Kinds", "has", "(I)Z"⟩, 1), (⟨"StackMarks$Kinds", "takes", "(II)Z"⟩, 1), (⟨"StackMarks$Kinds", "change", "(III)I"⟩, 1), (⟨"StackMarks$Kinds", "get", "(II)I"⟩, 1), (⟨"StackMarks$Marks", "add", "(IIII)I"⟩, 12), (⟨"StackMarks$Marks", "has", "(I)Z"⟩, 12), (⟨"StackMarks$Slurs", "add", "(IIII)I"⟩, 7), (⟨"StackMarks$Outline", "clear", "()V"⟩, 6), (⟨"StackMarks", "coverItems", "()V"⟩, 10), (⟨"StackMarks", "coverHeads", "(III)V"⟩, 10), (⟨"StackMarks$Outline", "cover", "(III)V"⟩, 6), (⟨"StackMarks", "coverStem", "(I)V"⟩, 10)]
theorem lw_r1 : ∀ q ∈ lw_privs_1, lw_okq q := List.forall_mem_cons.mpr ⟨lw_p0, List.forall_mem_cons.mpr ⟨lw_p1, List.forall_mem_cons.mpr ⟨lw_p2, List.forall_mem_cons.mpr ⟨lw_p3, List.forall_mem_cons.mpr ⟨lw_p4, List.forall_mem_cons.mpr ⟨lw_p5, List.forall_mem_cons.mpr ⟨lw_p6, List.forall_mem_cons.mpr ⟨lw_p7, List.forall_mem_cons.mpr ⟨lw_p8, List.forall_mem_cons.mpr ⟨lw_p9, List.forall_mem_cons.mpr ⟨lw_p10, List.forall_mem_cons.mpr ⟨lw_p11, List.forall_mem_cons.mpr ⟨lw_p12, List.forall_mem_cons.mpr ⟨lw_p13, List.forall_mem_cons.mpr ⟨lw_p14, List.forall_mem_cons.mpr ⟨lw_p15, fun _ h => absurd h List.not_mem_nil⟩⟩⟩⟩⟩⟩⟩⟩⟩⟩⟩⟩⟩⟩⟩⟩
theorem lw_p16 : lw_okq (⟨"StackMarks", "laySlurs", "()V"⟩, 10) := ⟨⟨by decide +kernel, by decide +kernel⟩, List.mem_of_getElem? (i := 14) (by decide +kernel), List.mem_of_getElem? (i := 330) (by decide +kernel), List.mem_of_getElem? (i := 331) (by decide +kernel)⟩
theorem lw_p17 : lw_okq (⟨"StackMarks", "outline", "(I)LStackMarks$Outline;"⟩, 10) := ⟨⟨by decide +kernel, by decide +kernel⟩, List.mem_of_getElem? (i := 14) (by decide +kernel), List.mem_of_getElem? (i := 334) (by decide +kernel), List.mem_of_getElem? (i := 335) (by decide +kernel)⟩
theorem lw_p18 : lw_okq (⟨"StackMarks$Outline", "greatest", "(II)I"⟩, 6) := ⟨⟨by decide +kernel, by decide +kernel⟩, List.mem_of_getElem? (i := 161) (by decide +kernel), List.mem_of_getElem? (i := 338) (by decide +kernel), List.mem_of_getElem? (i := 339) (by decide +kernel)⟩
theorem lw_p19 : lw_okq (⟨"StackMarks$Outline", "reachOut", "(I)V"⟩, 6) := ⟨⟨by decide +kernel, by decide +kernel⟩, List.mem_of_getElem? (i := 161) (by decide +kernel), List.mem_of_getElem? (i := 345) (by decide +kernel), List.mem_of_getElem? (i := 346) (by decide +kernel)⟩
theorem lw_p20 : lw_okq (⟨"StackMarks", "queueMarks", "()V"⟩, 10) := ⟨⟨by decide +kernel, by decide +kernel⟩, List.mem_of_getElem? (i := 14) (by decide +kernel), List.mem_of_getElem? (i := 349) (by decide +kernel), List.mem_of_getElem? (i := 350) (by decide +kernel)⟩
theorem lw_p21 : lw_okq (⟨"StackMarks$Items", "haveBothVoices", "()Z"⟩, 7) := ⟨⟨by decide +kernel, by decide +kernel⟩, List.mem_of_getElem? (i := 22) (by decide +kernel), List.mem_of_getElem? (i := 353) (by decide +kernel), List.mem_of_getElem? (i := 354) (by decide +kernel)⟩
theorem lw_p22 : lw_okq (⟨"StackMarks", "leftEdge", "(I)I"⟩, 10) := ⟨⟨by decide +kernel, by decide +kernel⟩, List.mem_of_getElem? (i := 14) (by decide +kernel), List.mem_of_getElem? (i := 357) (by decide +kernel), List.mem_of_getElem? (i := 358) (by decide +kernel)⟩
theorem lw_p23 : lw_okq (⟨"StackMarks$Kinds", "liesFromX", "(I)Z"⟩, 1) := ⟨⟨by decide +kernel, by decide +kernel⟩, List.mem_of_getElem? (i := 58) (by decide +kernel), List.mem_of_getElem? (i := 361) (by decide +kernel), List.mem_of_getElem? (i := 362) (by decide +kernel)⟩
theorem lw_p24 : lw_okq (⟨"StackMarks", "chooseSide", "(IZ)I"⟩, 10) := ⟨⟨by decide +kernel, by decide +kernel⟩, List.mem_of_getElem? (i := 14) (by decide +kernel), List.mem_of_getElem? (i := 365) (by decide +kernel), List.mem_of_getElem? (i := 366) (by decide +kernel)⟩
theorem lw_p25 : lw_okq (⟨"StackMarks", "queueMark", "(I)V"⟩, 10) := ⟨⟨by decide +kernel, by decide +kernel⟩, List.mem_of_getElem? (i := 14) (by decide +kernel), List.mem_of_getElem? (i := 370) (by decide +kernel), List.mem_of_getElem? (i := 371) (by decide +kernel)⟩
theorem lw_p26 : lw_okq (⟨"StackMarks", "rank", "(I)I"⟩, 10) := ⟨⟨by decide +kernel, by decide +kernel⟩, List.mem_of_getElem? (i := 14) (by decide +kernel), List.mem_of_getElem? (i := 374) (by decide +kernel), List.mem_of_getElem? (i := 375) (by decide +kernel)⟩
theorem lw_p27 : lw_okq (⟨"StackMarks$Kinds", "rank", "(I)I"⟩, 1) := ⟨⟨by decide +kernel, by decide +kernel⟩, List.mem_of_getElem? (i := 58) (by decide +kernel), List.mem_of_getElem? (i := 378) (by decide +kernel), List.mem_of_getElem? (i := 379) (by decide +kernel)⟩
theorem lw_p28 : lw_okq (⟨"StackMarks", "layMarks", "()I"⟩, 10) := ⟨⟨by decide +kernel, by decide +kernel⟩, List.mem_of_getElem? (i := 14) (by decide +kernel), List.mem_of_getElem? (i := 383) (by decide +kernel), List.mem_of_getElem? (i := 384) (by decide +kernel)⟩
theorem lw_p29 : lw_okq (⟨"StackMarks$Kinds", "isInRow", "(I)Z"⟩, 1) := ⟨⟨by decide +kernel, by decide +kernel⟩, List.mem_of_getElem? (i := 58) (by decide +kernel), List.mem_of_getElem? (i := 387) (by decide +kernel), List.mem_of_getElem? (i := 388) (by decide +kernel)⟩
theorem lw_p30 : lw_okq (⟨"StackMarks", "innerAlone", "(I)I"⟩, 10) := ⟨⟨by decide +kernel, by decide +kernel⟩, List.mem_of_getElem? (i := 14) (by decide +kernel), List.mem_of_getElem? (i := 391) (by decide +kernel), List.mem_of_getElem? (i := 392) (by decide +kernel)⟩
theorem lw_p31 : lw_okq (⟨"StackMarks$Marks", "behind", "(I)I"⟩, 12) := ⟨⟨by decide +kernel, by decide +kernel⟩, List.mem_of_getElem? (i := 70) (by decide +kernel), List.mem_of_getElem? (i := 395) (by decide +kernel), List.mem_of_getElem? (i := 396) (by decide +kernel)⟩
def lw_privs_2 : List (MethodName × Nat) := [(⟨"StackMarks", "laySlurs", "()V"⟩, 10), (⟨"StackMarks", "outline", "(I)LStackMarks$Outline;"⟩, 10), (⟨"StackMarks$Outline", "greatest", "(II)I"⟩, 6), (⟨"StackMarks$Outline", "reachOut", "(I)V"⟩, 6), (⟨"StackMarks", "queueMarks", "()V"⟩, 10), (⟨"StackMarks$Items", "haveBothVoices", "()Z"⟩, 7), (⟨"StackMarks", "leftEdge", "(I)I"⟩, 10), (⟨"StackMarks$Kinds", "liesFromX", "(I)Z"⟩, 1), (⟨"StackMarks", "chooseSide", "(IZ)I"⟩, 10), (⟨"StackMarks", "queueMark", "(I)V"⟩, 10), (⟨"StackMarks", "rank", "(I)I"⟩, 10), (⟨"StackMarks$Kinds", "rank", "(I)I"⟩, 1), (⟨"StackMarks", "layMarks", "()I"⟩, 10), (⟨"StackMarks$Kinds", "isInRow", "(I)Z"⟩, 1), (⟨"StackMarks", "innerAlone", "(I)I"⟩, 10), (⟨"StackMarks$Marks", "behind", "(I)I"⟩, 12)]
theorem lw_r2 : ∀ q ∈ lw_privs_2, lw_okq q := List.forall_mem_cons.mpr ⟨lw_p16, List.forall_mem_cons.mpr ⟨lw_p17, List.forall_mem_cons.mpr ⟨lw_p18, List.forall_mem_cons.mpr ⟨lw_p19, List.forall_mem_cons.mpr ⟨lw_p20, List.forall_mem_cons.mpr ⟨lw_p21, List.forall_mem_cons.mpr ⟨lw_p22, List.forall_mem_cons.mpr ⟨lw_p23, List.forall_mem_cons.mpr ⟨lw_p24, List.forall_mem_cons.mpr ⟨lw_p25, List.forall_mem_cons.mpr ⟨lw_p26, List.forall_mem_cons.mpr ⟨lw_p27, List.forall_mem_cons.mpr ⟨lw_p28, List.forall_mem_cons.mpr ⟨lw_p29, List.forall_mem_cons.mpr ⟨lw_p30, List.forall_mem_cons.mpr ⟨lw_p31, fun _ h => absurd h List.not_mem_nil⟩⟩⟩⟩⟩⟩⟩⟩⟩⟩⟩⟩⟩⟩⟩⟩
theorem lw_p32 : lw_okq (⟨"StackMarks", "layAt", "(II)V"⟩, 10) := ⟨⟨by decide +kernel, by decide +kernel⟩, List.mem_of_getElem? (i := 14) (by decide +kernel), List.mem_of_getElem? (i := 399) (by decide +kernel), List.mem_of_getElem? (i := 400) (by decide +kernel)⟩
theorem lw_p33 : lw_okq (⟨"StackMarks", "layRow", "(II)I"⟩, 10) := ⟨⟨by decide +kernel, by decide +kernel⟩, List.mem_of_getElem? (i := 14) (by decide +kernel), List.mem_of_getElem? (i := 403) (by decide +kernel), List.mem_of_getElem? (i := 404) (by decide +kernel)⟩
theorem lw_p34 : lw_okq (⟨"StackMarks", "fillRow", "(II)I"⟩, 10) := ⟨⟨by decide +kernel, by decide +kernel⟩, List.mem_of_getElem? (i := 14) (by decide +kernel), List.mem_of_getElem? (i := 407) (by decide +kernel), List.mem_of_getElem? (i := 408) (by decide +kernel)⟩
theorem lw_p35 : lw_okq (⟨"StackMarks$Marks", "isOf", "(III)Z"⟩, 12) := ⟨⟨by decide +kernel, by decide +kernel⟩, List.mem_of_getElem? (i := 70) (by decide +kernel), List.mem_of_getElem? (i := 412) (by decide +kernel), List.mem_of_getElem? (i := 413) (by decide +kernel)⟩
theorem lw_p36 : lw_okq (⟨"StackMarks", "isFreeInRow", "(I)Z"⟩, 10) := ⟨⟨by decide +kernel, by decide +kernel⟩, List.mem_of_getElem? (i := 14) (by decide +kernel), List.mem_of_getElem? (i := 416) (by decide +kernel), List.mem_of_getElem? (i := 417) (by decide +kernel)⟩
theorem lw_p37 : lw_okq (⟨"StackMarks$Marks", "shareX", "(II)Z"⟩, 12) := ⟨⟨by decide +kernel, by decide +kernel⟩, List.mem_of_getElem? (i := 70) (by decide +kernel), List.mem_of_getElem? (i := 420) (by decide +kernel), List.mem_of_getElem? (i := 421) (by decide +kernel)⟩
theorem lw_p38 : lw_okq (⟨"StackMarks", "layRowMarks", "(III)V"⟩, 10) := ⟨⟨by decide +kernel, by decide +kernel⟩, List.mem_of_getElem? (i := 14) (by decide +kernel), List.mem_of_getElem? (i := 426) (by decide +kernel), List.mem_of_getElem? (i := 427) (by decide +kernel)⟩
theorem lw_p39 : lw_okq (⟨"StackMarks", "layLate", "(II)I"⟩, 10) := ⟨⟨by decide +kernel, by decide +kernel⟩, List.mem_of_getElem? (i := 14) (by decide +kernel), List.mem_of_getElem? (i := 430) (by decide +kernel), List.mem_of_getElem? (i := 431) (by decide +kernel)⟩
theorem lw_p40 : lw_okq (⟨"StackMarks", "lackOf", "(I)I"⟩, 10) := ⟨⟨by decide +kernel, by decide +kernel⟩, List.mem_of_getElem? (i := 14) (by decide +kernel), List.mem_of_getElem? (i := 438) (by decide +kernel), List.mem_of_getElem? (i := 439) (by decide +kernel)⟩
theorem lw_p41 : lw_okq (⟨"StackMarks$Items", "next", "(I)I"⟩, 7) := ⟨⟨by decide +kernel, by decide +kernel⟩, List.mem_of_getElem? (i := 22) (by decide +kernel), List.mem_of_getElem? (i := 442) (by decide +kernel), List.mem_of_getElem? (i := 443) (by decide +kernel)⟩
theorem lw_p42 : lw_okq (⟨"StackMarks$Items", "greatestX", "()I"⟩, 7) := ⟨⟨by decide +kernel, by decide +kernel⟩, List.mem_of_getElem? (i := 22) (by decide +kernel), List.mem_of_getElem? (i := 450) (by decide +kernel), List.mem_of_getElem? (i := 451) (by decide +kernel)⟩
theorem lw_p43 : lw_okq (⟨"StackMarks$Items", "moveBehind", "(II)V"⟩, 7) := ⟨⟨by decide +kernel, by decide +kernel⟩, List.mem_of_getElem? (i := 22) (by decide +kernel), List.mem_of_getElem? (i := 455) (by decide +kernel), List.mem_of_getElem? (i := 456) (by decide +kernel)⟩
theorem lw_p44 : lw_okq (⟨"StackMarks$Marks", "countAt", "(I)I"⟩, 12) := ⟨⟨by decide +kernel, by decide +kernel⟩, List.mem_of_getElem? (i := 70) (by decide +kernel), List.mem_of_getElem? (i := 463) (by decide +kernel), List.mem_of_getElem? (i := 464) (by decide +kernel)⟩
theorem lw_p45 : lw_okq (⟨"StackMarks", "demandPlaces", "()V"⟩, 10) := ⟨⟨by decide +kernel, by decide +kernel⟩, List.mem_of_getElem? (i := 14) (by decide +kernel), List.mem_of_getElem? (i := 475) (by decide +kernel), List.mem_of_getElem? (i := 476) (by decide +kernel)⟩
theorem lw_p46 : lw_okq (⟨"java/lang/Throwable", "fillInStackTrace", "(I)Ljava/lang/Throwable;"⟩, 6) := ⟨⟨by decide +kernel, by decide +kernel⟩, List.mem_of_getElem? (i := 515) (by decide +kernel), List.mem_of_getElem? (i := 513) (by decide +kernel), List.mem_of_getElem? (i := 514) (by decide +kernel)⟩
theorem lw_p47 : lw_okq (⟨"StackMarks$Slurs", "has", "(I)Z"⟩, 7) := ⟨⟨by decide +kernel, by decide +kernel⟩, List.mem_of_getElem? (i := 126) (by decide +kernel), List.mem_of_getElem? (i := 552) (by decide +kernel), List.mem_of_getElem? (i := 553) (by decide +kernel)⟩
def lw_privs_3 : List (MethodName × Nat) := [(⟨"StackMarks", "layAt", "(II)V"⟩, 10), (⟨"StackMarks", "layRow", "(II)I"⟩, 10), (⟨"StackMarks", "fillRow", "(II)I"⟩, 10), (⟨"StackMarks$Marks", "isOf", "(III)Z"⟩, 12), (⟨"StackMarks", "isFreeInRow", "(I)Z"⟩, 10), (⟨"StackMarks$Marks", "shareX", "(II)Z"⟩, 12), (⟨"StackMarks", "layRowMarks", "(III)V"⟩, 10), (⟨"StackMarks", "layLate", "(II)I"⟩, 10), (⟨"StackMarks", "lackOf", "(I)I"⟩, 10), (⟨"StackMarks$Items", "next", "(I)I"⟩, 7), (⟨"StackMarks$Items", "greatestX", "()I"⟩, 7), (⟨"StackMarks$Items", "moveBehind", "(II)V"⟩, 7), (⟨"StackMarks$Marks", "countAt", "(I)I"⟩, 12), (⟨"StackMarks", "demandPlaces", "()V"⟩, 10), (⟨"java/lang/Throwable", "fillInStackTrace", "(I)Ljava/lang/Throwable;"⟩, 6), (⟨"StackMarks$Slurs", "has", "(I)Z"⟩, 7)]
theorem lw_r3 : ∀ q ∈ lw_privs_3, lw_okq q := List.forall_mem_cons.mpr ⟨lw_p32, List.forall_mem_cons.mpr ⟨lw_p33, List.forall_mem_cons.mpr ⟨lw_p34, List.forall_mem_cons.mpr ⟨lw_p35, List.forall_mem_cons.mpr ⟨lw_p36, List.forall_mem_cons.mpr ⟨lw_p37, List.forall_mem_cons.mpr ⟨lw_p38, List.forall_mem_cons.mpr ⟨lw_p39, List.forall_mem_cons.mpr ⟨lw_p40, List.forall_mem_cons.mpr ⟨lw_p41, List.forall_mem_cons.mpr ⟨lw_p42, List.forall_mem_cons.mpr ⟨lw_p43, List.forall_mem_cons.mpr ⟨lw_p44, List.forall_mem_cons.mpr ⟨lw_p45, List.forall_mem_cons.mpr ⟨lw_p46, List.forall_mem_cons.mpr ⟨lw_p47, fun _ h => absurd h List.not_mem_nil⟩⟩⟩⟩⟩⟩⟩⟩⟩⟩⟩⟩⟩⟩⟩⟩
theorem lw_p48 : lw_okq (⟨"StackMarks$Marks", "isOn", "(III)Z"⟩, 12) := ⟨⟨by decide +kernel, by decide +kernel⟩, List.mem_of_getElem? (i := 70) (by decide +kernel), List.mem_of_getElem? (i := 578) (by decide +kernel), List.mem_of_getElem? (i := 579) (by decide +kernel)⟩
theorem lw_p49 : lw_okq (⟨"StackMarks$Marks", "countNearer", "(I)I"⟩, 12) := ⟨⟨by decide +kernel, by decide +kernel⟩, List.mem_of_getElem? (i := 70) (by decide +kernel), List.mem_of_getElem? (i := 582) (by decide +kernel), List.mem_of_getElem? (i := 583) (by decide +kernel)⟩
theorem lw_p50 : lw_okq (⟨"StackMarks$Marks", "countThere", "()I"⟩, 12) := ⟨⟨by decide +kernel, by decide +kernel⟩, List.mem_of_getElem? (i := 70) (by decide +kernel), List.mem_of_getElem? (i := 601) (by decide +kernel), List.mem_of_getElem? (i := 602) (by decide +kernel)⟩
theorem lw_p51 : lw_okq (⟨"StackMarks", "outermost", "(I)I"⟩, 10) := ⟨⟨by decide +kernel, by decide +kernel⟩, List.mem_of_getElem? (i := 14) (by decide +kernel), List.mem_of_getElem? (i := 605) (by decide +kernel), List.mem_of_getElem? (i := 606) (by decide +kernel)⟩
theorem lw_p52 : lw_okq (⟨"StackMarksModel", "isTaken", "(I)Z"⟩, 31) := ⟨⟨by decide +kernel, by decide +kernel⟩, List.mem_of_getElem? (i := 609) (by decide +kernel), List.mem_of_getElem? (i := 721) (by decide +kernel), List.mem_of_getElem? (i := 722) (by decide +kernel)⟩
theorem lw_p53 : lw_okq (⟨"StackMarksModel", "come", "(IIIIIZ)I"⟩, 31) := ⟨⟨by decide +kernel, by decide +kernel⟩, List.mem_of_getElem? (i := 609) (by decide +kernel), List.mem_of_getElem? (i := 726) (by decide +kernel), List.mem_of_getElem? (i := 727) (by decide +kernel)⟩
theorem lw_p54 : lw_okq (⟨"StackMarksModel", "isItem", "(I)Z"⟩, 31) := ⟨⟨by decide +kernel, by decide +kernel⟩, List.mem_of_getElem? (i := 609) (by decide +kernel), List.mem_of_getElem? (i := 739) (by decide +kernel), List.mem_of_getElem? (i := 740) (by decide +kernel)⟩
theorem lw_p55 : lw_okq (⟨"StackMarksModel", "isMark", "(I)Z"⟩, 31) := ⟨⟨by decide +kernel, by decide +kernel⟩, List.mem_of_getElem? (i := 609) (by decide +kernel), List.mem_of_getElem? (i := 758) (by decide +kernel), List.mem_of_getElem? (i := 759) (by decide +kernel)⟩
theorem lw_p56 : lw_okq (⟨"StackMarksModel", "greatest", "(III)I"⟩, 31) := ⟨⟨by decide +kernel, by decide +kernel⟩, List.mem_of_getElem? (i := 609) (by decide +kernel), List.mem_of_getElem? (i := 773) (by decide +kernel), List.mem_of_getElem? (i := 774) (by decide +kernel)⟩
theorem lw_p57 : lw_okq (⟨"StackMarksModel", "sideOf", "(I)I"⟩, 31) := ⟨⟨by decide +kernel, by decide +kernel⟩, List.mem_of_getElem? (i := 609) (by decide +kernel), List.mem_of_getElem? (i := 780) (by decide +kernel), List.mem_of_getElem? (i := 781) (by decide +kernel)⟩
theorem lw_p58 : lw_okq (⟨"StackMarksModel", "areBoth", "()Z"⟩, 31) := ⟨⟨by decide +kernel, by decide +kernel⟩, List.mem_of_getElem? (i := 609) (by decide +kernel), List.mem_of_getElem? (i := 784) (by decide +kernel), List.mem_of_getElem? (i := 785) (by decide +kernel)⟩
theorem lw_p59 : lw_okq (⟨"StackMarksModel", "left", "(I)I"⟩, 31) := ⟨⟨by decide +kernel, by decide +kernel⟩, List.mem_of_getElem? (i := 609) (by decide +kernel), List.mem_of_getElem? (i := 788) (by decide +kernel), List.mem_of_getElem? (i := 789) (by decide +kernel)⟩
theorem lw_p60 : lw_okq (⟨"StackMarksModel", "isAhead", "(II)Z"⟩, 31) := ⟨⟨by decide +kernel, by decide +kernel⟩, List.mem_of_getElem? (i := 609) (by decide +kernel), List.mem_of_getElem? (i := 793) (by decide +kernel), List.mem_of_getElem? (i := 794) (by decide +kernel)⟩
theorem lw_p61 : lw_okq (⟨"StackMarksModel", "lieRow", "(II)I"⟩, 31) := ⟨⟨by decide +kernel, by decide +kernel⟩, List.mem_of_getElem? (i := 609) (by decide +kernel), List.mem_of_getElem? (i := 797) (by decide +kernel), List.mem_of_getElem? (i := 798) (by decide +kernel)⟩
theorem lw_p62 : lw_okq (⟨"StackMarksModel", "gather", "(II)I"⟩, 31) := ⟨⟨by decide +kernel, by decide +kernel⟩, List.mem_of_getElem? (i := 609) (by decide +kernel), List.mem_of_getElem? (i := 801) (by decide +kernel), List.mem_of_getElem? (i := 802) (by decide +kernel)⟩
theorem lw_p63 : lw_okq (⟨"StackMarksModel", "cover", "(II)Z"⟩, 31) := ⟨⟨by decide +kernel, by decide +kernel⟩, List.mem_of_getElem? (i := 609) (by decide +kernel), List.mem_of_getElem? (i := 805) (by decide +kernel), List.mem_of_getElem? (i := 806) (by decide +kernel)⟩
def lw_privs_4 : List (MethodName × Nat) := [(⟨"StackMarks$Marks", "isOn", "(III)Z"⟩, 12), (⟨"StackMarks$Marks", "countNearer", "(I)I"⟩, 12), (⟨"StackMarks$Marks", "countThere", "()I"⟩, 12), (⟨"StackMarks", "outermost", "(I)I"⟩, 10), (⟨"StackMarksModel", "isTaken", "(I)Z"⟩, 31), (⟨"StackMarksModel", "come", "(IIIIIZ)I"⟩, 31), (⟨"StackMarksModel", "isItem", "(I)Z"⟩, 31), (⟨"StackMarksModel", "isMark", "(I)Z"⟩, 31), (⟨"StackMarksModel", "greatest", "(III)I"⟩, 31), (⟨"StackMarksModel", "sideOf", "(I)I"⟩, 31), (⟨"StackMarksModel", "areBoth", "()Z"⟩, 31), (⟨"StackMarksModel", "left", "(I)I"⟩, 31), (⟨"StackMarksModel", "isAhead", "(II)Z"⟩, 31), (⟨"StackMarksModel", "lieRow", "(II)I"⟩, 31), (⟨"StackMarksModel", "gather", "(II)I"⟩, 31), (⟨"StackMarksModel", "cover", "(II)Z"⟩, 31)]
theorem lw_r4 : ∀ q ∈ lw_privs_4, lw_okq q := List.forall_mem_cons.mpr ⟨lw_p48, List.forall_mem_cons.mpr ⟨lw_p49, List.forall_mem_cons.mpr ⟨lw_p50, List.forall_mem_cons.mpr ⟨lw_p51, List.forall_mem_cons.mpr ⟨lw_p52, List.forall_mem_cons.mpr ⟨lw_p53, List.forall_mem_cons.mpr ⟨lw_p54, List.forall_mem_cons.mpr ⟨lw_p55, List.forall_mem_cons.mpr ⟨lw_p56, List.forall_mem_cons.mpr ⟨lw_p57, List.forall_mem_cons.mpr ⟨lw_p58, List.forall_mem_cons.mpr ⟨lw_p59, List.forall_mem_cons.mpr ⟨lw_p60, List.forall_mem_cons.mpr ⟨lw_p61, List.forall_mem_cons.mpr ⟨lw_p62, List.forall_mem_cons.mpr ⟨lw_p63, fun _ h => absurd h List.not_mem_nil⟩⟩⟩⟩⟩⟩⟩⟩⟩⟩⟩⟩⟩⟩⟩⟩
theorem lw_p64 : lw_okq (⟨"StackMarksModel", "own", "(I)I"⟩, 31) := ⟨⟨by decide +kernel, by decide +kernel⟩, List.mem_of_getElem? (i := 609) (by decide +kernel), List.mem_of_getElem? (i := 809) (by decide +kernel), List.mem_of_getElem? (i := 810) (by decide +kernel)⟩
theorem lw_p65 : lw_okq (⟨"StackMarksModel", "lie", "(IIZ)V"⟩, 31) := ⟨⟨by decide +kernel, by decide +kernel⟩, List.mem_of_getElem? (i := 609) (by decide +kernel), List.mem_of_getElem? (i := 813) (by decide +kernel), List.mem_of_getElem? (i := 814) (by decide +kernel)⟩
theorem lw_p66 : lw_okq (⟨"StackMarksModel", "throwsNow", "()Z"⟩, 31) := ⟨⟨by decide +kernel, by decide +kernel⟩, List.mem_of_getElem? (i := 609) (by decide +kernel), List.mem_of_getElem? (i := 821) (by decide +kernel), List.mem_of_getElem? (i := 822) (by decide +kernel)⟩
theorem lw_p67 : lw_okq (⟨"StackMarksModel", "lacks", "(I)I"⟩, 31) := ⟨⟨by decide +kernel, by decide +kernel⟩, List.mem_of_getElem? (i := 609) (by decide +kernel), List.mem_of_getElem? (i := 850) (by decide +kernel), List.mem_of_getElem? (i := 851) (by decide +kernel)⟩
theorem lw_p68 : lw_okq (⟨"StackMarksModel", "nextOf", "(I)I"⟩, 31) := ⟨⟨by decide +kernel, by decide +kernel⟩, List.mem_of_getElem? (i := 609) (by decide +kernel), List.mem_of_getElem? (i := 854) (by decide +kernel), List.mem_of_getElem? (i := 855) (by decide +kernel)⟩
theorem lw_p69 : lw_okq (⟨"StackMarksModel", "marksOf", "(I)I"⟩, 31) := ⟨⟨by decide +kernel, by decide +kernel⟩, List.mem_of_getElem? (i := 609) (by decide +kernel), List.mem_of_getElem? (i := 866) (by decide +kernel), List.mem_of_getElem? (i := 867) (by decide +kernel)⟩
theorem lw_p70 : lw_okq (⟨"StackMarksModel", "outermost", "(I)I"⟩, 31) := ⟨⟨by decide +kernel, by decide +kernel⟩, List.mem_of_getElem? (i := 609) (by decide +kernel), List.mem_of_getElem? (i := 874) (by decide +kernel), List.mem_of_getElem? (i := 875) (by decide +kernel)⟩
def lw_privs_5 : List (MethodName × Nat) := [(⟨"StackMarksModel", "own", "(I)I"⟩, 31), (⟨"StackMarksModel", "lie", "(IIZ)V"⟩, 31), (⟨"StackMarksModel", "throwsNow", "()Z"⟩, 31), (⟨"StackMarksModel", "lacks", "(I)I"⟩, 31), (⟨"StackMarksModel", "nextOf", "(I)I"⟩, 31), (⟨"StackMarksModel", "marksOf", "(I)I"⟩, 31), (⟨"StackMarksModel", "outermost", "(I)I"⟩, 31)]
theorem lw_r5 : ∀ q ∈ lw_privs_5, lw_okq q := List.forall_mem_cons.mpr ⟨lw_p64, List.forall_mem_cons.mpr ⟨lw_p65, List.forall_mem_cons.mpr ⟨lw_p66, List.forall_mem_cons.mpr ⟨lw_p67, List.forall_mem_cons.mpr ⟨lw_p68, List.forall_mem_cons.mpr ⟨lw_p69, List.forall_mem_cons.mpr ⟨lw_p70, fun _ h => absurd h List.not_mem_nil⟩⟩⟩⟩⟩⟩⟩
def lw_privs : List (MethodName × Nat) := lw_privs_1 ++ (lw_privs_2 ++ (lw_privs_3 ++ (lw_privs_4 ++ (lw_privs_5))))
def lw_tbl : List Cond := k2_sels lw_privs ++ tables_1
theorem lw_privs_ok : ∀ q ∈ lw_privs, lw_okq q := by
  show ∀ q ∈ lw_privs_1 ++ (lw_privs_2 ++ (lw_privs_3 ++ (lw_privs_4 ++ (lw_privs_5)))), lw_okq q
  exact List.forall_mem_append.mpr ⟨lw_r1, List.forall_mem_append.mpr ⟨lw_r2, List.forall_mem_append.mpr ⟨lw_r3, List.forall_mem_append.mpr ⟨lw_r4, lw_r5⟩⟩⟩⟩
/-! ===== BEGIN printed: names, fields, word lists, decode rows ===== -/
def RX0 : String := "StackMarks$Items"
def TX0 : u_T := fun k => match k with
  | 0 => ("StackMarks$Items", "x", "[I", true)
  | 1 => ("StackMarks$Items", "low", "[I", true)
  | 2 => ("StackMarks$Items", "high", "[I", true)
  | 3 => ("StackMarks$Items", "voice", "[I", true)
  | 4 => ("StackMarks$Items", "stem", "[I", true)
  | 5 => ("StackMarks$Items", "rest", "[I", true)
  | _ => ("StackMarks$Items", "count", "I", false)
def tyX0 : Nat → FieldType := fun k => match k with
  | 0 => .array .int
  | 1 => .array .int
  | 2 => .array .int
  | 3 => .array .int
  | 4 => .array .int
  | 5 => .array .int
  | _ => .int
abbrev wsX00 : List Cond := u_ws RX0 TX0 7
theorem nmX0 : ∀ a, a < 7 → ∀ b, b < 7 → a ≠ b → (TX0 a).2.1 ≠ (TX0 b).2.1 := by decide +kernel
theorem tyX0_ok : ∀ k, k < 7 → parseFieldDescriptor (TX0 k).2.2.1 = some (tyX0 k) := by decide +kernel
abbrev cX0_init : ByteArray := prog_2_method_1_code
def yX0_init : MethodName := ⟨RX0, "<init>", "()V"⟩
abbrev cX0_has : ByteArray := prog_2_method_2_code
def yX0_has : MethodName := ⟨RX0, "has", "(I)Z"⟩
abbrev cX0_isAt : ByteArray := prog_2_method_3_code
def yX0_isAt : MethodName := ⟨RX0, "isAt", "(I)Z"⟩
abbrev cX0_add : ByteArray := prog_2_method_4_code
def yX0_add : MethodName := ⟨RX0, "add", "(IIIIII)I"⟩
abbrev cX0_next : ByteArray := prog_2_method_5_code
def yX0_next : MethodName := ⟨RX0, "next", "(I)I"⟩
abbrev cX0_greatestX : ByteArray := prog_2_method_6_code
def yX0_greatestX : MethodName := ⟨RX0, "greatestX", "()I"⟩
abbrev cX0_moveBehind : ByteArray := prog_2_method_7_code
def yX0_moveBehind : MethodName := ⟨RX0, "moveBehind", "(II)V"⟩
abbrev cX0_haveBothVoices : ByteArray := prog_2_method_8_code
def yX0_haveBothVoices : MethodName := ⟨RX0, "haveBothVoices", "()Z"⟩
def RX1 : String := "StackMarks$Kinds"
def TX1 : u_T := fun k => match k with
  | _ => ("StackMarks$Kinds", "settings", "[I", true)
def tyX1 : Nat → FieldType := fun k => match k with
  | _ => .array .int
abbrev wsX10 : List Cond := u_ws RX1 TX1 1
theorem nmX1 : ∀ a, a < 1 → ∀ b, b < 1 → a ≠ b → (TX1 a).2.1 ≠ (TX1 b).2.1 := by decide +kernel
theorem tyX1_ok : ∀ k, k < 1 → parseFieldDescriptor (TX1 k).2.2.1 = some (tyX1 k) := by decide +kernel
abbrev cX1_init : ByteArray := prog_3_method_1_code
def yX1_init : MethodName := ⟨RX1, "<init>", "()V"⟩
abbrev cX1_has : ByteArray := prog_3_method_2_code
def yX1_has : MethodName := ⟨RX1, "has", "(I)Z"⟩
abbrev cX1_takes : ByteArray := prog_3_method_3_code
def yX1_takes : MethodName := ⟨RX1, "takes", "(II)Z"⟩
abbrev cX1_get : ByteArray := prog_3_method_4_code
def yX1_get : MethodName := ⟨RX1, "get", "(II)I"⟩
abbrev cX1_change : ByteArray := prog_3_method_5_code
def yX1_change : MethodName := ⟨RX1, "change", "(III)I"⟩
abbrev cX1_liesFromX : ByteArray := prog_3_method_6_code
def yX1_liesFromX : MethodName := ⟨RX1, "liesFromX", "(I)Z"⟩
abbrev cX1_isInRow : ByteArray := prog_3_method_7_code
def yX1_isInRow : MethodName := ⟨RX1, "isInRow", "(I)Z"⟩
abbrev cX1_rank : ByteArray := prog_3_method_8_code
def yX1_rank : MethodName := ⟨RX1, "rank", "(I)I"⟩
def RX2 : String := "StackMarks$Marks"
def TX2 : u_T := fun k => match k with
  | 0 => ("StackMarks$Marks", "item", "[I", true)
  | 1 => ("StackMarks$Marks", "kind", "[I", true)
  | 2 => ("StackMarks$Marks", "width", "[I", true)
  | 3 => ("StackMarks$Marks", "height", "[I", true)
  | 4 => ("StackMarks$Marks", "gone", "[Z", true)
  | 5 => ("StackMarks$Marks", "left", "[I", true)
  | 6 => ("StackMarks$Marks", "side", "[I", true)
  | 7 => ("StackMarks$Marks", "inner", "[I", true)
  | 8 => ("StackMarks$Marks", "outer", "[I", true)
  | 9 => ("StackMarks$Marks", "inRow", "[Z", true)
  | 10 => ("StackMarks$Marks", "turn", "[I", true)
  | _ => ("StackMarks$Marks", "count", "I", false)
def tyX2 : Nat → FieldType := fun k => match k with
  | 0 => .array .int
  | 1 => .array .int
  | 2 => .array .int
  | 3 => .array .int
  | 4 => .array .boolean
  | 5 => .array .int
  | 6 => .array .int
  | 7 => .array .int
  | 8 => .array .int
  | 9 => .array .boolean
  | 10 => .array .int
  | _ => .int
abbrev wsX20 : List Cond := u_ws RX2 TX2 12
theorem nmX2 : ∀ a, a < 12 → ∀ b, b < 12 → a ≠ b → (TX2 a).2.1 ≠ (TX2 b).2.1 := by decide +kernel
theorem tyX2_ok : ∀ k, k < 12 → parseFieldDescriptor (TX2 k).2.2.1 = some (tyX2 k) := by decide +kernel
abbrev cX2_init : ByteArray := prog_4_method_1_code
def yX2_init : MethodName := ⟨RX2, "<init>", "()V"⟩
abbrev cX2_has : ByteArray := prog_4_method_2_code
def yX2_has : MethodName := ⟨RX2, "has", "(I)Z"⟩
abbrev cX2_add : ByteArray := prog_4_method_3_code
def yX2_add : MethodName := ⟨RX2, "add", "(IIII)I"⟩
abbrev cX2_countThere : ByteArray := prog_4_method_4_code
def yX2_countThere : MethodName := ⟨RX2, "countThere", "()I"⟩
abbrev cX2_countAt : ByteArray := prog_4_method_5_code
def yX2_countAt : MethodName := ⟨RX2, "countAt", "(I)I"⟩
abbrev cX2_isOn : ByteArray := prog_4_method_6_code
def yX2_isOn : MethodName := ⟨RX2, "isOn", "(III)Z"⟩
abbrev cX2_isOf : ByteArray := prog_4_method_7_code
def yX2_isOf : MethodName := ⟨RX2, "isOf", "(III)Z"⟩
abbrev cX2_behind : ByteArray := prog_4_method_8_code
def yX2_behind : MethodName := ⟨RX2, "behind", "(I)I"⟩
abbrev cX2_shareX : ByteArray := prog_4_method_9_code
def yX2_shareX : MethodName := ⟨RX2, "shareX", "(II)Z"⟩
abbrev cX2_countNearer : ByteArray := prog_4_method_10_code
def yX2_countNearer : MethodName := ⟨RX2, "countNearer", "(I)I"⟩
def RX3 : String := "StackMarks$Outline"
def TX3 : u_T := fun k => match k with
  | 0 => ("StackMarks$Outline", "first", "[I", true)
  | 1 => ("StackMarks$Outline", "last", "[I", true)
  | 2 => ("StackMarks$Outline", "height", "[I", true)
  | 3 => ("StackMarks$Outline", "rowInner", "[I", true)
  | 4 => ("StackMarks$Outline", "blocks", "I", false)
  | _ => ("StackMarks$Outline", "outermost", "I", false)
def tyX3 : Nat → FieldType := fun k => match k with
  | 0 => .array .int
  | 1 => .array .int
  | 2 => .array .int
  | 3 => .array .int
  | 4 => .int
  | _ => .int
abbrev wsX30 : List Cond := u_ws RX3 TX3 6
theorem nmX3 : ∀ a, a < 6 → ∀ b, b < 6 → a ≠ b → (TX3 a).2.1 ≠ (TX3 b).2.1 := by decide +kernel
theorem tyX3_ok : ∀ k, k < 6 → parseFieldDescriptor (TX3 k).2.2.1 = some (tyX3 k) := by decide +kernel
abbrev cX3_init : ByteArray := prog_5_method_1_code
def yX3_init : MethodName := ⟨RX3, "<init>", "()V"⟩
abbrev cX3_clear : ByteArray := prog_5_method_2_code
def yX3_clear : MethodName := ⟨RX3, "clear", "()V"⟩
abbrev cX3_cover : ByteArray := prog_5_method_3_code
def yX3_cover : MethodName := ⟨RX3, "cover", "(III)V"⟩
abbrev cX3_greatest : ByteArray := prog_5_method_4_code
def yX3_greatest : MethodName := ⟨RX3, "greatest", "(II)I"⟩
abbrev cX3_reachOut : ByteArray := prog_5_method_5_code
def yX3_reachOut : MethodName := ⟨RX3, "reachOut", "(I)V"⟩
def RX4 : String := "StackMarks$Slurs"
def TX4 : u_T := fun k => match k with
  | 0 => ("StackMarks$Slurs", "from", "[I", true)
  | 1 => ("StackMarks$Slurs", "to", "[I", true)
  | 2 => ("StackMarks$Slurs", "side", "[I", true)
  | 3 => ("StackMarks$Slurs", "thickness", "[I", true)
  | 4 => ("StackMarks$Slurs", "inner", "[I", true)
  | 5 => ("StackMarks$Slurs", "outer", "[I", true)
  | _ => ("StackMarks$Slurs", "count", "I", false)
def tyX4 : Nat → FieldType := fun k => match k with
  | 0 => .array .int
  | 1 => .array .int
  | 2 => .array .int
  | 3 => .array .int
  | 4 => .array .int
  | 5 => .array .int
  | _ => .int
abbrev wsX40 : List Cond := u_ws RX4 TX4 7
theorem nmX4 : ∀ a, a < 7 → ∀ b, b < 7 → a ≠ b → (TX4 a).2.1 ≠ (TX4 b).2.1 := by decide +kernel
theorem tyX4_ok : ∀ k, k < 7 → parseFieldDescriptor (TX4 k).2.2.1 = some (tyX4 k) := by decide +kernel
abbrev cX4_init : ByteArray := prog_6_method_1_code
def yX4_init : MethodName := ⟨RX4, "<init>", "()V"⟩
abbrev cX4_has : ByteArray := prog_6_method_2_code
def yX4_has : MethodName := ⟨RX4, "has", "(I)Z"⟩
abbrev cX4_add : ByteArray := prog_6_method_3_code
def yX4_add : MethodName := ⟨RX4, "add", "(IIII)I"⟩
def RX5 : String := "StackMarks"
def TX5 : u_T := fun k => match k with
  | 0 => ("StackMarks", "items", "LStackMarks$Items;", true)
  | 1 => ("StackMarks", "kinds", "LStackMarks$Kinds;", true)
  | 2 => ("StackMarks", "marks", "LStackMarks$Marks;", true)
  | 3 => ("StackMarks", "slurs", "LStackMarks$Slurs;", true)
  | 4 => ("StackMarks", "above", "LStackMarks$Outline;", true)
  | 5 => ("StackMarks", "below", "LStackMarks$Outline;", true)
  | 6 => ("StackMarks", "queue", "[I", true)
  | 7 => ("StackMarks", "queued", "I", false)
  | 8 => ("StackMarks", "turns", "I", false)
  | _ => ("StackMarks", "placed", "Z", false)
def tyX5 : Nat → FieldType := fun k => match k with
  | 0 => .object "StackMarks$Items"
  | 1 => .object "StackMarks$Kinds"
  | 2 => .object "StackMarks$Marks"
  | 3 => .object "StackMarks$Slurs"
  | 4 => .object "StackMarks$Outline"
  | 5 => .object "StackMarks$Outline"
  | 6 => .array .int
  | 7 => .int
  | 8 => .int
  | _ => .boolean
abbrev wsX50 : List Cond := u_ws RX5 TX5 10
theorem nmX5 : ∀ a, a < 10 → ∀ b, b < 10 → a ≠ b → (TX5 a).2.1 ≠ (TX5 b).2.1 := by decide +kernel
theorem tyX5_ok : ∀ k, k < 10 → parseFieldDescriptor (TX5 k).2.2.1 = some (tyX5 k) := by decide +kernel
abbrev cX5_init : ByteArray := prog_1_method_1_code
def yX5_init : MethodName := ⟨RX5, "<init>", "()V"⟩
abbrev cX5_note : ByteArray := prog_1_method_2_code
def yX5_note : MethodName := ⟨RX5, "note", "(IIIII)I"⟩
abbrev cX5_rest : ByteArray := prog_1_method_3_code
def yX5_rest : MethodName := ⟨RX5, "rest", "(III)I"⟩
abbrev cX5_lift : ByteArray := prog_1_method_4_code
def yX5_lift : MethodName := ⟨RX5, "lift", "(II)I"⟩
abbrev cX5_set : ByteArray := prog_1_method_5_code
def yX5_set : MethodName := ⟨RX5, "set", "(III)I"⟩
abbrev cX5_mark : ByteArray := prog_1_method_6_code
def yX5_mark : MethodName := ⟨RX5, "mark", "(IIII)I"⟩
abbrev cX5_drop : ByteArray := prog_1_method_7_code
def yX5_drop : MethodName := ⟨RX5, "drop", "(I)I"⟩
abbrev cX5_slur : ByteArray := prog_1_method_8_code
def yX5_slur : MethodName := ⟨RX5, "slur", "(IIII)I"⟩
abbrev cX5_place : ByteArray := prog_1_method_9_code
def yX5_place : MethodName := ⟨RX5, "place", "()I"⟩
abbrev cX5_at : ByteArray := prog_1_method_10_code
def yX5_at : MethodName := ⟨RX5, "at", "(II)I"⟩
abbrev cX5_slurAt : ByteArray := prog_1_method_11_code
def yX5_slurAt : MethodName := ⟨RX5, "slurAt", "(II)I"⟩
abbrev cX5_skyline : ByteArray := prog_1_method_12_code
def yX5_skyline : MethodName := ⟨RX5, "skyline", "(II)I"⟩
abbrev cX5_row : ByteArray := prog_1_method_13_code
def yX5_row : MethodName := ⟨RX5, "row", "(II)I"⟩
abbrev cX5_order : ByteArray := prog_1_method_14_code
def yX5_order : MethodName := ⟨RX5, "order", "(III)I"⟩
abbrev cX5_meets : ByteArray := prog_1_method_15_code
def yX5_meets : MethodName := ⟨RX5, "meets", "(II)I"⟩
abbrev cX5_wide : ByteArray := prog_1_method_16_code
def yX5_wide : MethodName := ⟨RX5, "wide", "(I)I"⟩
abbrev cX5_push : ByteArray := prog_1_method_17_code
def yX5_push : MethodName := ⟨RX5, "push", "(I)I"⟩
abbrev cX5_item : ByteArray := prog_1_method_18_code
def yX5_item : MethodName := ⟨RX5, "item", "(II)I"⟩
abbrev cX5_count : ByteArray := prog_1_method_19_code
def yX5_count : MethodName := ⟨RX5, "count", "(I)I"⟩
abbrev cX5_isWithin : ByteArray := prog_1_method_20_code
def yX5_isWithin : MethodName := ⟨RX5, "isWithin", "(III)Z"⟩
abbrev cX5_isHead : ByteArray := prog_1_method_21_code
def yX5_isHead : MethodName := ⟨RX5, "isHead", "(I)Z"⟩
abbrev cX5_isSide : ByteArray := prog_1_method_22_code
def yX5_isSide : MethodName := ⟨RX5, "isSide", "(I)Z"⟩
abbrev cX5_demandPlaces : ByteArray := prog_1_method_23_code
def yX5_demandPlaces : MethodName := ⟨RX5, "demandPlaces", "()V"⟩
abbrev cX5_addItem : ByteArray := prog_1_method_24_code
def yX5_addItem : MethodName := ⟨RX5, "addItem", "(IIIIII)I"⟩
abbrev cX5_outline : ByteArray := prog_1_method_25_code
def yX5_outline : MethodName := ⟨RX5, "outline", "(I)LStackMarks$Outline;"⟩
abbrev cX5_outermost : ByteArray := prog_1_method_26_code
def yX5_outermost : MethodName := ⟨RX5, "outermost", "(I)I"⟩
abbrev cX5_lackOf : ByteArray := prog_1_method_27_code
def yX5_lackOf : MethodName := ⟨RX5, "lackOf", "(I)I"⟩
abbrev cX5_coverItems : ByteArray := prog_1_method_28_code
def yX5_coverItems : MethodName := ⟨RX5, "coverItems", "()V"⟩
abbrev cX5_coverHeads : ByteArray := prog_1_method_29_code
def yX5_coverHeads : MethodName := ⟨RX5, "coverHeads", "(III)V"⟩
abbrev cX5_coverStem : ByteArray := prog_1_method_30_code
def yX5_coverStem : MethodName := ⟨RX5, "coverStem", "(I)V"⟩
abbrev cX5_laySlurs : ByteArray := prog_1_method_31_code
def yX5_laySlurs : MethodName := ⟨RX5, "laySlurs", "()V"⟩
abbrev cX5_queueMarks : ByteArray := prog_1_method_32_code
def yX5_queueMarks : MethodName := ⟨RX5, "queueMarks", "()V"⟩
abbrev cX5_queueMark : ByteArray := prog_1_method_33_code
def yX5_queueMark : MethodName := ⟨RX5, "queueMark", "(I)V"⟩
abbrev cX5_rank : ByteArray := prog_1_method_34_code
def yX5_rank : MethodName := ⟨RX5, "rank", "(I)I"⟩
abbrev cX5_leftEdge : ByteArray := prog_1_method_35_code
def yX5_leftEdge : MethodName := ⟨RX5, "leftEdge", "(I)I"⟩
abbrev cX5_chooseSide : ByteArray := prog_1_method_36_code
def yX5_chooseSide : MethodName := ⟨RX5, "chooseSide", "(IZ)I"⟩
abbrev cX5_layMarks : ByteArray := prog_1_method_37_code
def yX5_layMarks : MethodName := ⟨RX5, "layMarks", "()I"⟩
abbrev cX5_innerAlone : ByteArray := prog_1_method_38_code
def yX5_innerAlone : MethodName := ⟨RX5, "innerAlone", "(I)I"⟩
abbrev cX5_layAt : ByteArray := prog_1_method_39_code
def yX5_layAt : MethodName := ⟨RX5, "layAt", "(II)V"⟩
abbrev cX5_layRow : ByteArray := prog_1_method_40_code
def yX5_layRow : MethodName := ⟨RX5, "layRow", "(II)I"⟩
abbrev cX5_fillRow : ByteArray := prog_1_method_41_code
def yX5_fillRow : MethodName := ⟨RX5, "fillRow", "(II)I"⟩
abbrev cX5_isFreeInRow : ByteArray := prog_1_method_42_code
def yX5_isFreeInRow : MethodName := ⟨RX5, "isFreeInRow", "(I)Z"⟩
abbrev cX5_layRowMarks : ByteArray := prog_1_method_43_code
def yX5_layRowMarks : MethodName := ⟨RX5, "layRowMarks", "(III)V"⟩
abbrev cX5_layLate : ByteArray := prog_1_method_44_code
def yX5_layLate : MethodName := ⟨RX5, "layLate", "(II)I"⟩
def RX6 : String := "StackMarksModel"
def TX6 : u_T := fun k => match k with
  | 0 => ("StackMarksModel", "code", "I", false)
  | 1 => ("StackMarksModel", "items", "I", false)
  | 2 => ("StackMarksModel", "xs", "[I", true)
  | 3 => ("StackMarksModel", "lows", "[I", true)
  | 4 => ("StackMarksModel", "highs", "[I", true)
  | 5 => ("StackMarksModel", "voices", "[I", true)
  | 6 => ("StackMarksModel", "stems", "[I", true)
  | 7 => ("StackMarksModel", "rests", "[Z", true)
  | 8 => ("StackMarksModel", "kinds", "[I", true)
  | 9 => ("StackMarksModel", "marks", "I", false)
  | 10 => ("StackMarksModel", "ofItem", "[I", true)
  | 11 => ("StackMarksModel", "ofKind", "[I", true)
  | 12 => ("StackMarksModel", "wides", "[I", true)
  | 13 => ("StackMarksModel", "tall", "[I", true)
  | 14 => ("StackMarksModel", "gone", "[Z", true)
  | 15 => ("StackMarksModel", "laid", "[Z", true)
  | 16 => ("StackMarksModel", "inners", "[I", true)
  | 17 => ("StackMarksModel", "inRow", "[Z", true)
  | 18 => ("StackMarksModel", "turns", "[I", true)
  | 19 => ("StackMarksModel", "turn", "I", false)
  | 20 => ("StackMarksModel", "slurs", "I", false)
  | 21 => ("StackMarksModel", "begins", "[I", true)
  | 22 => ("StackMarksModel", "ends", "[I", true)
  | 23 => ("StackMarksModel", "slurSides", "[I", true)
  | 24 => ("StackMarksModel", "thick", "[I", true)
  | 25 => ("StackMarksModel", "slurInner", "[I", true)
  | 26 => ("StackMarksModel", "slursLaid", "I", false)
  | 27 => ("StackMarksModel", "hasRow", "[Z", true)
  | 28 => ("StackMarksModel", "rowInner", "[I", true)
  | 29 => ("StackMarksModel", "isPlaced", "Z", false)
  | _ => ("StackMarksModel", "list", "[I", true)
def tyX6 : Nat → FieldType := fun k => match k with
  | 0 => .int
  | 1 => .int
  | 2 => .array .int
  | 3 => .array .int
  | 4 => .array .int
  | 5 => .array .int
  | 6 => .array .int
  | 7 => .array .boolean
  | 8 => .array .int
  | 9 => .int
  | 10 => .array .int
  | 11 => .array .int
  | 12 => .array .int
  | 13 => .array .int
  | 14 => .array .boolean
  | 15 => .array .boolean
  | 16 => .array .int
  | 17 => .array .boolean
  | 18 => .array .int
  | 19 => .int
  | 20 => .int
  | 21 => .array .int
  | 22 => .array .int
  | 23 => .array .int
  | 24 => .array .int
  | 25 => .array .int
  | 26 => .int
  | 27 => .array .boolean
  | 28 => .array .int
  | 29 => .boolean
  | _ => .array .int
abbrev wsX60 : List Cond := u_ws RX6 TX6 31
theorem nmX6 : ∀ a, a < 31 → ∀ b, b < 31 → a ≠ b → (TX6 a).2.1 ≠ (TX6 b).2.1 := by decide +kernel
theorem tyX6_ok : ∀ k, k < 31 → parseFieldDescriptor (TX6 k).2.2.1 = some (tyX6 k) := by decide +kernel
abbrev cX6_init : ByteArray := prog_8_method_1_code
def yX6_init : MethodName := ⟨RX6, "<init>", "()V"⟩
abbrev cX6_thrown : ByteArray := prog_8_method_2_code
def yX6_thrown : MethodName := ⟨RX6, "thrown", "()I"⟩
abbrev cX6_in : ByteArray := prog_8_method_3_code
def yX6_in : MethodName := ⟨RX6, "in", "(III)Z"⟩
abbrev cX6_isSide : ByteArray := prog_8_method_4_code
def yX6_isSide : MethodName := ⟨RX6, "isSide", "(I)Z"⟩
abbrev cX6_isItem : ByteArray := prog_8_method_5_code
def yX6_isItem : MethodName := ⟨RX6, "isItem", "(I)Z"⟩
abbrev cX6_isMark : ByteArray := prog_8_method_6_code
def yX6_isMark : MethodName := ⟨RX6, "isMark", "(I)Z"⟩
abbrev cX6_isTaken : ByteArray := prog_8_method_7_code
def yX6_isTaken : MethodName := ⟨RX6, "isTaken", "(I)Z"⟩
abbrev cX6_come : ByteArray := prog_8_method_8_code
def yX6_come : MethodName := ⟨RX6, "come", "(IIIIIZ)I"⟩
abbrev cX6_note : ByteArray := prog_8_method_9_code
def yX6_note : MethodName := ⟨RX6, "note", "(IIIII)I"⟩
abbrev cX6_rest : ByteArray := prog_8_method_10_code
def yX6_rest : MethodName := ⟨RX6, "rest", "(III)I"⟩
abbrev cX6_lift : ByteArray := prog_8_method_11_code
def yX6_lift : MethodName := ⟨RX6, "lift", "(II)I"⟩
abbrev cX6_most : ByteArray := prog_8_method_12_code
def yX6_most : MethodName := ⟨RX6, "most", "(I)I"⟩
abbrev cX6_set : ByteArray := prog_8_method_13_code
def yX6_set : MethodName := ⟨RX6, "set", "(III)I"⟩
abbrev cX6_mark : ByteArray := prog_8_method_14_code
def yX6_mark : MethodName := ⟨RX6, "mark", "(IIII)I"⟩
abbrev cX6_drop : ByteArray := prog_8_method_15_code
def yX6_drop : MethodName := ⟨RX6, "drop", "(I)I"⟩
abbrev cX6_slur : ByteArray := prog_8_method_16_code
def yX6_slur : MethodName := ⟨RX6, "slur", "(IIII)I"⟩
abbrev cX6_areBoth : ByteArray := prog_8_method_17_code
def yX6_areBoth : MethodName := ⟨RX6, "areBoth", "()Z"⟩
abbrev cX6_sideOf : ByteArray := prog_8_method_18_code
def yX6_sideOf : MethodName := ⟨RX6, "sideOf", "(I)I"⟩
abbrev cX6_left : ByteArray := prog_8_method_19_code
def yX6_left : MethodName := ⟨RX6, "left", "(I)I"⟩
abbrev cX6_above : ByteArray := prog_8_method_20_code
def yX6_above : MethodName := ⟨RX6, "above", "(IIIIII)I"⟩
abbrev cX6_greatest : ByteArray := prog_8_method_21_code
def yX6_greatest : MethodName := ⟨RX6, "greatest", "(III)I"⟩
abbrev cX6_own : ByteArray := prog_8_method_22_code
def yX6_own : MethodName := ⟨RX6, "own", "(I)I"⟩
abbrev cX6_lie : ByteArray := prog_8_method_23_code
def yX6_lie : MethodName := ⟨RX6, "lie", "(IIZ)V"⟩
abbrev cX6_isAhead : ByteArray := prog_8_method_24_code
def yX6_isAhead : MethodName := ⟨RX6, "isAhead", "(II)Z"⟩
abbrev cX6_cover : ByteArray := prog_8_method_25_code
def yX6_cover : MethodName := ⟨RX6, "cover", "(II)Z"⟩
abbrev cX6_gather : ByteArray := prog_8_method_26_code
def yX6_gather : MethodName := ⟨RX6, "gather", "(II)I"⟩
abbrev cX6_lieRow : ByteArray := prog_8_method_27_code
def yX6_lieRow : MethodName := ⟨RX6, "lieRow", "(II)I"⟩
abbrev cX6_place : ByteArray := prog_8_method_28_code
def yX6_place : MethodName := ⟨RX6, "place", "()I"⟩
abbrev cX6_throwsNow : ByteArray := prog_8_method_29_code
def yX6_throwsNow : MethodName := ⟨RX6, "throwsNow", "()Z"⟩
abbrev cX6_at : ByteArray := prog_8_method_30_code
def yX6_at : MethodName := ⟨RX6, "at", "(II)I"⟩
abbrev cX6_slurAt : ByteArray := prog_8_method_31_code
def yX6_slurAt : MethodName := ⟨RX6, "slurAt", "(II)I"⟩
abbrev cX6_skyline : ByteArray := prog_8_method_32_code
def yX6_skyline : MethodName := ⟨RX6, "skyline", "(II)I"⟩
abbrev cX6_row : ByteArray := prog_8_method_33_code
def yX6_row : MethodName := ⟨RX6, "row", "(II)I"⟩
abbrev cX6_order : ByteArray := prog_8_method_34_code
def yX6_order : MethodName := ⟨RX6, "order", "(III)I"⟩
abbrev cX6_meets : ByteArray := prog_8_method_35_code
def yX6_meets : MethodName := ⟨RX6, "meets", "(II)I"⟩
abbrev cX6_nextOf : ByteArray := prog_8_method_36_code
def yX6_nextOf : MethodName := ⟨RX6, "nextOf", "(I)I"⟩
abbrev cX6_lacks : ByteArray := prog_8_method_37_code
def yX6_lacks : MethodName := ⟨RX6, "lacks", "(I)I"⟩
abbrev cX6_wide : ByteArray := prog_8_method_38_code
def yX6_wide : MethodName := ⟨RX6, "wide", "(I)I"⟩
abbrev cX6_push : ByteArray := prog_8_method_39_code
def yX6_push : MethodName := ⟨RX6, "push", "(I)I"⟩
abbrev cX6_marksOf : ByteArray := prog_8_method_40_code
def yX6_marksOf : MethodName := ⟨RX6, "marksOf", "(I)I"⟩
abbrev cX6_item : ByteArray := prog_8_method_41_code
def yX6_item : MethodName := ⟨RX6, "item", "(II)I"⟩
abbrev cX6_outermost : ByteArray := prog_8_method_42_code
def yX6_outermost : MethodName := ⟨RX6, "outermost", "(I)I"⟩
abbrev cX6_count : ByteArray := prog_8_method_43_code
def yX6_count : MethodName := ⟨RX6, "count", "(I)I"⟩
def RJ9 : String := "java/lang/Math"
def TJ9 : u_T := fun k => match k with
  | _ => ("", "", "", false)
def tyJ9 : Nat → FieldType := fun k => match k with
  | _ => .int
abbrev wsJ90 : List Cond := u_ws RJ9 TJ9 0
theorem nmJ9 : ∀ a, a < 0 → ∀ b, b < 0 → a ≠ b → (TJ9 a).2.1 ≠ (TJ9 b).2.1 := by decide +kernel
theorem tyJ9_ok : ∀ k, k < 0 → parseFieldDescriptor (TJ9 k).2.2.1 = some (tyJ9 k) := by decide +kernel
abbrev cJ9_max_7cf53 : ByteArray := prog_11_method_65_code
def yJ9_max_7cf53 : MethodName := ⟨RJ9, "max", "(II)I"⟩
def RJ0 : String := "java/lang/String"
def TJ0 : u_T := fun k => match k with
  | _ => ("", "", "", false)
def tyJ0 : Nat → FieldType := fun k => match k with
  | _ => .int
abbrev wsJ00 : List Cond := u_ws RJ0 TJ0 0
theorem nmJ0 : ∀ a, a < 0 → ∀ b, b < 0 → a ≠ b → (TJ0 a).2.1 ≠ (TJ0 b).2.1 := by decide +kernel
theorem tyJ0_ok : ∀ k, k < 0 → parseFieldDescriptor (TJ0 k).2.2.1 = some (tyJ0 k) := by decide +kernel
def RL : String := "StackMarksLaw"
abbrev cL_at : ByteArray := method_3_code
def yL_at : MethodName := ⟨RL, "at", "(LStackMarks;II[J)I"⟩
abbrev cL_slurAt : ByteArray := method_4_code
def yL_slurAt : MethodName := ⟨RL, "slurAt", "(LStackMarks;II[J)I"⟩
abbrev cL_skyline : ByteArray := method_5_code
def yL_skyline : MethodName := ⟨RL, "skyline", "(LStackMarks;II[J)I"⟩
abbrev cL_row : ByteArray := method_6_code
def yL_row : MethodName := ⟨RL, "row", "(LStackMarks;II[J)I"⟩
abbrev cL_order : ByteArray := method_7_code
def yL_order : MethodName := ⟨RL, "order", "(LStackMarks;III[J)I"⟩
abbrev cL_meets : ByteArray := method_8_code
def yL_meets : MethodName := ⟨RL, "meets", "(LStackMarks;II[J)I"⟩
abbrev cL_count : ByteArray := method_9_code
def yL_count : MethodName := ⟨RL, "count", "(LStackMarks;I[J)I"⟩
abbrev cL_law : ByteArray := code
def yL_law : MethodName := ⟨RL, "law", "([I)Z"⟩
abbrev vwCl : List vw_C := [(RX0, TX0, 7), (RX1, TX1, 1), (RX2, TX2, 12), (RX3, TX3, 6), (RX4, TX4, 7), (RX5, TX5, 10), (RX6, TX6, 31)]
end
section
/-! the good words of the tables, and where each stands -/
def wA : List Cond := lw_tbl.filter goodWord
theorem tw1 {w : Cond} (i : Nat) (h : tables_1_1[i]? = some w) (hg : goodWord w = true) : w ∈ wA := List.mem_filter.mpr ⟨List.mem_append_right _ (List.mem_append_left _ (List.mem_of_getElem? h)), hg⟩
theorem tw2 {w : Cond} (i : Nat) (h : tables_1_2[i]? = some w) (hg : goodWord w = true) : w ∈ wA := List.mem_filter.mpr ⟨List.mem_append_right _ (List.mem_append_right _ (List.mem_append_left _ (List.mem_of_getElem? h))), hg⟩
theorem tw3 {w : Cond} (i : Nat) (h : tables_1_3[i]? = some w) (hg : goodWord w = true) : w ∈ wA := List.mem_filter.mpr ⟨List.mem_append_right _ (List.mem_append_right _ (List.mem_append_right _ (List.mem_append_left _ (List.mem_of_getElem? h)))), hg⟩
theorem tw4 {w : Cond} (i : Nat) (h : tables_1_4[i]? = some w) (hg : goodWord w = true) : w ∈ wA := List.mem_filter.mpr ⟨List.mem_append_right _ (List.mem_append_right _ (List.mem_append_right _ (List.mem_append_right _ (List.mem_of_getElem? h)))), hg⟩
theorem twp {w : Cond} (i : Nat) (h : (k2_sels lw_privs)[i]? = some w) (hg : goodWord w = true) : w ∈ wA := List.mem_filter.mpr ⟨List.mem_append_left _ (List.mem_of_getElem? h), hg⟩
theorem wA_good : ∀ w ∈ wA, goodWord w = true := fun _ h => (List.mem_filter.mp h).2
theorem wA_in : ∀ w ∈ wA, w ∈ lw_tbl := fun _ h => (List.mem_filter.mp h).1
theorem kn_L : Cond.initialized RL ∈ wA := tw1 0 (by decide +kernel) (by decide +kernel)
theorem kn_X5 : Cond.initialized RX5 ∈ wA := tw1 1 (by decide +kernel) (by decide +kernel)
theorem kn_X0 : Cond.initialized RX0 ∈ wA := tw1 2 (by decide +kernel) (by decide +kernel)
theorem kn_X1 : Cond.initialized RX1 ∈ wA := tw1 3 (by decide +kernel) (by decide +kernel)
theorem kn_X2 : Cond.initialized RX2 ∈ wA := tw1 4 (by decide +kernel) (by decide +kernel)
theorem kn_X4 : Cond.initialized RX4 ∈ wA := tw1 5 (by decide +kernel) (by decide +kernel)
theorem kn_X3 : Cond.initialized RX3 ∈ wA := tw1 6 (by decide +kernel) (by decide +kernel)
theorem kn_X6 : Cond.initialized RX6 ∈ wA := tw1 7 (by decide +kernel) (by decide +kernel)
theorem km_n : Cond.initialized "java/lang/Math" ∈ wA := tw1 8 (by decide +kernel) (by decide +kernel)
theorem kl_L_35 : Cond.methodLink RL 35 yX5_init ∈ wA := tw1 15 (by decide +kernel) (by decide +kernel)
theorem ki_X5_init : Cond.instanceMethod yX5_init ∈ wA := tw1 16 (by decide +kernel) (by decide +kernel)
theorem kc_X5_init : Cond.code yX5_init cX5_init 1 none ∈ wA := tw1 17 (by decide +kernel) (by decide +kernel)
theorem ki_X0_init : Cond.instanceMethod yX0_init ∈ wA := tw1 24 (by decide +kernel) (by decide +kernel)
theorem kc_X0_init : Cond.code yX0_init cX0_init 1 none ∈ wA := tw1 25 (by decide +kernel) (by decide +kernel)
theorem kf_X0_9 : Cond.fieldLink RX0 9 "StackMarks$Items" "x" "[I" ∈ wA := tw1 27 (by decide +kernel) (by decide +kernel)
theorem kf_X0_15 : Cond.fieldLink RX0 15 "StackMarks$Items" "low" "[I" ∈ wA := tw1 29 (by decide +kernel) (by decide +kernel)
theorem kf_X0_18 : Cond.fieldLink RX0 18 "StackMarks$Items" "high" "[I" ∈ wA := tw1 31 (by decide +kernel) (by decide +kernel)
theorem kf_X0_21 : Cond.fieldLink RX0 21 "StackMarks$Items" "voice" "[I" ∈ wA := tw1 33 (by decide +kernel) (by decide +kernel)
theorem kf_X0_24 : Cond.fieldLink RX0 24 "StackMarks$Items" "stem" "[I" ∈ wA := tw1 35 (by decide +kernel) (by decide +kernel)
theorem kf_X0_27 : Cond.fieldLink RX0 27 "StackMarks$Items" "rest" "[I" ∈ wA := tw1 37 (by decide +kernel) (by decide +kernel)
theorem kf_X0_30 : Cond.fieldLink RX0 30 "StackMarks$Items" "count" "I" ∈ wA := tw1 39 (by decide +kernel) (by decide +kernel)
theorem ki_X1_init : Cond.instanceMethod yX1_init ∈ wA := tw1 60 (by decide +kernel) (by decide +kernel)
theorem kc_X1_init : Cond.code yX1_init cX1_init 3 none ∈ wA := tw1 61 (by decide +kernel) (by decide +kernel)
theorem kf_X1_13 : Cond.fieldLink RX1 13 "StackMarks$Kinds" "AT_FIRST" "[I" ∈ wA := tw1 63 (by decide +kernel) (by decide +kernel)
theorem kf_X1_9 : Cond.fieldLink RX1 9 "StackMarks$Kinds" "settings" "[I" ∈ wA := tw1 65 (by decide +kernel) (by decide +kernel)
theorem ki_X2_init : Cond.instanceMethod yX2_init ∈ wA := tw1 72 (by decide +kernel) (by decide +kernel)
theorem kc_X2_init : Cond.code yX2_init cX2_init 1 none ∈ wA := tw1 73 (by decide +kernel) (by decide +kernel)
theorem kf_X2_9 : Cond.fieldLink RX2 9 "StackMarks$Marks" "item" "[I" ∈ wA := tw1 75 (by decide +kernel) (by decide +kernel)
theorem kf_X2_15 : Cond.fieldLink RX2 15 "StackMarks$Marks" "kind" "[I" ∈ wA := tw1 77 (by decide +kernel) (by decide +kernel)
theorem kf_X2_18 : Cond.fieldLink RX2 18 "StackMarks$Marks" "width" "[I" ∈ wA := tw1 79 (by decide +kernel) (by decide +kernel)
theorem kf_X2_21 : Cond.fieldLink RX2 21 "StackMarks$Marks" "height" "[I" ∈ wA := tw1 81 (by decide +kernel) (by decide +kernel)
theorem kf_X2_24 : Cond.fieldLink RX2 24 "StackMarks$Marks" "gone" "[Z" ∈ wA := tw1 83 (by decide +kernel) (by decide +kernel)
theorem kf_X2_28 : Cond.fieldLink RX2 28 "StackMarks$Marks" "left" "[I" ∈ wA := tw1 85 (by decide +kernel) (by decide +kernel)
theorem kf_X2_31 : Cond.fieldLink RX2 31 "StackMarks$Marks" "side" "[I" ∈ wA := tw1 87 (by decide +kernel) (by decide +kernel)
theorem kf_X2_34 : Cond.fieldLink RX2 34 "StackMarks$Marks" "inner" "[I" ∈ wA := tw1 89 (by decide +kernel) (by decide +kernel)
theorem kf_X2_37 : Cond.fieldLink RX2 37 "StackMarks$Marks" "outer" "[I" ∈ wA := tw1 91 (by decide +kernel) (by decide +kernel)
theorem kf_X2_40 : Cond.fieldLink RX2 40 "StackMarks$Marks" "inRow" "[Z" ∈ wA := tw1 93 (by decide +kernel) (by decide +kernel)
theorem kf_X2_43 : Cond.fieldLink RX2 43 "StackMarks$Marks" "turn" "[I" ∈ wA := tw1 95 (by decide +kernel) (by decide +kernel)
theorem kf_X2_46 : Cond.fieldLink RX2 46 "StackMarks$Marks" "count" "I" ∈ wA := tw1 97 (by decide +kernel) (by decide +kernel)
theorem ki_X4_init : Cond.instanceMethod yX4_init ∈ wA := tw1 128 (by decide +kernel) (by decide +kernel)
theorem kc_X4_init : Cond.code yX4_init cX4_init 1 none ∈ wA := tw1 129 (by decide +kernel) (by decide +kernel)
theorem kf_X4_9 : Cond.fieldLink RX4 9 "StackMarks$Slurs" "from" "[I" ∈ wA := tw1 131 (by decide +kernel) (by decide +kernel)
theorem kf_X4_15 : Cond.fieldLink RX4 15 "StackMarks$Slurs" "to" "[I" ∈ wA := tw1 133 (by decide +kernel) (by decide +kernel)
theorem kf_X4_18 : Cond.fieldLink RX4 18 "StackMarks$Slurs" "side" "[I" ∈ wA := tw1 135 (by decide +kernel) (by decide +kernel)
theorem kf_X4_21 : Cond.fieldLink RX4 21 "StackMarks$Slurs" "thickness" "[I" ∈ wA := tw1 137 (by decide +kernel) (by decide +kernel)
theorem kf_X4_24 : Cond.fieldLink RX4 24 "StackMarks$Slurs" "inner" "[I" ∈ wA := tw1 139 (by decide +kernel) (by decide +kernel)
theorem kf_X4_27 : Cond.fieldLink RX4 27 "StackMarks$Slurs" "outer" "[I" ∈ wA := tw1 141 (by decide +kernel) (by decide +kernel)
theorem kf_X4_30 : Cond.fieldLink RX4 30 "StackMarks$Slurs" "count" "I" ∈ wA := tw1 143 (by decide +kernel) (by decide +kernel)
theorem ki_X3_init : Cond.instanceMethod yX3_init ∈ wA := tw1 163 (by decide +kernel) (by decide +kernel)
theorem kc_X3_init : Cond.code yX3_init cX3_init 1 none ∈ wA := tw1 164 (by decide +kernel) (by decide +kernel)
theorem kf_X3_11 : Cond.fieldLink RX3 11 "StackMarks$Outline" "first" "[I" ∈ wA := tw1 166 (by decide +kernel) (by decide +kernel)
theorem kf_X3_15 : Cond.fieldLink RX3 15 "StackMarks$Outline" "last" "[I" ∈ wA := tw1 167 (by decide +kernel) (by decide +kernel)
theorem kf_X3_18 : Cond.fieldLink RX3 18 "StackMarks$Outline" "height" "[I" ∈ wA := tw1 168 (by decide +kernel) (by decide +kernel)
theorem kf_X3_23 : Cond.fieldLink RX3 23 "StackMarks$Outline" "rowInner" "[I" ∈ wA := tw1 169 (by decide +kernel) (by decide +kernel)
theorem kf_X3_26 : Cond.fieldLink RX3 26 "StackMarks$Outline" "blocks" "I" ∈ wA := tw1 171 (by decide +kernel) (by decide +kernel)
theorem kf_X3_30 : Cond.fieldLink RX3 30 "StackMarks$Outline" "outermost" "I" ∈ wA := tw1 172 (by decide +kernel) (by decide +kernel)
theorem kf_X5_10 : Cond.fieldLink RX5 10 "StackMarks" "items" "LStackMarks$Items;" ∈ wA := tw1 187 (by decide +kernel) (by decide +kernel)
theorem kf_X5_19 : Cond.fieldLink RX5 19 "StackMarks" "kinds" "LStackMarks$Kinds;" ∈ wA := tw1 188 (by decide +kernel) (by decide +kernel)
theorem kf_X5_26 : Cond.fieldLink RX5 26 "StackMarks" "marks" "LStackMarks$Marks;" ∈ wA := tw1 189 (by decide +kernel) (by decide +kernel)
theorem kf_X5_33 : Cond.fieldLink RX5 33 "StackMarks" "slurs" "LStackMarks$Slurs;" ∈ wA := tw1 190 (by decide +kernel) (by decide +kernel)
theorem kf_X5_40 : Cond.fieldLink RX5 40 "StackMarks" "above" "LStackMarks$Outline;" ∈ wA := tw1 191 (by decide +kernel) (by decide +kernel)
theorem kf_X5_44 : Cond.fieldLink RX5 44 "StackMarks" "below" "LStackMarks$Outline;" ∈ wA := tw1 192 (by decide +kernel) (by decide +kernel)
theorem kf_X5_47 : Cond.fieldLink RX5 47 "StackMarks" "queue" "[I" ∈ wA := tw1 193 (by decide +kernel) (by decide +kernel)
theorem kf_X5_266 : Cond.fieldLink RX5 266 "StackMarks" "queued" "I" ∈ wA := tw1 194 (by decide +kernel) (by decide +kernel)
theorem kf_X5_287 : Cond.fieldLink RX5 287 "StackMarks" "turns" "I" ∈ wA := tw1 195 (by decide +kernel) (by decide +kernel)
theorem kf_X5_73 : Cond.fieldLink RX5 73 "StackMarks" "placed" "Z" ∈ wA := tw1 196 (by decide +kernel) (by decide +kernel)
theorem kl_L_39 : Cond.methodLink RL 39 yX5_note ∈ wA := tw1 218 (by decide +kernel) (by decide +kernel)
theorem ki_X5_note : Cond.instanceMethod yX5_note ∈ wA := tw1 219 (by decide +kernel) (by decide +kernel)
theorem ks_X5_note : Cond.selects RX5 yX5_note yX5_note ∈ wA := tw1 220 (by decide +kernel) (by decide +kernel)
theorem kc_X5_note : Cond.code yX5_note cX5_note 6 (some .int) ∈ wA := tw1 221 (by decide +kernel) (by decide +kernel)
theorem kl_X5_51 : Cond.methodLink RX5 51 yX5_isHead ∈ wA := tw1 222 (by decide +kernel) (by decide +kernel)
theorem kt_X5_isHead : Cond.static yX5_isHead ∈ wA := tw1 223 (by decide +kernel) (by decide +kernel)
theorem kc_X5_isHead : Cond.code yX5_isHead cX5_isHead 1 (some .boolean) ∈ wA := tw1 224 (by decide +kernel) (by decide +kernel)
theorem kl_X5_55 : Cond.methodLink RX5 55 yX5_isWithin ∈ wA := tw1 225 (by decide +kernel) (by decide +kernel)
theorem kt_X5_isWithin : Cond.static yX5_isWithin ∈ wA := tw1 226 (by decide +kernel) (by decide +kernel)
theorem kc_X5_isWithin : Cond.code yX5_isWithin cX5_isWithin 3 (some .boolean) ∈ wA := tw1 227 (by decide +kernel) (by decide +kernel)
theorem kk_X5_59 : Cond.constant RX5 59 (-100001) ∈ wA := tw1 228 (by decide +kernel) (by decide +kernel)
theorem kl_X5_60 : Cond.methodLink RX5 60 yX5_addItem ∈ wA := tw1 229 (by decide +kernel) (by decide +kernel)
theorem ki_X5_addItem : Cond.instanceMethod yX5_addItem ∈ wA := tw1 231 (by decide +kernel) (by decide +kernel)
theorem kc_X5_addItem : Cond.code yX5_addItem cX5_addItem 7 (some .int) ∈ wA := tw1 232 (by decide +kernel) (by decide +kernel)
theorem kk_X5_180 : Cond.constant RX5 180 (100000) ∈ wA := tw1 233 (by decide +kernel) (by decide +kernel)
theorem ki_X0_isAt : Cond.instanceMethod yX0_isAt ∈ wA := tw1 236 (by decide +kernel) (by decide +kernel)
theorem kc_X0_isAt : Cond.code yX0_isAt cX0_isAt 3 (some .boolean) ∈ wA := tw1 237 (by decide +kernel) (by decide +kernel)
theorem kk_X5_90 : Cond.constant RX5 90 (-100002) ∈ wA := tw1 238 (by decide +kernel) (by decide +kernel)
theorem ki_X0_add : Cond.instanceMethod yX0_add ∈ wA := tw2 1 (by decide +kernel) (by decide +kernel)
theorem kc_X0_add : Cond.code yX0_add cX0_add 8 (some .int) ∈ wA := tw2 2 (by decide +kernel) (by decide +kernel)
theorem kl_L_44 : Cond.methodLink RL 44 yX5_rest ∈ wA := tw2 3 (by decide +kernel) (by decide +kernel)
theorem ki_X5_rest : Cond.instanceMethod yX5_rest ∈ wA := tw2 4 (by decide +kernel) (by decide +kernel)
theorem ks_X5_rest : Cond.selects RX5 yX5_rest yX5_rest ∈ wA := tw2 5 (by decide +kernel) (by decide +kernel)
theorem kc_X5_rest : Cond.code yX5_rest cX5_rest 4 (some .int) ∈ wA := tw2 6 (by decide +kernel) (by decide +kernel)
theorem kl_L_48 : Cond.methodLink RL 48 yX5_lift ∈ wA := tw2 7 (by decide +kernel) (by decide +kernel)
theorem ki_X5_lift : Cond.instanceMethod yX5_lift ∈ wA := tw2 8 (by decide +kernel) (by decide +kernel)
theorem ks_X5_lift : Cond.selects RX5 yX5_lift yX5_lift ∈ wA := tw2 9 (by decide +kernel) (by decide +kernel)
theorem kc_X5_lift : Cond.code yX5_lift cX5_lift 3 (some .int) ∈ wA := tw2 10 (by decide +kernel) (by decide +kernel)
theorem ki_X0_has : Cond.instanceMethod yX0_has ∈ wA := tw2 13 (by decide +kernel) (by decide +kernel)
theorem kc_X0_has : Cond.code yX0_has cX0_has 2 (some .boolean) ∈ wA := tw2 14 (by decide +kernel) (by decide +kernel)
theorem kl_L_52 : Cond.methodLink RL 52 yX5_set ∈ wA := tw2 15 (by decide +kernel) (by decide +kernel)
theorem ki_X5_set : Cond.instanceMethod yX5_set ∈ wA := tw2 16 (by decide +kernel) (by decide +kernel)
theorem ks_X5_set : Cond.selects RX5 yX5_set yX5_set ∈ wA := tw2 17 (by decide +kernel) (by decide +kernel)
theorem kc_X5_set : Cond.code yX5_set cX5_set 4 (some .int) ∈ wA := tw2 18 (by decide +kernel) (by decide +kernel)
theorem ki_X1_has : Cond.instanceMethod yX1_has ∈ wA := tw2 21 (by decide +kernel) (by decide +kernel)
theorem kc_X1_has : Cond.code yX1_has cX1_has 2 (some .boolean) ∈ wA := tw2 22 (by decide +kernel) (by decide +kernel)
theorem ki_X1_takes : Cond.instanceMethod yX1_takes ∈ wA := tw2 25 (by decide +kernel) (by decide +kernel)
theorem kc_X1_takes : Cond.code yX1_takes cX1_takes 3 (some .boolean) ∈ wA := tw2 26 (by decide +kernel) (by decide +kernel)
theorem kf_X1_16 : Cond.fieldLink RX1 16 "StackMarks$Kinds" "MOST" "[I" ∈ wA := tw2 27 (by decide +kernel) (by decide +kernel)
theorem ki_X1_change : Cond.instanceMethod yX1_change ∈ wA := tw2 31 (by decide +kernel) (by decide +kernel)
theorem kc_X1_change : Cond.code yX1_change cX1_change 5 (some .int) ∈ wA := tw2 32 (by decide +kernel) (by decide +kernel)
theorem kl_X1_19 : Cond.methodLink RX1 19 yX1_get ∈ wA := tw2 33 (by decide +kernel) (by decide +kernel)
theorem ki_X1_get : Cond.instanceMethod yX1_get ∈ wA := tw2 35 (by decide +kernel) (by decide +kernel)
theorem kc_X1_get : Cond.code yX1_get cX1_get 3 (some .int) ∈ wA := tw2 36 (by decide +kernel) (by decide +kernel)
theorem kl_L_56 : Cond.methodLink RL 56 yX5_mark ∈ wA := tw2 37 (by decide +kernel) (by decide +kernel)
theorem ki_X5_mark : Cond.instanceMethod yX5_mark ∈ wA := tw2 38 (by decide +kernel) (by decide +kernel)
theorem ks_X5_mark : Cond.selects RX5 yX5_mark yX5_mark ∈ wA := tw2 39 (by decide +kernel) (by decide +kernel)
theorem kc_X5_mark : Cond.code yX5_mark cX5_mark 5 (some .int) ∈ wA := tw2 40 (by decide +kernel) (by decide +kernel)
theorem ki_X2_add : Cond.instanceMethod yX2_add ∈ wA := tw2 43 (by decide +kernel) (by decide +kernel)
theorem kc_X2_add : Cond.code yX2_add cX2_add 6 (some .int) ∈ wA := tw2 44 (by decide +kernel) (by decide +kernel)
theorem kl_L_61 : Cond.methodLink RL 61 yX5_drop ∈ wA := tw2 45 (by decide +kernel) (by decide +kernel)
theorem ki_X5_drop : Cond.instanceMethod yX5_drop ∈ wA := tw2 46 (by decide +kernel) (by decide +kernel)
theorem ks_X5_drop : Cond.selects RX5 yX5_drop yX5_drop ∈ wA := tw2 47 (by decide +kernel) (by decide +kernel)
theorem kc_X5_drop : Cond.code yX5_drop cX5_drop 2 (some .int) ∈ wA := tw2 48 (by decide +kernel) (by decide +kernel)
theorem ki_X2_has : Cond.instanceMethod yX2_has ∈ wA := tw2 51 (by decide +kernel) (by decide +kernel)
theorem kc_X2_has : Cond.code yX2_has cX2_has 2 (some .boolean) ∈ wA := tw2 52 (by decide +kernel) (by decide +kernel)
theorem kl_L_65 : Cond.methodLink RL 65 yX5_slur ∈ wA := tw2 53 (by decide +kernel) (by decide +kernel)
theorem ki_X5_slur : Cond.instanceMethod yX5_slur ∈ wA := tw2 54 (by decide +kernel) (by decide +kernel)
theorem ks_X5_slur : Cond.selects RX5 yX5_slur yX5_slur ∈ wA := tw2 55 (by decide +kernel) (by decide +kernel)
theorem kc_X5_slur : Cond.code yX5_slur cX5_slur 5 (some .int) ∈ wA := tw2 56 (by decide +kernel) (by decide +kernel)
theorem kl_X5_103 : Cond.methodLink RX5 103 yX5_isSide ∈ wA := tw2 57 (by decide +kernel) (by decide +kernel)
theorem kt_X5_isSide : Cond.static yX5_isSide ∈ wA := tw2 58 (by decide +kernel) (by decide +kernel)
theorem kc_X5_isSide : Cond.code yX5_isSide cX5_isSide 1 (some .boolean) ∈ wA := tw2 59 (by decide +kernel) (by decide +kernel)
theorem ki_X4_add : Cond.instanceMethod yX4_add ∈ wA := tw2 62 (by decide +kernel) (by decide +kernel)
theorem kc_X4_add : Cond.code yX4_add cX4_add 6 (some .int) ∈ wA := tw2 63 (by decide +kernel) (by decide +kernel)
theorem kl_L_69 : Cond.methodLink RL 69 yX5_place ∈ wA := tw2 64 (by decide +kernel) (by decide +kernel)
theorem ki_X5_place : Cond.instanceMethod yX5_place ∈ wA := tw2 65 (by decide +kernel) (by decide +kernel)
theorem ks_X5_place : Cond.selects RX5 yX5_place yX5_place ∈ wA := tw2 66 (by decide +kernel) (by decide +kernel)
theorem kc_X5_place : Cond.code yX5_place cX5_place 2 (some .int) ∈ wA := tw2 67 (by decide +kernel) (by decide +kernel)
theorem ki_X3_clear : Cond.instanceMethod yX3_clear ∈ wA := tw2 70 (by decide +kernel) (by decide +kernel)
theorem kc_X3_clear : Cond.code yX3_clear cX3_clear 2 none ∈ wA := tw2 71 (by decide +kernel) (by decide +kernel)
theorem kk_X3_33 : Cond.constant RX3 33 (-100003) ∈ wA := tw2 72 (by decide +kernel) (by decide +kernel)
theorem kl_X5_111 : Cond.methodLink RX5 111 yX5_coverItems ∈ wA := tw2 73 (by decide +kernel) (by decide +kernel)
theorem ki_X5_coverItems : Cond.instanceMethod yX5_coverItems ∈ wA := tw2 75 (by decide +kernel) (by decide +kernel)
theorem kc_X5_coverItems : Cond.code yX5_coverItems cX5_coverItems 2 none ∈ wA := tw2 76 (by decide +kernel) (by decide +kernel)
theorem kl_X5_238 : Cond.methodLink RX5 238 yX5_coverHeads ∈ wA := tw2 77 (by decide +kernel) (by decide +kernel)
theorem ki_X5_coverHeads : Cond.instanceMethod yX5_coverHeads ∈ wA := tw2 79 (by decide +kernel) (by decide +kernel)
theorem kc_X5_coverHeads : Cond.code yX5_coverHeads cX5_coverHeads 5 none ∈ wA := tw2 80 (by decide +kernel) (by decide +kernel)
theorem ki_X3_cover : Cond.instanceMethod yX3_cover ∈ wA := tw2 83 (by decide +kernel) (by decide +kernel)
theorem kc_X3_cover : Cond.code yX3_cover cX3_cover 4 none ∈ wA := tw2 84 (by decide +kernel) (by decide +kernel)
theorem kl_X5_242 : Cond.methodLink RX5 242 yX5_coverStem ∈ wA := tw2 85 (by decide +kernel) (by decide +kernel)
theorem ki_X5_coverStem : Cond.instanceMethod yX5_coverStem ∈ wA := tw2 87 (by decide +kernel) (by decide +kernel)
theorem kc_X5_coverStem : Cond.code yX5_coverStem cX5_coverStem 3 none ∈ wA := tw2 88 (by decide +kernel) (by decide +kernel)
theorem kl_X5_114 : Cond.methodLink RX5 114 yX5_laySlurs ∈ wA := tw2 89 (by decide +kernel) (by decide +kernel)
theorem ki_X5_laySlurs : Cond.instanceMethod yX5_laySlurs ∈ wA := tw2 91 (by decide +kernel) (by decide +kernel)
theorem kc_X5_laySlurs : Cond.code yX5_laySlurs cX5_laySlurs 7 none ∈ wA := tw2 92 (by decide +kernel) (by decide +kernel)
theorem kl_X5_153 : Cond.methodLink RX5 153 yX5_outline ∈ wA := tw2 93 (by decide +kernel) (by decide +kernel)
theorem ki_X5_outline : Cond.instanceMethod yX5_outline ∈ wA := tw2 95 (by decide +kernel) (by decide +kernel)
theorem kc_X5_outline : Cond.code yX5_outline cX5_outline 2 (some (.object "StackMarks$Outline")) ∈ wA := tw2 96 (by decide +kernel) (by decide +kernel)
theorem ki_X3_greatest : Cond.instanceMethod yX3_greatest ∈ wA := tw2 99 (by decide +kernel) (by decide +kernel)
theorem kc_X3_greatest : Cond.code yX3_greatest cX3_greatest 5 (some .int) ∈ wA := tw2 100 (by decide +kernel) (by decide +kernel)
theorem km_X3_34 : Cond.methodLink RX3 34 Lib.Math.max.name ∈ wA := tw2 101 (by decide +kernel) (by decide +kernel)
theorem km_s : Cond.static Lib.Math.max.name ∈ wA := tw2 102 (by decide +kernel) (by decide +kernel)
theorem km_c : Cond.code Lib.Math.max.name Lib.Math.max.code 2 (some .int) ∈ wA := tw2 103 (by decide +kernel) (by decide +kernel)
theorem ki_X3_reachOut : Cond.instanceMethod yX3_reachOut ∈ wA := tw2 106 (by decide +kernel) (by decide +kernel)
theorem kc_X3_reachOut : Cond.code yX3_reachOut cX3_reachOut 2 none ∈ wA := tw2 107 (by decide +kernel) (by decide +kernel)
theorem kl_X5_117 : Cond.methodLink RX5 117 yX5_queueMarks ∈ wA := tw2 108 (by decide +kernel) (by decide +kernel)
theorem ki_X5_queueMarks : Cond.instanceMethod yX5_queueMarks ∈ wA := tw2 110 (by decide +kernel) (by decide +kernel)
theorem kc_X5_queueMarks : Cond.code yX5_queueMarks cX5_queueMarks 3 none ∈ wA := tw2 111 (by decide +kernel) (by decide +kernel)
theorem ki_X0_haveBothVoices : Cond.instanceMethod yX0_haveBothVoices ∈ wA := tw2 114 (by decide +kernel) (by decide +kernel)
theorem kc_X0_haveBothVoices : Cond.code yX0_haveBothVoices cX0_haveBothVoices 3 (some .boolean) ∈ wA := tw2 115 (by decide +kernel) (by decide +kernel)
theorem kl_X5_269 : Cond.methodLink RX5 269 yX5_leftEdge ∈ wA := tw2 116 (by decide +kernel) (by decide +kernel)
theorem ki_X5_leftEdge : Cond.instanceMethod yX5_leftEdge ∈ wA := tw2 118 (by decide +kernel) (by decide +kernel)
theorem kc_X5_leftEdge : Cond.code yX5_leftEdge cX5_leftEdge 3 (some .int) ∈ wA := tw2 119 (by decide +kernel) (by decide +kernel)
theorem ki_X1_liesFromX : Cond.instanceMethod yX1_liesFromX ∈ wA := tw2 122 (by decide +kernel) (by decide +kernel)
theorem kc_X1_liesFromX : Cond.code yX1_liesFromX cX1_liesFromX 2 (some .boolean) ∈ wA := tw2 123 (by decide +kernel) (by decide +kernel)
theorem kl_X5_272 : Cond.methodLink RX5 272 yX5_chooseSide ∈ wA := tw2 124 (by decide +kernel) (by decide +kernel)
theorem ki_X5_chooseSide : Cond.instanceMethod yX5_chooseSide ∈ wA := tw2 126 (by decide +kernel) (by decide +kernel)
theorem kc_X5_chooseSide : Cond.code yX5_chooseSide cX5_chooseSide 6 (some .int) ∈ wA := tw2 127 (by decide +kernel) (by decide +kernel)
theorem kl_X5_276 : Cond.methodLink RX5 276 yX5_queueMark ∈ wA := tw2 129 (by decide +kernel) (by decide +kernel)
theorem ki_X5_queueMark : Cond.instanceMethod yX5_queueMark ∈ wA := tw2 131 (by decide +kernel) (by decide +kernel)
theorem kc_X5_queueMark : Cond.code yX5_queueMark cX5_queueMark 3 none ∈ wA := tw2 132 (by decide +kernel) (by decide +kernel)
theorem kl_X5_279 : Cond.methodLink RX5 279 yX5_rank ∈ wA := tw2 133 (by decide +kernel) (by decide +kernel)
theorem ki_X5_rank : Cond.instanceMethod yX5_rank ∈ wA := tw2 135 (by decide +kernel) (by decide +kernel)
theorem kc_X5_rank : Cond.code yX5_rank cX5_rank 2 (some .int) ∈ wA := tw2 136 (by decide +kernel) (by decide +kernel)
theorem ki_X1_rank : Cond.instanceMethod yX1_rank ∈ wA := tw2 139 (by decide +kernel) (by decide +kernel)
theorem kc_X1_rank : Cond.code yX1_rank cX1_rank 2 (some .int) ∈ wA := tw2 140 (by decide +kernel) (by decide +kernel)
theorem kk_X5_283 : Cond.constant RX5 283 (100001) ∈ wA := tw2 141 (by decide +kernel) (by decide +kernel)
theorem kl_X5_120 : Cond.methodLink RX5 120 yX5_layMarks ∈ wA := tw2 142 (by decide +kernel) (by decide +kernel)
theorem ki_X5_layMarks : Cond.instanceMethod yX5_layMarks ∈ wA := tw2 144 (by decide +kernel) (by decide +kernel)
theorem kc_X5_layMarks : Cond.code yX5_layMarks cX5_layMarks 5 (some .int) ∈ wA := tw2 145 (by decide +kernel) (by decide +kernel)
theorem ki_X1_isInRow : Cond.instanceMethod yX1_isInRow ∈ wA := tw2 148 (by decide +kernel) (by decide +kernel)
theorem kc_X1_isInRow : Cond.code yX1_isInRow cX1_isInRow 2 (some .boolean) ∈ wA := tw2 149 (by decide +kernel) (by decide +kernel)
theorem kl_X5_293 : Cond.methodLink RX5 293 yX5_innerAlone ∈ wA := tw2 150 (by decide +kernel) (by decide +kernel)
theorem ki_X5_innerAlone : Cond.instanceMethod yX5_innerAlone ∈ wA := tw2 152 (by decide +kernel) (by decide +kernel)
theorem kc_X5_innerAlone : Cond.code yX5_innerAlone cX5_innerAlone 3 (some .int) ∈ wA := tw2 153 (by decide +kernel) (by decide +kernel)
theorem ki_X2_behind : Cond.instanceMethod yX2_behind ∈ wA := tw2 156 (by decide +kernel) (by decide +kernel)
theorem kc_X2_behind : Cond.code yX2_behind cX2_behind 2 (some .int) ∈ wA := tw2 157 (by decide +kernel) (by decide +kernel)
theorem kl_X5_296 : Cond.methodLink RX5 296 yX5_layAt ∈ wA := tw2 158 (by decide +kernel) (by decide +kernel)
theorem ki_X5_layAt : Cond.instanceMethod yX5_layAt ∈ wA := tw2 160 (by decide +kernel) (by decide +kernel)
theorem kc_X5_layAt : Cond.code yX5_layAt cX5_layAt 5 none ∈ wA := tw2 161 (by decide +kernel) (by decide +kernel)
theorem kl_X5_299 : Cond.methodLink RX5 299 yX5_layRow ∈ wA := tw2 162 (by decide +kernel) (by decide +kernel)
theorem ki_X5_layRow : Cond.instanceMethod yX5_layRow ∈ wA := tw2 164 (by decide +kernel) (by decide +kernel)
theorem kc_X5_layRow : Cond.code yX5_layRow cX5_layRow 4 (some .int) ∈ wA := tw2 165 (by decide +kernel) (by decide +kernel)
theorem kl_X5_305 : Cond.methodLink RX5 305 yX5_fillRow ∈ wA := tw2 166 (by decide +kernel) (by decide +kernel)
theorem ki_X5_fillRow : Cond.instanceMethod yX5_fillRow ∈ wA := tw2 168 (by decide +kernel) (by decide +kernel)
theorem kc_X5_fillRow : Cond.code yX5_fillRow cX5_fillRow 6 (some .int) ∈ wA := tw2 169 (by decide +kernel) (by decide +kernel)
theorem kk_X5_170 : Cond.constant RX5 170 (-100003) ∈ wA := tw2 170 (by decide +kernel) (by decide +kernel)
theorem ki_X2_isOf : Cond.instanceMethod yX2_isOf ∈ wA := tw2 173 (by decide +kernel) (by decide +kernel)
theorem kc_X2_isOf : Cond.code yX2_isOf cX2_isOf 4 (some .boolean) ∈ wA := tw2 174 (by decide +kernel) (by decide +kernel)
theorem kl_X5_317 : Cond.methodLink RX5 317 yX5_isFreeInRow ∈ wA := tw2 175 (by decide +kernel) (by decide +kernel)
theorem ki_X5_isFreeInRow : Cond.instanceMethod yX5_isFreeInRow ∈ wA := tw2 177 (by decide +kernel) (by decide +kernel)
theorem kc_X5_isFreeInRow : Cond.code yX5_isFreeInRow cX5_isFreeInRow 6 (some .boolean) ∈ wA := tw2 178 (by decide +kernel) (by decide +kernel)
theorem ki_X2_shareX : Cond.instanceMethod yX2_shareX ∈ wA := tw2 181 (by decide +kernel) (by decide +kernel)
theorem kc_X2_shareX : Cond.code yX2_shareX cX2_shareX 3 (some .boolean) ∈ wA := tw2 182 (by decide +kernel) (by decide +kernel)
theorem kl_X2_50 : Cond.methodLink RX2 50 yX2_behind ∈ wA := tw2 183 (by decide +kernel) (by decide +kernel)
theorem km_X5_233 : Cond.methodLink RX5 233 Lib.Math.max.name ∈ wA := tw2 184 (by decide +kernel) (by decide +kernel)
theorem kl_X5_308 : Cond.methodLink RX5 308 yX5_layRowMarks ∈ wA := tw2 185 (by decide +kernel) (by decide +kernel)
theorem ki_X5_layRowMarks : Cond.instanceMethod yX5_layRowMarks ∈ wA := tw2 187 (by decide +kernel) (by decide +kernel)
theorem kc_X5_layRowMarks : Cond.code yX5_layRowMarks cX5_layRowMarks 6 none ∈ wA := tw2 188 (by decide +kernel) (by decide +kernel)
theorem kl_X5_311 : Cond.methodLink RX5 311 yX5_layLate ∈ wA := tw2 189 (by decide +kernel) (by decide +kernel)
theorem ki_X5_layLate : Cond.instanceMethod yX5_layLate ∈ wA := tw2 191 (by decide +kernel) (by decide +kernel)
theorem kc_X5_layLate : Cond.code yX5_layLate cX5_layLate 6 (some .int) ∈ wA := tw2 192 (by decide +kernel) (by decide +kernel)
theorem kl_L_99 : Cond.methodLink RL 99 yX5_wide ∈ wA := tw2 193 (by decide +kernel) (by decide +kernel)
theorem ki_X5_wide : Cond.instanceMethod yX5_wide ∈ wA := tw2 194 (by decide +kernel) (by decide +kernel)
theorem ks_X5_wide : Cond.selects RX5 yX5_wide yX5_wide ∈ wA := tw2 195 (by decide +kernel) (by decide +kernel)
theorem kc_X5_wide : Cond.code yX5_wide cX5_wide 2 (some .int) ∈ wA := tw2 196 (by decide +kernel) (by decide +kernel)
theorem kl_X5_174 : Cond.methodLink RX5 174 yX5_lackOf ∈ wA := tw2 197 (by decide +kernel) (by decide +kernel)
theorem ki_X5_lackOf : Cond.instanceMethod yX5_lackOf ∈ wA := tw2 199 (by decide +kernel) (by decide +kernel)
theorem kc_X5_lackOf : Cond.code yX5_lackOf cX5_lackOf 4 (some .int) ∈ wA := tw2 200 (by decide +kernel) (by decide +kernel)
theorem ki_X0_next : Cond.instanceMethod yX0_next ∈ wA := tw2 203 (by decide +kernel) (by decide +kernel)
theorem kc_X0_next : Cond.code yX0_next cX0_next 4 (some .int) ∈ wA := tw2 204 (by decide +kernel) (by decide +kernel)
theorem kl_L_103 : Cond.methodLink RL 103 yX5_push ∈ wA := tw2 205 (by decide +kernel) (by decide +kernel)
theorem ki_X5_push : Cond.instanceMethod yX5_push ∈ wA := tw2 206 (by decide +kernel) (by decide +kernel)
theorem ks_X5_push : Cond.selects RX5 yX5_push yX5_push ∈ wA := tw2 207 (by decide +kernel) (by decide +kernel)
theorem kc_X5_push : Cond.code yX5_push cX5_push 3 (some .int) ∈ wA := tw2 208 (by decide +kernel) (by decide +kernel)
theorem ki_X0_greatestX : Cond.instanceMethod yX0_greatestX ∈ wA := tw2 211 (by decide +kernel) (by decide +kernel)
theorem kc_X0_greatestX : Cond.code yX0_greatestX cX0_greatestX 3 (some .int) ∈ wA := tw2 212 (by decide +kernel) (by decide +kernel)
theorem km_X0_34 : Cond.methodLink RX0 34 Lib.Math.max.name ∈ wA := tw2 213 (by decide +kernel) (by decide +kernel)
theorem ki_X0_moveBehind : Cond.instanceMethod yX0_moveBehind ∈ wA := tw2 216 (by decide +kernel) (by decide +kernel)
theorem kc_X0_moveBehind : Cond.code yX0_moveBehind cX0_moveBehind 4 none ∈ wA := tw2 217 (by decide +kernel) (by decide +kernel)
theorem kl_L_107 : Cond.methodLink RL 107 yX5_item ∈ wA := tw2 218 (by decide +kernel) (by decide +kernel)
theorem ki_X5_item : Cond.instanceMethod yX5_item ∈ wA := tw2 219 (by decide +kernel) (by decide +kernel)
theorem ks_X5_item : Cond.selects RX5 yX5_item yX5_item ∈ wA := tw2 220 (by decide +kernel) (by decide +kernel)
theorem kc_X5_item : Cond.code yX5_item cX5_item 3 (some .int) ∈ wA := tw2 221 (by decide +kernel) (by decide +kernel)
theorem ki_X2_countAt : Cond.instanceMethod yX2_countAt ∈ wA := tw2 224 (by decide +kernel) (by decide +kernel)
theorem kc_X2_countAt : Cond.code yX2_countAt cX2_countAt 4 (some .int) ∈ wA := tw2 225 (by decide +kernel) (by decide +kernel)
theorem kl_L_74 : Cond.methodLink RL 74 yL_at ∈ wA := tw2 226 (by decide +kernel) (by decide +kernel)
theorem kt_L_at : Cond.static yL_at ∈ wA := tw2 227 (by decide +kernel) (by decide +kernel)
theorem kl_L_7 : Cond.methodLink RL 7 yX5_at ∈ wA := tw2 230 (by decide +kernel) (by decide +kernel)
theorem ki_X5_at : Cond.instanceMethod yX5_at ∈ wA := tw2 231 (by decide +kernel) (by decide +kernel)
theorem ks_X5_at : Cond.selects RX5 yX5_at yX5_at ∈ wA := tw2 232 (by decide +kernel) (by decide +kernel)
theorem kc_X5_at : Cond.code yX5_at cX5_at 3 (some .int) ∈ wA := tw2 233 (by decide +kernel) (by decide +kernel)
theorem kl_X5_124 : Cond.methodLink RX5 124 yX5_demandPlaces ∈ wA := tw2 234 (by decide +kernel) (by decide +kernel)
theorem ki_X5_demandPlaces : Cond.instanceMethod yX5_demandPlaces ∈ wA := tw2 236 (by decide +kernel) (by decide +kernel)
theorem kc_X5_demandPlaces : Cond.code yX5_demandPlaces cX5_demandPlaces 1 none ∈ wA := tw2 237 (by decide +kernel) (by decide +kernel)
theorem kl_L_83 : Cond.methodLink RL 83 yL_slurAt ∈ wA := tw3 64 (by decide +kernel) (by decide +kernel)
theorem kt_L_slurAt : Cond.static yL_slurAt ∈ wA := tw3 65 (by decide +kernel) (by decide +kernel)
theorem kl_L_15 : Cond.methodLink RL 15 yX5_slurAt ∈ wA := tw3 67 (by decide +kernel) (by decide +kernel)
theorem ki_X5_slurAt : Cond.instanceMethod yX5_slurAt ∈ wA := tw3 68 (by decide +kernel) (by decide +kernel)
theorem ks_X5_slurAt : Cond.selects RX5 yX5_slurAt yX5_slurAt ∈ wA := tw3 69 (by decide +kernel) (by decide +kernel)
theorem kc_X5_slurAt : Cond.code yX5_slurAt cX5_slurAt 3 (some .int) ∈ wA := tw3 70 (by decide +kernel) (by decide +kernel)
theorem ki_X4_has : Cond.instanceMethod yX4_has ∈ wA := tw3 73 (by decide +kernel) (by decide +kernel)
theorem kc_X4_has : Cond.code yX4_has cX4_has 2 (some .boolean) ∈ wA := tw3 74 (by decide +kernel) (by decide +kernel)
theorem kl_L_86 : Cond.methodLink RL 86 yL_skyline ∈ wA := tw3 75 (by decide +kernel) (by decide +kernel)
theorem kt_L_skyline : Cond.static yL_skyline ∈ wA := tw3 76 (by decide +kernel) (by decide +kernel)
theorem kl_L_18 : Cond.methodLink RL 18 yX5_skyline ∈ wA := tw3 78 (by decide +kernel) (by decide +kernel)
theorem ki_X5_skyline : Cond.instanceMethod yX5_skyline ∈ wA := tw3 79 (by decide +kernel) (by decide +kernel)
theorem ks_X5_skyline : Cond.selects RX5 yX5_skyline yX5_skyline ∈ wA := tw3 80 (by decide +kernel) (by decide +kernel)
theorem kc_X5_skyline : Cond.code yX5_skyline cX5_skyline 3 (some .int) ∈ wA := tw3 81 (by decide +kernel) (by decide +kernel)
theorem kk_X5_152 : Cond.constant RX5 152 (101000) ∈ wA := tw3 82 (by decide +kernel) (by decide +kernel)
theorem kl_L_89 : Cond.methodLink RL 89 yL_row ∈ wA := tw3 83 (by decide +kernel) (by decide +kernel)
theorem kt_L_row : Cond.static yL_row ∈ wA := tw3 84 (by decide +kernel) (by decide +kernel)
theorem kl_L_21 : Cond.methodLink RL 21 yX5_row ∈ wA := tw3 86 (by decide +kernel) (by decide +kernel)
theorem ki_X5_row : Cond.instanceMethod yX5_row ∈ wA := tw3 87 (by decide +kernel) (by decide +kernel)
theorem ks_X5_row : Cond.selects RX5 yX5_row yX5_row ∈ wA := tw3 88 (by decide +kernel) (by decide +kernel)
theorem kc_X5_row : Cond.code yX5_row cX5_row 3 (some .int) ∈ wA := tw3 89 (by decide +kernel) (by decide +kernel)
theorem kl_L_92 : Cond.methodLink RL 92 yL_order ∈ wA := tw3 90 (by decide +kernel) (by decide +kernel)
theorem kt_L_order : Cond.static yL_order ∈ wA := tw3 91 (by decide +kernel) (by decide +kernel)
theorem kl_L_24 : Cond.methodLink RL 24 yX5_order ∈ wA := tw3 93 (by decide +kernel) (by decide +kernel)
theorem ki_X5_order : Cond.instanceMethod yX5_order ∈ wA := tw3 94 (by decide +kernel) (by decide +kernel)
theorem ks_X5_order : Cond.selects RX5 yX5_order yX5_order ∈ wA := tw3 95 (by decide +kernel) (by decide +kernel)
theorem kc_X5_order : Cond.code yX5_order cX5_order 5 (some .int) ∈ wA := tw3 96 (by decide +kernel) (by decide +kernel)
theorem ki_X2_isOn : Cond.instanceMethod yX2_isOn ∈ wA := tw3 99 (by decide +kernel) (by decide +kernel)
theorem kc_X2_isOn : Cond.code yX2_isOn cX2_isOn 4 (some .boolean) ∈ wA := tw3 100 (by decide +kernel) (by decide +kernel)
theorem ki_X2_countNearer : Cond.instanceMethod yX2_countNearer ∈ wA := tw3 103 (by decide +kernel) (by decide +kernel)
theorem kc_X2_countNearer : Cond.code yX2_countNearer cX2_countNearer 5 (some .int) ∈ wA := tw3 104 (by decide +kernel) (by decide +kernel)
theorem kl_X2_54 : Cond.methodLink RX2 54 yX2_isOn ∈ wA := tw3 105 (by decide +kernel) (by decide +kernel)
theorem kl_L_96 : Cond.methodLink RL 96 yL_meets ∈ wA := tw3 106 (by decide +kernel) (by decide +kernel)
theorem kt_L_meets : Cond.static yL_meets ∈ wA := tw3 107 (by decide +kernel) (by decide +kernel)
theorem kl_L_28 : Cond.methodLink RL 28 yX5_meets ∈ wA := tw3 109 (by decide +kernel) (by decide +kernel)
theorem ki_X5_meets : Cond.instanceMethod yX5_meets ∈ wA := tw3 110 (by decide +kernel) (by decide +kernel)
theorem ks_X5_meets : Cond.selects RX5 yX5_meets yX5_meets ∈ wA := tw3 111 (by decide +kernel) (by decide +kernel)
theorem kc_X5_meets : Cond.code yX5_meets cX5_meets 4 (some .int) ∈ wA := tw3 112 (by decide +kernel) (by decide +kernel)
theorem kl_L_111 : Cond.methodLink RL 111 yL_count ∈ wA := tw3 113 (by decide +kernel) (by decide +kernel)
theorem kt_L_count : Cond.static yL_count ∈ wA := tw3 114 (by decide +kernel) (by decide +kernel)
theorem kl_L_31 : Cond.methodLink RL 31 yX5_count ∈ wA := tw3 116 (by decide +kernel) (by decide +kernel)
theorem ki_X5_count : Cond.instanceMethod yX5_count ∈ wA := tw3 117 (by decide +kernel) (by decide +kernel)
theorem ks_X5_count : Cond.selects RX5 yX5_count yX5_count ∈ wA := tw3 118 (by decide +kernel) (by decide +kernel)
theorem kc_X5_count : Cond.code yX5_count cX5_count 2 (some .int) ∈ wA := tw3 119 (by decide +kernel) (by decide +kernel)
theorem ki_X2_countThere : Cond.instanceMethod yX2_countThere ∈ wA := tw3 122 (by decide +kernel) (by decide +kernel)
theorem kc_X2_countThere : Cond.code yX2_countThere cX2_countThere 3 (some .int) ∈ wA := tw3 123 (by decide +kernel) (by decide +kernel)
theorem kl_X5_204 : Cond.methodLink RX5 204 yX5_outermost ∈ wA := tw3 124 (by decide +kernel) (by decide +kernel)
theorem ki_X5_outermost : Cond.instanceMethod yX5_outermost ∈ wA := tw3 126 (by decide +kernel) (by decide +kernel)
theorem kc_X5_outermost : Cond.code yX5_outermost cX5_outermost 2 (some .int) ∈ wA := tw3 127 (by decide +kernel) (by decide +kernel)
theorem kl_L_38 : Cond.methodLink RL 38 yX6_init ∈ wA := tw3 130 (by decide +kernel) (by decide +kernel)
theorem ki_X6_init : Cond.instanceMethod yX6_init ∈ wA := tw3 131 (by decide +kernel) (by decide +kernel)
theorem kc_X6_init : Cond.code yX6_init cX6_init 2 none ∈ wA := tw3 132 (by decide +kernel) (by decide +kernel)
theorem kf_X6_83 : Cond.fieldLink RX6 83 "StackMarksModel" "code" "I" ∈ wA := tw3 134 (by decide +kernel) (by decide +kernel)
theorem kf_X6_87 : Cond.fieldLink RX6 87 "StackMarksModel" "items" "I" ∈ wA := tw3 135 (by decide +kernel) (by decide +kernel)
theorem kf_X6_7 : Cond.fieldLink RX6 7 "StackMarksModel" "xs" "[I" ∈ wA := tw3 136 (by decide +kernel) (by decide +kernel)
theorem kf_X6_13 : Cond.fieldLink RX6 13 "StackMarksModel" "lows" "[I" ∈ wA := tw3 137 (by decide +kernel) (by decide +kernel)
theorem kf_X6_16 : Cond.fieldLink RX6 16 "StackMarksModel" "highs" "[I" ∈ wA := tw3 138 (by decide +kernel) (by decide +kernel)
theorem kf_X6_19 : Cond.fieldLink RX6 19 "StackMarksModel" "voices" "[I" ∈ wA := tw3 139 (by decide +kernel) (by decide +kernel)
theorem kf_X6_22 : Cond.fieldLink RX6 22 "StackMarksModel" "stems" "[I" ∈ wA := tw3 140 (by decide +kernel) (by decide +kernel)
theorem kf_X6_25 : Cond.fieldLink RX6 25 "StackMarksModel" "rests" "[Z" ∈ wA := tw3 141 (by decide +kernel) (by decide +kernel)
theorem kf_X6_29 : Cond.fieldLink RX6 29 "StackMarksModel" "kinds" "[I" ∈ wA := tw3 142 (by decide +kernel) (by decide +kernel)
theorem kf_X6_90 : Cond.fieldLink RX6 90 "StackMarksModel" "marks" "I" ∈ wA := tw3 143 (by decide +kernel) (by decide +kernel)
theorem kf_X6_32 : Cond.fieldLink RX6 32 "StackMarksModel" "ofItem" "[I" ∈ wA := tw3 144 (by decide +kernel) (by decide +kernel)
theorem kf_X6_35 : Cond.fieldLink RX6 35 "StackMarksModel" "ofKind" "[I" ∈ wA := tw3 145 (by decide +kernel) (by decide +kernel)
theorem kf_X6_38 : Cond.fieldLink RX6 38 "StackMarksModel" "wides" "[I" ∈ wA := tw3 146 (by decide +kernel) (by decide +kernel)
theorem kf_X6_41 : Cond.fieldLink RX6 41 "StackMarksModel" "tall" "[I" ∈ wA := tw3 147 (by decide +kernel) (by decide +kernel)
theorem kf_X6_44 : Cond.fieldLink RX6 44 "StackMarksModel" "gone" "[Z" ∈ wA := tw3 148 (by decide +kernel) (by decide +kernel)
theorem kf_X6_47 : Cond.fieldLink RX6 47 "StackMarksModel" "laid" "[Z" ∈ wA := tw3 149 (by decide +kernel) (by decide +kernel)
theorem kf_X6_50 : Cond.fieldLink RX6 50 "StackMarksModel" "inners" "[I" ∈ wA := tw3 150 (by decide +kernel) (by decide +kernel)
theorem kf_X6_53 : Cond.fieldLink RX6 53 "StackMarksModel" "inRow" "[Z" ∈ wA := tw3 151 (by decide +kernel) (by decide +kernel)
theorem kf_X6_56 : Cond.fieldLink RX6 56 "StackMarksModel" "turns" "[I" ∈ wA := tw3 152 (by decide +kernel) (by decide +kernel)
theorem kf_X6_149 : Cond.fieldLink RX6 149 "StackMarksModel" "turn" "I" ∈ wA := tw3 153 (by decide +kernel) (by decide +kernel)
theorem kf_X6_125 : Cond.fieldLink RX6 125 "StackMarksModel" "slurs" "I" ∈ wA := tw3 154 (by decide +kernel) (by decide +kernel)
theorem kf_X6_59 : Cond.fieldLink RX6 59 "StackMarksModel" "begins" "[I" ∈ wA := tw3 155 (by decide +kernel) (by decide +kernel)
theorem kf_X6_62 : Cond.fieldLink RX6 62 "StackMarksModel" "ends" "[I" ∈ wA := tw3 156 (by decide +kernel) (by decide +kernel)
theorem kf_X6_65 : Cond.fieldLink RX6 65 "StackMarksModel" "slurSides" "[I" ∈ wA := tw3 157 (by decide +kernel) (by decide +kernel)
theorem kf_X6_68 : Cond.fieldLink RX6 68 "StackMarksModel" "thick" "[I" ∈ wA := tw3 158 (by decide +kernel) (by decide +kernel)
theorem kf_X6_71 : Cond.fieldLink RX6 71 "StackMarksModel" "slurInner" "[I" ∈ wA := tw3 159 (by decide +kernel) (by decide +kernel)
theorem kf_X6_136 : Cond.fieldLink RX6 136 "StackMarksModel" "slursLaid" "I" ∈ wA := tw3 160 (by decide +kernel) (by decide +kernel)
theorem kf_X6_74 : Cond.fieldLink RX6 74 "StackMarksModel" "hasRow" "[Z" ∈ wA := tw3 161 (by decide +kernel) (by decide +kernel)
theorem kf_X6_77 : Cond.fieldLink RX6 77 "StackMarksModel" "rowInner" "[I" ∈ wA := tw3 162 (by decide +kernel) (by decide +kernel)
theorem kf_X6_94 : Cond.fieldLink RX6 94 "StackMarksModel" "isPlaced" "Z" ∈ wA := tw3 163 (by decide +kernel) (by decide +kernel)
theorem kf_X6_80 : Cond.fieldLink RX6 80 "StackMarksModel" "list" "[I" ∈ wA := tw3 164 (by decide +kernel) (by decide +kernel)
theorem kl_L_80 : Cond.methodLink RL 80 yX6_thrown ∈ wA := tw3 228 (by decide +kernel) (by decide +kernel)
theorem ki_X6_thrown : Cond.instanceMethod yX6_thrown ∈ wA := tw3 229 (by decide +kernel) (by decide +kernel)
theorem ks_X6_thrown : Cond.selects RX6 yX6_thrown yX6_thrown ∈ wA := tw3 230 (by decide +kernel) (by decide +kernel)
theorem kc_X6_thrown : Cond.code yX6_thrown cX6_thrown 1 (some .int) ∈ wA := tw3 231 (by decide +kernel) (by decide +kernel)
theorem kl_L_43 : Cond.methodLink RL 43 yX6_note ∈ wA := tw3 232 (by decide +kernel) (by decide +kernel)
theorem ki_X6_note : Cond.instanceMethod yX6_note ∈ wA := tw3 233 (by decide +kernel) (by decide +kernel)
theorem ks_X6_note : Cond.selects RX6 yX6_note yX6_note ∈ wA := tw3 234 (by decide +kernel) (by decide +kernel)
theorem kc_X6_note : Cond.code yX6_note cX6_note 6 (some .int) ∈ wA := tw3 235 (by decide +kernel) (by decide +kernel)
theorem kk_X6_98 : Cond.constant RX6 98 (100000) ∈ wA := tw3 236 (by decide +kernel) (by decide +kernel)
theorem kl_X6_99 : Cond.methodLink RX6 99 yX6_in ∈ wA := tw3 237 (by decide +kernel) (by decide +kernel)
theorem kt_X6_in : Cond.static yX6_in ∈ wA := tw3 238 (by decide +kernel) (by decide +kernel)
theorem kc_X6_in : Cond.code yX6_in cX6_in 3 (some .boolean) ∈ wA := tw3 239 (by decide +kernel) (by decide +kernel)
theorem kl_X6_103 : Cond.methodLink RX6 103 yX6_isTaken ∈ wA := tw4 0 (by decide +kernel) (by decide +kernel)
theorem ki_X6_isTaken : Cond.instanceMethod yX6_isTaken ∈ wA := tw4 2 (by decide +kernel) (by decide +kernel)
theorem kc_X6_isTaken : Cond.code yX6_isTaken cX6_isTaken 3 (some .boolean) ∈ wA := tw4 3 (by decide +kernel) (by decide +kernel)
theorem kk_X6_107 : Cond.constant RX6 107 (-100001) ∈ wA := tw4 4 (by decide +kernel) (by decide +kernel)
theorem kl_X6_108 : Cond.methodLink RX6 108 yX6_come ∈ wA := tw4 5 (by decide +kernel) (by decide +kernel)
theorem ki_X6_come : Cond.instanceMethod yX6_come ∈ wA := tw4 7 (by decide +kernel) (by decide +kernel)
theorem kc_X6_come : Cond.code yX6_come cX6_come 7 (some .int) ∈ wA := tw4 8 (by decide +kernel) (by decide +kernel)
theorem kk_X6_93 : Cond.constant RX6 93 (-100002) ∈ wA := tw4 9 (by decide +kernel) (by decide +kernel)
theorem kl_L_47 : Cond.methodLink RL 47 yX6_rest ∈ wA := tw4 10 (by decide +kernel) (by decide +kernel)
theorem ki_X6_rest : Cond.instanceMethod yX6_rest ∈ wA := tw4 11 (by decide +kernel) (by decide +kernel)
theorem ks_X6_rest : Cond.selects RX6 yX6_rest yX6_rest ∈ wA := tw4 12 (by decide +kernel) (by decide +kernel)
theorem kc_X6_rest : Cond.code yX6_rest cX6_rest 4 (some .int) ∈ wA := tw4 13 (by decide +kernel) (by decide +kernel)
theorem kl_L_51 : Cond.methodLink RL 51 yX6_lift ∈ wA := tw4 14 (by decide +kernel) (by decide +kernel)
theorem ki_X6_lift : Cond.instanceMethod yX6_lift ∈ wA := tw4 15 (by decide +kernel) (by decide +kernel)
theorem ks_X6_lift : Cond.selects RX6 yX6_lift yX6_lift ∈ wA := tw4 16 (by decide +kernel) (by decide +kernel)
theorem kc_X6_lift : Cond.code yX6_lift cX6_lift 3 (some .int) ∈ wA := tw4 17 (by decide +kernel) (by decide +kernel)
theorem kl_X6_112 : Cond.methodLink RX6 112 yX6_isItem ∈ wA := tw4 18 (by decide +kernel) (by decide +kernel)
theorem ki_X6_isItem : Cond.instanceMethod yX6_isItem ∈ wA := tw4 20 (by decide +kernel) (by decide +kernel)
theorem kc_X6_isItem : Cond.code yX6_isItem cX6_isItem 2 (some .boolean) ∈ wA := tw4 21 (by decide +kernel) (by decide +kernel)
theorem kl_L_55 : Cond.methodLink RL 55 yX6_set ∈ wA := tw4 22 (by decide +kernel) (by decide +kernel)
theorem ki_X6_set : Cond.instanceMethod yX6_set ∈ wA := tw4 23 (by decide +kernel) (by decide +kernel)
theorem ks_X6_set : Cond.selects RX6 yX6_set yX6_set ∈ wA := tw4 24 (by decide +kernel) (by decide +kernel)
theorem kc_X6_set : Cond.code yX6_set cX6_set 5 (some .int) ∈ wA := tw4 25 (by decide +kernel) (by decide +kernel)
theorem kl_X6_115 : Cond.methodLink RX6 115 yX6_most ∈ wA := tw4 26 (by decide +kernel) (by decide +kernel)
theorem kt_X6_most : Cond.static yX6_most ∈ wA := tw4 27 (by decide +kernel) (by decide +kernel)
theorem kc_X6_most : Cond.code yX6_most cX6_most 1 (some .int) ∈ wA := tw4 28 (by decide +kernel) (by decide +kernel)
theorem kl_L_60 : Cond.methodLink RL 60 yX6_mark ∈ wA := tw4 29 (by decide +kernel) (by decide +kernel)
theorem ki_X6_mark : Cond.instanceMethod yX6_mark ∈ wA := tw4 30 (by decide +kernel) (by decide +kernel)
theorem ks_X6_mark : Cond.selects RX6 yX6_mark yX6_mark ∈ wA := tw4 31 (by decide +kernel) (by decide +kernel)
theorem kc_X6_mark : Cond.code yX6_mark cX6_mark 5 (some .int) ∈ wA := tw4 32 (by decide +kernel) (by decide +kernel)
theorem kl_L_64 : Cond.methodLink RL 64 yX6_drop ∈ wA := tw4 33 (by decide +kernel) (by decide +kernel)
theorem ki_X6_drop : Cond.instanceMethod yX6_drop ∈ wA := tw4 34 (by decide +kernel) (by decide +kernel)
theorem ks_X6_drop : Cond.selects RX6 yX6_drop yX6_drop ∈ wA := tw4 35 (by decide +kernel) (by decide +kernel)
theorem kc_X6_drop : Cond.code yX6_drop cX6_drop 2 (some .int) ∈ wA := tw4 36 (by decide +kernel) (by decide +kernel)
theorem kl_X6_119 : Cond.methodLink RX6 119 yX6_isMark ∈ wA := tw4 37 (by decide +kernel) (by decide +kernel)
theorem ki_X6_isMark : Cond.instanceMethod yX6_isMark ∈ wA := tw4 39 (by decide +kernel) (by decide +kernel)
theorem kc_X6_isMark : Cond.code yX6_isMark cX6_isMark 2 (some .boolean) ∈ wA := tw4 40 (by decide +kernel) (by decide +kernel)
theorem kl_L_68 : Cond.methodLink RL 68 yX6_slur ∈ wA := tw4 41 (by decide +kernel) (by decide +kernel)
theorem ki_X6_slur : Cond.instanceMethod yX6_slur ∈ wA := tw4 42 (by decide +kernel) (by decide +kernel)
theorem ks_X6_slur : Cond.selects RX6 yX6_slur yX6_slur ∈ wA := tw4 43 (by decide +kernel) (by decide +kernel)
theorem kc_X6_slur : Cond.code yX6_slur cX6_slur 5 (some .int) ∈ wA := tw4 44 (by decide +kernel) (by decide +kernel)
theorem kl_X6_122 : Cond.methodLink RX6 122 yX6_isSide ∈ wA := tw4 45 (by decide +kernel) (by decide +kernel)
theorem kt_X6_isSide : Cond.static yX6_isSide ∈ wA := tw4 46 (by decide +kernel) (by decide +kernel)
theorem kc_X6_isSide : Cond.code yX6_isSide cX6_isSide 1 (some .boolean) ∈ wA := tw4 47 (by decide +kernel) (by decide +kernel)
theorem kl_L_73 : Cond.methodLink RL 73 yX6_place ∈ wA := tw4 48 (by decide +kernel) (by decide +kernel)
theorem ki_X6_place : Cond.instanceMethod yX6_place ∈ wA := tw4 49 (by decide +kernel) (by decide +kernel)
theorem ks_X6_place : Cond.selects RX6 yX6_place yX6_place ∈ wA := tw4 50 (by decide +kernel) (by decide +kernel)
theorem kc_X6_place : Cond.code yX6_place cX6_place 5 (some .int) ∈ wA := tw4 51 (by decide +kernel) (by decide +kernel)
theorem kl_X6_145 : Cond.methodLink RX6 145 yX6_greatest ∈ wA := tw4 52 (by decide +kernel) (by decide +kernel)
theorem ki_X6_greatest : Cond.instanceMethod yX6_greatest ∈ wA := tw4 54 (by decide +kernel) (by decide +kernel)
theorem kc_X6_greatest : Cond.code yX6_greatest cX6_greatest 8 (some .int) ∈ wA := tw4 55 (by decide +kernel) (by decide +kernel)
theorem kl_X6_132 : Cond.methodLink RX6 132 yX6_above ∈ wA := tw4 56 (by decide +kernel) (by decide +kernel)
theorem kt_X6_above : Cond.static yX6_above ∈ wA := tw4 57 (by decide +kernel) (by decide +kernel)
theorem kc_X6_above : Cond.code yX6_above cX6_above 6 (some .int) ∈ wA := tw4 58 (by decide +kernel) (by decide +kernel)
theorem kl_X6_139 : Cond.methodLink RX6 139 yX6_sideOf ∈ wA := tw4 59 (by decide +kernel) (by decide +kernel)
theorem ki_X6_sideOf : Cond.instanceMethod yX6_sideOf ∈ wA := tw4 61 (by decide +kernel) (by decide +kernel)
theorem kc_X6_sideOf : Cond.code yX6_sideOf cX6_sideOf 6 (some .int) ∈ wA := tw4 62 (by decide +kernel) (by decide +kernel)
theorem kl_X6_128 : Cond.methodLink RX6 128 yX6_areBoth ∈ wA := tw4 63 (by decide +kernel) (by decide +kernel)
theorem ki_X6_areBoth : Cond.instanceMethod yX6_areBoth ∈ wA := tw4 65 (by decide +kernel) (by decide +kernel)
theorem kc_X6_areBoth : Cond.code yX6_areBoth cX6_areBoth 4 (some .boolean) ∈ wA := tw4 66 (by decide +kernel) (by decide +kernel)
theorem kl_X6_142 : Cond.methodLink RX6 142 yX6_left ∈ wA := tw4 67 (by decide +kernel) (by decide +kernel)
theorem ki_X6_left : Cond.instanceMethod yX6_left ∈ wA := tw4 69 (by decide +kernel) (by decide +kernel)
theorem kc_X6_left : Cond.code yX6_left cX6_left 3 (some .int) ∈ wA := tw4 70 (by decide +kernel) (by decide +kernel)
theorem kk_X6_170 : Cond.constant RX6 170 (-100003) ∈ wA := tw4 71 (by decide +kernel) (by decide +kernel)
theorem kl_X6_152 : Cond.methodLink RX6 152 yX6_isAhead ∈ wA := tw4 72 (by decide +kernel) (by decide +kernel)
theorem ki_X6_isAhead : Cond.instanceMethod yX6_isAhead ∈ wA := tw4 74 (by decide +kernel) (by decide +kernel)
theorem kc_X6_isAhead : Cond.code yX6_isAhead cX6_isAhead 7 (some .boolean) ∈ wA := tw4 75 (by decide +kernel) (by decide +kernel)
theorem kl_X6_171 : Cond.methodLink RX6 171 yX6_lieRow ∈ wA := tw4 76 (by decide +kernel) (by decide +kernel)
theorem ki_X6_lieRow : Cond.instanceMethod yX6_lieRow ∈ wA := tw4 78 (by decide +kernel) (by decide +kernel)
theorem kc_X6_lieRow : Cond.code yX6_lieRow cX6_lieRow 8 (some .int) ∈ wA := tw4 79 (by decide +kernel) (by decide +kernel)
theorem kl_X6_156 : Cond.methodLink RX6 156 yX6_gather ∈ wA := tw4 80 (by decide +kernel) (by decide +kernel)
theorem ki_X6_gather : Cond.instanceMethod yX6_gather ∈ wA := tw4 82 (by decide +kernel) (by decide +kernel)
theorem kc_X6_gather : Cond.code yX6_gather cX6_gather 6 (some .int) ∈ wA := tw4 83 (by decide +kernel) (by decide +kernel)
theorem kl_X6_160 : Cond.methodLink RX6 160 yX6_cover ∈ wA := tw4 84 (by decide +kernel) (by decide +kernel)
theorem ki_X6_cover : Cond.instanceMethod yX6_cover ∈ wA := tw4 86 (by decide +kernel) (by decide +kernel)
theorem kc_X6_cover : Cond.code yX6_cover cX6_cover 3 (some .boolean) ∈ wA := tw4 87 (by decide +kernel) (by decide +kernel)
theorem kl_X6_163 : Cond.methodLink RX6 163 yX6_own ∈ wA := tw4 88 (by decide +kernel) (by decide +kernel)
theorem ki_X6_own : Cond.instanceMethod yX6_own ∈ wA := tw4 90 (by decide +kernel) (by decide +kernel)
theorem kc_X6_own : Cond.code yX6_own cX6_own 2 (some .int) ∈ wA := tw4 91 (by decide +kernel) (by decide +kernel)
theorem kl_X6_166 : Cond.methodLink RX6 166 yX6_lie ∈ wA := tw4 92 (by decide +kernel) (by decide +kernel)
theorem ki_X6_lie : Cond.instanceMethod yX6_lie ∈ wA := tw4 94 (by decide +kernel) (by decide +kernel)
theorem kc_X6_lie : Cond.code yX6_lie cX6_lie 4 none ∈ wA := tw4 95 (by decide +kernel) (by decide +kernel)
theorem kl_L_79 : Cond.methodLink RL 79 yX6_at ∈ wA := tw4 96 (by decide +kernel) (by decide +kernel)
theorem ki_X6_at : Cond.instanceMethod yX6_at ∈ wA := tw4 97 (by decide +kernel) (by decide +kernel)
theorem ks_X6_at : Cond.selects RX6 yX6_at yX6_at ∈ wA := tw4 98 (by decide +kernel) (by decide +kernel)
theorem kc_X6_at : Cond.code yX6_at cX6_at 3 (some .int) ∈ wA := tw4 99 (by decide +kernel) (by decide +kernel)
theorem kl_X6_174 : Cond.methodLink RX6 174 yX6_throwsNow ∈ wA := tw4 100 (by decide +kernel) (by decide +kernel)
theorem ki_X6_throwsNow : Cond.instanceMethod yX6_throwsNow ∈ wA := tw4 102 (by decide +kernel) (by decide +kernel)
theorem kc_X6_throwsNow : Cond.code yX6_throwsNow cX6_throwsNow 1 (some .boolean) ∈ wA := tw4 103 (by decide +kernel) (by decide +kernel)
theorem kl_L_85 : Cond.methodLink RL 85 yX6_slurAt ∈ wA := tw4 104 (by decide +kernel) (by decide +kernel)
theorem ki_X6_slurAt : Cond.instanceMethod yX6_slurAt ∈ wA := tw4 105 (by decide +kernel) (by decide +kernel)
theorem ks_X6_slurAt : Cond.selects RX6 yX6_slurAt yX6_slurAt ∈ wA := tw4 106 (by decide +kernel) (by decide +kernel)
theorem kc_X6_slurAt : Cond.code yX6_slurAt cX6_slurAt 3 (some .int) ∈ wA := tw4 107 (by decide +kernel) (by decide +kernel)
theorem kl_L_88 : Cond.methodLink RL 88 yX6_skyline ∈ wA := tw4 108 (by decide +kernel) (by decide +kernel)
theorem ki_X6_skyline : Cond.instanceMethod yX6_skyline ∈ wA := tw4 109 (by decide +kernel) (by decide +kernel)
theorem ks_X6_skyline : Cond.selects RX6 yX6_skyline yX6_skyline ∈ wA := tw4 110 (by decide +kernel) (by decide +kernel)
theorem kc_X6_skyline : Cond.code yX6_skyline cX6_skyline 3 (some .int) ∈ wA := tw4 111 (by decide +kernel) (by decide +kernel)
theorem kk_X6_177 : Cond.constant RX6 177 (101000) ∈ wA := tw4 112 (by decide +kernel) (by decide +kernel)
theorem kl_L_91 : Cond.methodLink RL 91 yX6_row ∈ wA := tw4 113 (by decide +kernel) (by decide +kernel)
theorem ki_X6_row : Cond.instanceMethod yX6_row ∈ wA := tw4 114 (by decide +kernel) (by decide +kernel)
theorem ks_X6_row : Cond.selects RX6 yX6_row yX6_row ∈ wA := tw4 115 (by decide +kernel) (by decide +kernel)
theorem kc_X6_row : Cond.code yX6_row cX6_row 4 (some .int) ∈ wA := tw4 116 (by decide +kernel) (by decide +kernel)
theorem kl_L_95 : Cond.methodLink RL 95 yX6_order ∈ wA := tw4 117 (by decide +kernel) (by decide +kernel)
theorem ki_X6_order : Cond.instanceMethod yX6_order ∈ wA := tw4 118 (by decide +kernel) (by decide +kernel)
theorem ks_X6_order : Cond.selects RX6 yX6_order yX6_order ∈ wA := tw4 119 (by decide +kernel) (by decide +kernel)
theorem kc_X6_order : Cond.code yX6_order cX6_order 8 (some .int) ∈ wA := tw4 120 (by decide +kernel) (by decide +kernel)
theorem kl_L_98 : Cond.methodLink RL 98 yX6_meets ∈ wA := tw4 121 (by decide +kernel) (by decide +kernel)
theorem ki_X6_meets : Cond.instanceMethod yX6_meets ∈ wA := tw4 122 (by decide +kernel) (by decide +kernel)
theorem ks_X6_meets : Cond.selects RX6 yX6_meets yX6_meets ∈ wA := tw4 123 (by decide +kernel) (by decide +kernel)
theorem kc_X6_meets : Cond.code yX6_meets cX6_meets 4 (some .int) ∈ wA := tw4 124 (by decide +kernel) (by decide +kernel)
theorem kl_L_102 : Cond.methodLink RL 102 yX6_wide ∈ wA := tw4 125 (by decide +kernel) (by decide +kernel)
theorem ki_X6_wide : Cond.instanceMethod yX6_wide ∈ wA := tw4 126 (by decide +kernel) (by decide +kernel)
theorem ks_X6_wide : Cond.selects RX6 yX6_wide yX6_wide ∈ wA := tw4 127 (by decide +kernel) (by decide +kernel)
theorem kc_X6_wide : Cond.code yX6_wide cX6_wide 2 (some .int) ∈ wA := tw4 128 (by decide +kernel) (by decide +kernel)
theorem kl_X6_181 : Cond.methodLink RX6 181 yX6_lacks ∈ wA := tw4 129 (by decide +kernel) (by decide +kernel)
theorem ki_X6_lacks : Cond.instanceMethod yX6_lacks ∈ wA := tw4 131 (by decide +kernel) (by decide +kernel)
theorem kc_X6_lacks : Cond.code yX6_lacks cX6_lacks 4 (some .int) ∈ wA := tw4 132 (by decide +kernel) (by decide +kernel)
theorem kl_X6_178 : Cond.methodLink RX6 178 yX6_nextOf ∈ wA := tw4 133 (by decide +kernel) (by decide +kernel)
theorem ki_X6_nextOf : Cond.instanceMethod yX6_nextOf ∈ wA := tw4 135 (by decide +kernel) (by decide +kernel)
theorem kc_X6_nextOf : Cond.code yX6_nextOf cX6_nextOf 4 (some .int) ∈ wA := tw4 136 (by decide +kernel) (by decide +kernel)
theorem kl_L_106 : Cond.methodLink RL 106 yX6_push ∈ wA := tw4 137 (by decide +kernel) (by decide +kernel)
theorem ki_X6_push : Cond.instanceMethod yX6_push ∈ wA := tw4 138 (by decide +kernel) (by decide +kernel)
theorem ks_X6_push : Cond.selects RX6 yX6_push yX6_push ∈ wA := tw4 139 (by decide +kernel) (by decide +kernel)
theorem kc_X6_push : Cond.code yX6_push cX6_push 5 (some .int) ∈ wA := tw4 140 (by decide +kernel) (by decide +kernel)
theorem kl_L_110 : Cond.methodLink RL 110 yX6_item ∈ wA := tw4 141 (by decide +kernel) (by decide +kernel)
theorem ki_X6_item : Cond.instanceMethod yX6_item ∈ wA := tw4 142 (by decide +kernel) (by decide +kernel)
theorem ks_X6_item : Cond.selects RX6 yX6_item yX6_item ∈ wA := tw4 143 (by decide +kernel) (by decide +kernel)
theorem kc_X6_item : Cond.code yX6_item cX6_item 3 (some .int) ∈ wA := tw4 144 (by decide +kernel) (by decide +kernel)
theorem kl_X6_184 : Cond.methodLink RX6 184 yX6_marksOf ∈ wA := tw4 145 (by decide +kernel) (by decide +kernel)
theorem ki_X6_marksOf : Cond.instanceMethod yX6_marksOf ∈ wA := tw4 147 (by decide +kernel) (by decide +kernel)
theorem kc_X6_marksOf : Cond.code yX6_marksOf cX6_marksOf 4 (some .int) ∈ wA := tw4 148 (by decide +kernel) (by decide +kernel)
theorem kl_L_114 : Cond.methodLink RL 114 yX6_count ∈ wA := tw4 149 (by decide +kernel) (by decide +kernel)
theorem ki_X6_count : Cond.instanceMethod yX6_count ∈ wA := tw4 150 (by decide +kernel) (by decide +kernel)
theorem ks_X6_count : Cond.selects RX6 yX6_count yX6_count ∈ wA := tw4 151 (by decide +kernel) (by decide +kernel)
theorem kc_X6_count : Cond.code yX6_count cX6_count 2 (some .int) ∈ wA := tw4 152 (by decide +kernel) (by decide +kernel)
theorem kl_X6_187 : Cond.methodLink RX6 187 yX6_outermost ∈ wA := tw4 153 (by decide +kernel) (by decide +kernel)
theorem ki_X6_outermost : Cond.instanceMethod yX6_outermost ∈ wA := tw4 155 (by decide +kernel) (by decide +kernel)
theorem kc_X6_outermost : Cond.code yX6_outermost cX6_outermost 5 (some .int) ∈ wA := tw4 156 (by decide +kernel) (by decide +kernel)
theorem ks_X5_addItem : Cond.selects RX5 yX5_addItem yX5_addItem ∈ wA := twp 0 (by decide +kernel) (by decide +kernel)
theorem ks_X0_isAt : Cond.selects RX0 yX0_isAt yX0_isAt ∈ wA := twp 1 (by decide +kernel) (by decide +kernel)
theorem ks_X0_add : Cond.selects RX0 yX0_add yX0_add ∈ wA := twp 2 (by decide +kernel) (by decide +kernel)
theorem ks_X0_has : Cond.selects RX0 yX0_has yX0_has ∈ wA := twp 3 (by decide +kernel) (by decide +kernel)
theorem ks_X1_has : Cond.selects RX1 yX1_has yX1_has ∈ wA := twp 4 (by decide +kernel) (by decide +kernel)
theorem ks_X1_takes : Cond.selects RX1 yX1_takes yX1_takes ∈ wA := twp 5 (by decide +kernel) (by decide +kernel)
theorem ks_X1_change : Cond.selects RX1 yX1_change yX1_change ∈ wA := twp 6 (by decide +kernel) (by decide +kernel)
theorem ks_X1_get : Cond.selects RX1 yX1_get yX1_get ∈ wA := twp 7 (by decide +kernel) (by decide +kernel)
theorem ks_X2_add : Cond.selects RX2 yX2_add yX2_add ∈ wA := twp 8 (by decide +kernel) (by decide +kernel)
theorem ks_X2_has : Cond.selects RX2 yX2_has yX2_has ∈ wA := twp 9 (by decide +kernel) (by decide +kernel)
theorem ks_X4_add : Cond.selects RX4 yX4_add yX4_add ∈ wA := twp 10 (by decide +kernel) (by decide +kernel)
theorem ks_X3_clear : Cond.selects RX3 yX3_clear yX3_clear ∈ wA := twp 11 (by decide +kernel) (by decide +kernel)
theorem ks_X5_coverItems : Cond.selects RX5 yX5_coverItems yX5_coverItems ∈ wA := twp 12 (by decide +kernel) (by decide +kernel)
theorem ks_X5_coverHeads : Cond.selects RX5 yX5_coverHeads yX5_coverHeads ∈ wA := twp 13 (by decide +kernel) (by decide +kernel)
theorem ks_X3_cover : Cond.selects RX3 yX3_cover yX3_cover ∈ wA := twp 14 (by decide +kernel) (by decide +kernel)
theorem ks_X5_coverStem : Cond.selects RX5 yX5_coverStem yX5_coverStem ∈ wA := twp 15 (by decide +kernel) (by decide +kernel)
theorem ks_X5_laySlurs : Cond.selects RX5 yX5_laySlurs yX5_laySlurs ∈ wA := twp 16 (by decide +kernel) (by decide +kernel)
theorem ks_X5_outline : Cond.selects RX5 yX5_outline yX5_outline ∈ wA := twp 17 (by decide +kernel) (by decide +kernel)
theorem ks_X3_greatest : Cond.selects RX3 yX3_greatest yX3_greatest ∈ wA := twp 18 (by decide +kernel) (by decide +kernel)
theorem ks_X3_reachOut : Cond.selects RX3 yX3_reachOut yX3_reachOut ∈ wA := twp 19 (by decide +kernel) (by decide +kernel)
theorem ks_X5_queueMarks : Cond.selects RX5 yX5_queueMarks yX5_queueMarks ∈ wA := twp 20 (by decide +kernel) (by decide +kernel)
theorem ks_X0_haveBothVoices : Cond.selects RX0 yX0_haveBothVoices yX0_haveBothVoices ∈ wA := twp 21 (by decide +kernel) (by decide +kernel)
theorem ks_X5_leftEdge : Cond.selects RX5 yX5_leftEdge yX5_leftEdge ∈ wA := twp 22 (by decide +kernel) (by decide +kernel)
theorem ks_X1_liesFromX : Cond.selects RX1 yX1_liesFromX yX1_liesFromX ∈ wA := twp 23 (by decide +kernel) (by decide +kernel)
theorem ks_X5_chooseSide : Cond.selects RX5 yX5_chooseSide yX5_chooseSide ∈ wA := twp 24 (by decide +kernel) (by decide +kernel)
theorem ks_X5_queueMark : Cond.selects RX5 yX5_queueMark yX5_queueMark ∈ wA := twp 25 (by decide +kernel) (by decide +kernel)
theorem ks_X5_rank : Cond.selects RX5 yX5_rank yX5_rank ∈ wA := twp 26 (by decide +kernel) (by decide +kernel)
theorem ks_X1_rank : Cond.selects RX1 yX1_rank yX1_rank ∈ wA := twp 27 (by decide +kernel) (by decide +kernel)
theorem ks_X5_layMarks : Cond.selects RX5 yX5_layMarks yX5_layMarks ∈ wA := twp 28 (by decide +kernel) (by decide +kernel)
theorem ks_X1_isInRow : Cond.selects RX1 yX1_isInRow yX1_isInRow ∈ wA := twp 29 (by decide +kernel) (by decide +kernel)
theorem ks_X5_innerAlone : Cond.selects RX5 yX5_innerAlone yX5_innerAlone ∈ wA := twp 30 (by decide +kernel) (by decide +kernel)
theorem ks_X2_behind : Cond.selects RX2 yX2_behind yX2_behind ∈ wA := twp 31 (by decide +kernel) (by decide +kernel)
theorem ks_X5_layAt : Cond.selects RX5 yX5_layAt yX5_layAt ∈ wA := twp 32 (by decide +kernel) (by decide +kernel)
theorem ks_X5_layRow : Cond.selects RX5 yX5_layRow yX5_layRow ∈ wA := twp 33 (by decide +kernel) (by decide +kernel)
theorem ks_X5_fillRow : Cond.selects RX5 yX5_fillRow yX5_fillRow ∈ wA := twp 34 (by decide +kernel) (by decide +kernel)
theorem ks_X2_isOf : Cond.selects RX2 yX2_isOf yX2_isOf ∈ wA := twp 35 (by decide +kernel) (by decide +kernel)
theorem ks_X5_isFreeInRow : Cond.selects RX5 yX5_isFreeInRow yX5_isFreeInRow ∈ wA := twp 36 (by decide +kernel) (by decide +kernel)
theorem ks_X2_shareX : Cond.selects RX2 yX2_shareX yX2_shareX ∈ wA := twp 37 (by decide +kernel) (by decide +kernel)
theorem ks_X5_layRowMarks : Cond.selects RX5 yX5_layRowMarks yX5_layRowMarks ∈ wA := twp 38 (by decide +kernel) (by decide +kernel)
theorem ks_X5_layLate : Cond.selects RX5 yX5_layLate yX5_layLate ∈ wA := twp 39 (by decide +kernel) (by decide +kernel)
theorem ks_X5_lackOf : Cond.selects RX5 yX5_lackOf yX5_lackOf ∈ wA := twp 40 (by decide +kernel) (by decide +kernel)
theorem ks_X0_next : Cond.selects RX0 yX0_next yX0_next ∈ wA := twp 41 (by decide +kernel) (by decide +kernel)
theorem ks_X0_greatestX : Cond.selects RX0 yX0_greatestX yX0_greatestX ∈ wA := twp 42 (by decide +kernel) (by decide +kernel)
theorem ks_X0_moveBehind : Cond.selects RX0 yX0_moveBehind yX0_moveBehind ∈ wA := twp 43 (by decide +kernel) (by decide +kernel)
theorem ks_X2_countAt : Cond.selects RX2 yX2_countAt yX2_countAt ∈ wA := twp 44 (by decide +kernel) (by decide +kernel)
theorem ks_X5_demandPlaces : Cond.selects RX5 yX5_demandPlaces yX5_demandPlaces ∈ wA := twp 45 (by decide +kernel) (by decide +kernel)
theorem ks_X4_has : Cond.selects RX4 yX4_has yX4_has ∈ wA := twp 47 (by decide +kernel) (by decide +kernel)
theorem ks_X2_isOn : Cond.selects RX2 yX2_isOn yX2_isOn ∈ wA := twp 48 (by decide +kernel) (by decide +kernel)
theorem ks_X2_countNearer : Cond.selects RX2 yX2_countNearer yX2_countNearer ∈ wA := twp 49 (by decide +kernel) (by decide +kernel)
theorem ks_X2_countThere : Cond.selects RX2 yX2_countThere yX2_countThere ∈ wA := twp 50 (by decide +kernel) (by decide +kernel)
theorem ks_X5_outermost : Cond.selects RX5 yX5_outermost yX5_outermost ∈ wA := twp 51 (by decide +kernel) (by decide +kernel)
theorem ks_X6_isTaken : Cond.selects RX6 yX6_isTaken yX6_isTaken ∈ wA := twp 52 (by decide +kernel) (by decide +kernel)
theorem ks_X6_come : Cond.selects RX6 yX6_come yX6_come ∈ wA := twp 53 (by decide +kernel) (by decide +kernel)
theorem ks_X6_isItem : Cond.selects RX6 yX6_isItem yX6_isItem ∈ wA := twp 54 (by decide +kernel) (by decide +kernel)
theorem ks_X6_isMark : Cond.selects RX6 yX6_isMark yX6_isMark ∈ wA := twp 55 (by decide +kernel) (by decide +kernel)
theorem ks_X6_greatest : Cond.selects RX6 yX6_greatest yX6_greatest ∈ wA := twp 56 (by decide +kernel) (by decide +kernel)
theorem ks_X6_sideOf : Cond.selects RX6 yX6_sideOf yX6_sideOf ∈ wA := twp 57 (by decide +kernel) (by decide +kernel)
theorem ks_X6_areBoth : Cond.selects RX6 yX6_areBoth yX6_areBoth ∈ wA := twp 58 (by decide +kernel) (by decide +kernel)
theorem ks_X6_left : Cond.selects RX6 yX6_left yX6_left ∈ wA := twp 59 (by decide +kernel) (by decide +kernel)
theorem ks_X6_isAhead : Cond.selects RX6 yX6_isAhead yX6_isAhead ∈ wA := twp 60 (by decide +kernel) (by decide +kernel)
theorem ks_X6_lieRow : Cond.selects RX6 yX6_lieRow yX6_lieRow ∈ wA := twp 61 (by decide +kernel) (by decide +kernel)
theorem ks_X6_gather : Cond.selects RX6 yX6_gather yX6_gather ∈ wA := twp 62 (by decide +kernel) (by decide +kernel)
theorem ks_X6_cover : Cond.selects RX6 yX6_cover yX6_cover ∈ wA := twp 63 (by decide +kernel) (by decide +kernel)
theorem ks_X6_own : Cond.selects RX6 yX6_own yX6_own ∈ wA := twp 64 (by decide +kernel) (by decide +kernel)
theorem ks_X6_lie : Cond.selects RX6 yX6_lie yX6_lie ∈ wA := twp 65 (by decide +kernel) (by decide +kernel)
theorem ks_X6_throwsNow : Cond.selects RX6 yX6_throwsNow yX6_throwsNow ∈ wA := twp 66 (by decide +kernel) (by decide +kernel)
theorem ks_X6_lacks : Cond.selects RX6 yX6_lacks yX6_lacks ∈ wA := twp 67 (by decide +kernel) (by decide +kernel)
theorem ks_X6_nextOf : Cond.selects RX6 yX6_nextOf yX6_nextOf ∈ wA := twp 68 (by decide +kernel) (by decide +kernel)
theorem ks_X6_marksOf : Cond.selects RX6 yX6_marksOf yX6_marksOf ∈ wA := twp 69 (by decide +kernel) (by decide +kernel)
theorem ks_X6_outermost : Cond.selects RX6 yX6_outermost yX6_outermost ∈ wA := twp 70 (by decide +kernel) (by decide +kernel)
theorem iw_X0 : ∀ w ∈ u_ws RX0 TX0 7, w ∈ wA := List.forall_mem_cons.mpr ⟨tw1 41 (by decide +kernel) (by decide +kernel), List.forall_mem_cons.mpr ⟨tw1 43 (by decide +kernel) (by decide +kernel), List.forall_mem_cons.mpr ⟨tw1 45 (by decide +kernel) (by decide +kernel), List.forall_mem_cons.mpr ⟨tw1 47 (by decide +kernel) (by decide +kernel), List.forall_mem_cons.mpr ⟨tw1 49 (by decide +kernel) (by decide +kernel), List.forall_mem_cons.mpr ⟨tw1 51 (by decide +kernel) (by decide +kernel), List.forall_mem_cons.mpr ⟨tw1 53 (by decide +kernel) (by decide +kernel), fun _ h => nomatch h⟩⟩⟩⟩⟩⟩⟩
theorem iw_X1 : ∀ w ∈ u_ws RX1 TX1 1, w ∈ wA := List.forall_mem_cons.mpr ⟨tw1 66 (by decide +kernel) (by decide +kernel), fun _ h => nomatch h⟩
theorem iw_X2 : ∀ w ∈ u_ws RX2 TX2 12, w ∈ wA := List.forall_mem_cons.mpr ⟨tw1 99 (by decide +kernel) (by decide +kernel), List.forall_mem_cons.mpr ⟨tw1 101 (by decide +kernel) (by decide +kernel), List.forall_mem_cons.mpr ⟨tw1 103 (by decide +kernel) (by decide +kernel), List.forall_mem_cons.mpr ⟨tw1 105 (by decide +kernel) (by decide +kernel), List.forall_mem_cons.mpr ⟨tw1 107 (by decide +kernel) (by decide +kernel), List.forall_mem_cons.mpr ⟨tw1 109 (by decide +kernel) (by decide +kernel), List.forall_mem_cons.mpr ⟨tw1 111 (by decide +kernel) (by decide +kernel), List.forall_mem_cons.mpr ⟨tw1 113 (by decide +kernel) (by decide +kernel), List.forall_mem_cons.mpr ⟨tw1 115 (by decide +kernel) (by decide +kernel), List.forall_mem_cons.mpr ⟨tw1 117 (by decide +kernel) (by decide +kernel), List.forall_mem_cons.mpr ⟨tw1 119 (by decide +kernel) (by decide +kernel), List.forall_mem_cons.mpr ⟨tw1 121 (by decide +kernel) (by decide +kernel), fun _ h => nomatch h⟩⟩⟩⟩⟩⟩⟩⟩⟩⟩⟩⟩
theorem iw_X3 : ∀ w ∈ u_ws RX3 TX3 6, w ∈ wA := List.forall_mem_cons.mpr ⟨tw1 174 (by decide +kernel) (by decide +kernel), List.forall_mem_cons.mpr ⟨tw1 176 (by decide +kernel) (by decide +kernel), List.forall_mem_cons.mpr ⟨tw1 178 (by decide +kernel) (by decide +kernel), List.forall_mem_cons.mpr ⟨tw1 180 (by decide +kernel) (by decide +kernel), List.forall_mem_cons.mpr ⟨tw1 182 (by decide +kernel) (by decide +kernel), List.forall_mem_cons.mpr ⟨tw1 184 (by decide +kernel) (by decide +kernel), fun _ h => nomatch h⟩⟩⟩⟩⟩⟩
theorem iw_X4 : ∀ w ∈ u_ws RX4 TX4 7, w ∈ wA := List.forall_mem_cons.mpr ⟨tw1 145 (by decide +kernel) (by decide +kernel), List.forall_mem_cons.mpr ⟨tw1 147 (by decide +kernel) (by decide +kernel), List.forall_mem_cons.mpr ⟨tw1 149 (by decide +kernel) (by decide +kernel), List.forall_mem_cons.mpr ⟨tw1 151 (by decide +kernel) (by decide +kernel), List.forall_mem_cons.mpr ⟨tw1 153 (by decide +kernel) (by decide +kernel), List.forall_mem_cons.mpr ⟨tw1 155 (by decide +kernel) (by decide +kernel), List.forall_mem_cons.mpr ⟨tw1 157 (by decide +kernel) (by decide +kernel), fun _ h => nomatch h⟩⟩⟩⟩⟩⟩⟩
theorem iw_X5 : ∀ w ∈ u_ws RX5 TX5 10, w ∈ wA := List.forall_mem_cons.mpr ⟨tw1 197 (by decide +kernel) (by decide +kernel), List.forall_mem_cons.mpr ⟨tw1 199 (by decide +kernel) (by decide +kernel), List.forall_mem_cons.mpr ⟨tw1 201 (by decide +kernel) (by decide +kernel), List.forall_mem_cons.mpr ⟨tw1 203 (by decide +kernel) (by decide +kernel), List.forall_mem_cons.mpr ⟨tw1 205 (by decide +kernel) (by decide +kernel), List.forall_mem_cons.mpr ⟨tw1 207 (by decide +kernel) (by decide +kernel), List.forall_mem_cons.mpr ⟨tw1 209 (by decide +kernel) (by decide +kernel), List.forall_mem_cons.mpr ⟨tw1 211 (by decide +kernel) (by decide +kernel), List.forall_mem_cons.mpr ⟨tw1 213 (by decide +kernel) (by decide +kernel), List.forall_mem_cons.mpr ⟨tw1 215 (by decide +kernel) (by decide +kernel), fun _ h => nomatch h⟩⟩⟩⟩⟩⟩⟩⟩⟩⟩
theorem iw_X6 : ∀ w ∈ u_ws RX6 TX6 31, w ∈ wA := List.forall_mem_cons.mpr ⟨tw3 165 (by decide +kernel) (by decide +kernel), List.forall_mem_cons.mpr ⟨tw3 167 (by decide +kernel) (by decide +kernel), List.forall_mem_cons.mpr ⟨tw3 169 (by decide +kernel) (by decide +kernel), List.forall_mem_cons.mpr ⟨tw3 171 (by decide +kernel) (by decide +kernel), List.forall_mem_cons.mpr ⟨tw3 173 (by decide +kernel) (by decide +kernel), List.forall_mem_cons.mpr ⟨tw3 175 (by decide +kernel) (by decide +kernel), List.forall_mem_cons.mpr ⟨tw3 177 (by decide +kernel) (by decide +kernel), List.forall_mem_cons.mpr ⟨tw3 179 (by decide +kernel) (by decide +kernel), List.forall_mem_cons.mpr ⟨tw3 181 (by decide +kernel) (by decide +kernel), List.forall_mem_cons.mpr ⟨tw3 183 (by decide +kernel) (by decide +kernel), List.forall_mem_cons.mpr ⟨tw3 185 (by decide +kernel) (by decide +kernel), List.forall_mem_cons.mpr ⟨tw3 187 (by decide +kernel) (by decide +kernel), List.forall_mem_cons.mpr ⟨tw3 189 (by decide +kernel) (by decide +kernel), List.forall_mem_cons.mpr ⟨tw3 191 (by decide +kernel) (by decide +kernel), List.forall_mem_cons.mpr ⟨tw3 193 (by decide +kernel) (by decide +kernel), List.forall_mem_cons.mpr ⟨tw3 195 (by decide +kernel) (by decide +kernel), List.forall_mem_cons.mpr ⟨tw3 197 (by decide +kernel) (by decide +kernel), List.forall_mem_cons.mpr ⟨tw3 199 (by decide +kernel) (by decide +kernel), List.forall_mem_cons.mpr ⟨tw3 201 (by decide +kernel) (by decide +kernel), List.forall_mem_cons.mpr ⟨tw3 203 (by decide +kernel) (by decide +kernel), List.forall_mem_cons.mpr ⟨tw3 205 (by decide +kernel) (by decide +kernel), List.forall_mem_cons.mpr ⟨tw3 207 (by decide +kernel) (by decide +kernel), List.forall_mem_cons.mpr ⟨tw3 209 (by decide +kernel) (by decide +kernel), List.forall_mem_cons.mpr ⟨tw3 211 (by decide +kernel) (by decide +kernel), List.forall_mem_cons.mpr ⟨tw3 213 (by decide +kernel) (by decide +kernel), List.forall_mem_cons.mpr ⟨tw3 215 (by decide +kernel) (by decide +kernel), List.forall_mem_cons.mpr ⟨tw3 217 (by decide +kernel) (by decide +kernel), List.forall_mem_cons.mpr ⟨tw3 219 (by decide +kernel) (by decide +kernel), List.forall_mem_cons.mpr ⟨tw3 221 (by decide +kernel) (by decide +kernel), List.forall_mem_cons.mpr ⟨tw3 223 (by decide +kernel) (by decide +kernel), List.forall_mem_cons.mpr ⟨tw3 225 (by decide +kernel) (by decide +kernel), fun _ h => nomatch h⟩⟩⟩⟩⟩⟩⟩⟩⟩⟩⟩⟩⟩⟩⟩⟩⟩⟩⟩⟩⟩⟩⟩⟩⟩⟩⟩⟩⟩⟩⟩
end
section
/-! A small interpreter over pictures: numbers and named cells; it is sound for the machine (xa_stp .. below). -/
abbrev AV : Type := Int32 ⊕ Nat
abbrev XS : Type := Nat → Nat → Int32
abbrev RS : Type := XS × Option (Option AV)
abbrev LV : Type := List (Nat × AV)
abbrev KT : Type := Nat → LV → List AV → XS → Option RS
abbrev BT : Type := LV → List AV → XS → Option RS
abbrev MT : Type := List AV → XS → Option RS
/-- a cell of a world: an array (of booleans?, its length) or an object (its kind, its fields: a named cell or a number) -/
abbrev WE : Type := (Bool × Nat) ⊕ (Nat × List (Option Nat))
/-- a row of code: pc, instruction, next pc, numbers (targets, or kind and slot, or which call), constant -/
abbrev CE : Type := Nat × Instr × Nat × List Nat × Int32
/-- a callee: static?, index, number of arguments with the receiver, sort of answer, the receiver's kind, what it does -/
abbrev CT : Type := Bool × Nat × Nat × Nat × Nat × MT
def up2 (S : XS) (k i : Nat) (v : Int32) : XS := fun a => if a = k then upd (S k) i v else S a
def cv (g : Nat → Nat) (v : AV) : Value := match v with
  | .inl x => .int x
  | .inr k => .ref (g k)
def wfd (g : Nat → Nat) (S : XS) (k q : Nat) (d : Option Nat) : Value := match d with
  | some j => .ref (g j)
  | none => .int (S k q)
def wce (g : Nat → Nat) (cI cZ : ClassId) (S : XS) (k : Nat) (w : WE) : Nat × va_E := (g k, match w with
  | .inl (z, n) => .inl (bif z then cZ else cI, n, .inl (S k))
  | .inr (ci, fds) => .inr (ci, fds.mapIdx (wfd g S k)))
def ww (T : List WE) (g : Nat → Nat) (cI cZ : ClassId) (S : XS) : va_W := T.mapIdx (wce g cI cZ S)
def lvc (g : Nat → Nat) (lv : LV) : List (Nat × Value) := lv.map (fun q => (q.1, cv g q.2))
def lk : LV → Nat → Option AV
  | [], _ => none
  | (j, v) :: t, i => bif Nat.beq j i then some v else lk t i
def dl : LV → Nat → LV
  | [], _ => []
  | (j, v) :: t, i => bif Nat.beq j i then dl t i else (j, v) :: dl t i
def pk : LV → List Nat → Option LV
  | _, [] => some []
  | lv, i :: t => match lk lv i with
    | none => none
    | some v => match pk lv t with
      | none => none
      | some r => some ((i, v) :: r)
def ldi (lv : LV) (i : Nat) (k : Int32 → Option RS) : Option RS := match lk lv i with
  | some (.inl x) => k x
  | _ => none
def ldr (lv : LV) (i : Nat) (k : Nat → Option RS) : Option RS := match lk lv i with
  | some (.inr o) => k o
  | _ => none
def pi1 (st : List AV) (k : Int32 → List AV → Option RS) : Option RS := match st with
  | .inl x :: r => k x r
  | _ => none
def pr1 (st : List AV) (k : Nat → List AV → Option RS) : Option RS := match st with
  | .inr o :: r => k o r
  | _ => none
def brc (cd : Jvm.ClassFile.Cond) (x y : Int32) (a b : Option RS) : Option RS := match cd with
  | .eq => if x = y then a else b
  | .ne => if x = y then b else a
  | .lt => if x < y then a else b
  | .ge => if y ≤ x then a else b
  | .gt => if y < x then a else b
  | .le => if x ≤ y then a else b
def gf (T : List WE) (o ci q : Nat) (S : XS) (k : AV → Option RS) : Option RS := match T[o]? with
  | some (.inr (c, fds)) => bif Nat.beq c ci then (match fds[q]? with
    | some (some j) => k (.inr j)
    | some none => k (.inl (S o q))
    | none => none) else none
  | _ => none
/-- a field of a number is written; zb: it is a boolean -/
def pf (T : List WE) (o ci q zb : Nat) (x : Int32) (k : Option RS) : Option RS := match T[o]? with
  | some (.inr (c, fds)) => bif Nat.beq c ci then (match fds[q]? with
    | some none => bif Nat.beq zb 0 then k else (if x = 0 ∨ x = 1 then k else none)
    | _ => none) else none
  | _ => none
def gd (c : Prop) [Decidable c] (k : Option RS) : Option RS := if c then k else none
/-- the place i of an array of n -/
def inA (i : Int32) (n : Nat) : Prop := 0 ≤ i.toInt ∧ i.toInt < (n : Int)
def gA (i : Int32) (n : Nat) (k : Option RS) : Option RS := if 0 ≤ i.toInt ∧ i.toInt < (n : Int) then k else none
/-- the static table of the most that a setting may be; it is cell 40 -/
def mostf (j : Nat) : Int32 := [9, 3, 1, 20, 1, 1].getD j 0
def al (T : List WE) (o : Nat) (z : Bool) (i : Int32) (S : XS) (k : Int32 → Option RS) : Option RS := match T[o]? with
  | some (.inl (z', n)) => bif z' == z then gA i n (k (S o i.toNatClampNeg)) else none
  | some (.inr _) => none
  | none => bif Nat.beq o 40 && !z then gA i 6 (k (mostf i.toNatClampNeg)) else none
def ast (T : List WE) (o : Nat) (z : Bool) (i : Int32) (k : Option RS) : Option RS := match T[o]? with
  | some (.inl (z', n)) => bif z' == z then gA i n k else none
  | _ => none
def tsw (x : Int32) (lo : Int) (ts : List Nat) (d : Nat) (k : Nat → Option RS) : Option RS := match ts with
  | [] => k d
  | t :: ts => if x.toInt = lo then k t else tsw x (lo + 1) ts d k
def clv (o : Option RS) (k : XS → Option RS) : Option RS := match o with
  | some (S1, some none) => k S1
  | some (S1, none) => some (S1, none)
  | _ => none
def cli (o : Option RS) (k : XS → Int32 → Option RS) : Option RS := match o with
  | some (S1, some (some (.inl x))) => k S1 x
  | some (S1, none) => some (S1, none)
  | _ => none
def clr (o : Option RS) (k5 k6 : XS → Option RS) : Option RS := match o with
  | some (S1, some (some (.inr a))) => bif Nat.beq a 5 then k5 S1 else bif Nat.beq a 6 then k6 S1 else none
  | some (S1, none) => some (S1, none)
  | _ => none
def crk (rk : Nat) (o : Option RS) (r : List AV) (k : List AV → XS → Option RS) : Option RS := match rk with
  | 0 => clv o (fun S1 => k r S1)
  | 1 => cli o (fun S1 x => k (.inl x :: r) S1)
  | _ => clr o (fun S1 => k (.inr 5 :: r) S1) (fun S1 => k (.inr 6 :: r) S1)
def rcv (T : List WE) (ci : Nat) (As : List AV) : Bool := match As with
  | .inr o :: _ => (match T[o]? with
    | some (.inr (c, _)) => Nat.beq c ci
    | _ => false)
  | _ => false
def cal (T : List WE) (cs : List CT) (sta : Bool) (idx j : Nat) (st : List AV) (S : XS) (k : List AV → XS → Option RS) : Option RS := match cs[j]? with
  | none => none
  | some (sta', idx', n, rk, ci, sem) => bif (sta == sta' && Nat.beq idx idx' && Nat.ble n st.length && Nat.ble (st.length - n) 8 && (sta || rcv T ci (st.take n).reverse)) then crk rk (sem (st.take n).reverse S) (st.drop n) k else none
def reti (zb : Nat) (st : List AV) (S : XS) : Option RS := match st with
  | [.inl x] => bif Nat.beq zb 0 then some (S, some (some (.inl x))) else (if x = 0 ∨ x = 1 then some (S, some (some (.inl x))) else none)
  | _ => none
def retr (st : List AV) (S : XS) : Option RS := match st with
  | [.inr o] => some (S, some (some (.inr o)))
  | _ => none
def retv (st : List AV) (S : XS) : Option RS := match st with
  | [] => some (S, some none)
  | _ => none
/-- one instruction -/
def stp (T : List WE) (cs : List CT) (i : Instr) (np : Nat) (ns : List Nat) (v : Int32) (lv : LV) (st : List AV) (S : XS) (K : KT) : Option RS := match i with
  | .iconst _ => K np lv (.inl v :: st) S
  | .bipush _ => K np lv (.inl v :: st) S
  | .sipush _ => K np lv (.inl v :: st) S
  | .ldc _ => K np lv (.inl v :: st) S
  | .ldc_w _ => K np lv (.inl v :: st) S
  | .iload_n n => ldi lv n (fun x => K np lv (.inl x :: st) S)
  | .iload n => ldi lv n (fun x => K np lv (.inl x :: st) S)
  | .aload_n n => ldr lv n (fun o => K np lv (.inr o :: st) S)
  | .aload n => ldr lv n (fun o => K np lv (.inr o :: st) S)
  | .istore_n n => pi1 st (fun x r => K np ((n.val, .inl x) :: dl lv n) r S)
  | .istore n => pi1 st (fun x r => K np ((n, .inl x) :: dl lv n) r S)
  | .astore_n n => pr1 st (fun o r => K np ((n.val, .inr o) :: dl lv n) r S)
  | .astore n => pr1 st (fun o r => K np ((n, .inr o) :: dl lv n) r S)
  | .iinc n _ => ldi lv n (fun x => K np ((n, .inl (x + v)) :: dl lv n) st S)
  | .iadd => pi1 st (fun y r => pi1 r (fun x r => K np lv (.inl (x + y) :: r) S))
  | .isub => pi1 st (fun y r => pi1 r (fun x r => K np lv (.inl (x - y) :: r) S))
  | .imul => pi1 st (fun y r => pi1 r (fun x r => K np lv (.inl (x * y) :: r) S))
  | .iand => pi1 st (fun y r => pi1 r (fun x r => K np lv (.inl (x &&& y) :: r) S))
  | .ior => pi1 st (fun y r => pi1 r (fun x r => K np lv (.inl (x ||| y) :: r) S))
  | .idiv => pi1 st (fun y r => pi1 r (fun x r => if y = 0 then none else K np lv (.inl (x / y) :: r) S))
  | .ineg => pi1 st (fun x r => K np lv (.inl (-x) :: r) S)
  | .ifCond cd _ => pi1 st (fun x r => brc cd x 0 (K (ns.headD 0) lv r S) (K np lv r S))
  | .if_icmp cd _ => pi1 st (fun y r => pi1 r (fun x r => brc cd x y (K (ns.headD 0) lv r S) (K np lv r S)))
  | .goto _ => K (ns.headD 0) lv st S
  | .tableswitch _ lo _ _ => pi1 st (fun x r => tsw x lo ns.tail (ns.headD 0) (fun t => K t lv r S))
  | .dup => (match st with
    | v :: r => K np lv (v :: v :: r) S
    | [] => none)
  | .dup2 => (match st with
    | v :: w :: r => K np lv (v :: w :: v :: w :: r) S
    | _ => none)
  | .getstatic _ => K np lv (.inr 40 :: st) S
  | .getfield _ => pr1 st (fun o r => gf T o (ns.headD 0) (ns.getD 1 0) S (fun x => K np lv (x :: r) S))
  | .putfield _ => pi1 st (fun x r => pr1 r (fun o r => pf T o (ns.headD 0) (ns.getD 1 0) (ns.getD 2 0) x (K np lv r (up2 S o (ns.getD 1 0) x))))
  | .iaload => pi1 st (fun i r => pr1 r (fun o r => al T o false i S (fun x => K np lv (.inl x :: r) S)))
  | .baload => pi1 st (fun i r => pr1 r (fun o r => al T o true i S (fun x => K np lv (.inl x :: r) S)))
  | .iastore => pi1 st (fun x r => pi1 r (fun i r => pr1 r (fun o r => ast T o false i (K np lv r (up2 S o i.toNatClampNeg x)))))
  | .bastore => pi1 st (fun x r => pi1 r (fun i r => pr1 r (fun o r => ast T o true i (K np lv r (up2 S o i.toNatClampNeg (vp_nar .boolean x))))))
  | .invokevirtual idx => cal T cs false idx (ns.headD 0) st S (fun r S1 => K np lv r S1)
  | .invokestatic idx => cal T cs true idx (ns.headD 0) st S (fun r S1 => K np lv r S1)
  | .ireturn => reti (ns.headD 0) st S
  | .areturn => retr st S
  | .return_ => retv st S
  | _ => none
def fnd : List CE → Nat → Option (CE × List CE)
  | [], _ => none
  | q :: t, pc => bif Nat.beq q.1 pc then some (q, t) else fnd t pc
/-- the row at pc, and those behind it: most often the first of those at hand -/
def nxt (L suf : List CE) (pc : Nat) : Option (CE × List CE) := match suf with
  | [] => fnd L pc
  | q :: t => bif Nat.beq q.1 pc then some (q, t) else fnd L pc
def mem1 : List Nat → Nat → Bool
  | [], _ => false
  | q :: t, pc => bif Nat.beq q pc then true else mem1 t pc
/-- runs until it comes to one of the stops -/
def brn (T : List WE) (cs : List CT) (L : List CE) (ss : List Nat) (K : KT) : Nat → List CE → KT
  | 0 => fun _ _ _ _ _ => none
  | n + 1 => fun suf pc lv st S => match nxt L suf pc with
    | none => none
    | some ((_, i, np, ns, v), t) => stp T cs i np ns v lv st S (fun pc lv st S => bif mem1 ss pc then K pc lv st S else brn T cs L ss K n t pc lv st S)
/-- which block stands at a stop: its pc, its locals, itself -/
def dsp : List (Nat × List Nat × BT) → KT
  | [], _, _, _, _ => none
  | (q, live, f) :: t, pc, lv, st, S => bif Nat.beq q pc then (match pk lv live with
    | some lv' => f lv' st S
    | none => none) else dsp t pc lv st S
def zipN : Nat → List AV → LV
  | _, [] => []
  | n, v :: t => (n, v) :: zipN (n + 1) t
/-- what a row of code must be -/
def opk (nL zb : Nat) (q : CE) : Bool := match q with
  | (pc, i, _, ns, v) => match i with
    | .iconst n => decide (Int32.ofInt n = v)
    | .bipush n => decide ((Int8.ofInt n).toInt32 = v)
    | .sipush n => decide ((Int16.ofInt n).toInt32 = v)
    | .ireturn => decide (ns.headD 0 = zb) && decide (zb ≤ 1)
    | .return_ => decide (zb = 2)
    | .areturn => decide (zb = 3)
    | .istore_n n => decide (n.val < nL)
    | .istore n => decide (n < nL)
    | .astore_n n => decide (n.val < nL)
    | .astore n => decide (n < nL)
    | .iinc n c => decide (Int32.ofInt c = v) && decide (n < nL)
    | .ifCond _ o => decide ((pc : Int) + o = ((ns.headD 0 : Nat) : Int))
    | .if_icmp _ o => decide ((pc : Int) + o = ((ns.headD 0 : Nat) : Int))
    | .goto o => decide ((pc : Int) + o = ((ns.headD 0 : Nat) : Int))
    | .tableswitch d lo hi os => decide ((pc : Int) + d = ((ns.headD 0 : Nat) : Int)) && decide (hi = lo + os.size - 1) && decide (os.toList.map (fun o => (pc : Int) + o) = ns.tail.map (fun (t : Nat) => (t : Int)))
    | _ => true
def ntab (i : Instr) : Bool := match i with
  | .tableswitch _ _ _ _ => false
  | _ => true
def ilen (i : Instr) : Nat := match i with
  | .bipush _ => 2
  | .sipush _ => 3
  | .ldc _ => 2
  | .ldc_w _ => 3
  | .iload _ => 2
  | .aload _ => 2
  | .istore _ => 2
  | .astore _ => 2
  | .iinc _ _ => 3
  | .ifCond _ _ => 3
  | .if_icmp _ _ => 3
  | .goto _ => 3
  | .getfield _ => 3
  | .putfield _ => 3
  | .getstatic _ => 3
  | .invokevirtual _ => 3
  | .invokestatic _ => 3
  | _ => 1
/-- a row's links stand in the lists of its own kind's: fields read, fields written, constants -/
def fck (ft : List (Nat × Nat × Nat)) (pt : List (Nat × Nat × Nat × Nat)) (kt : List (Nat × Int32)) (q : CE) : Bool := match q with
  | (_, i, _, ns, v) => match i with
    | .getfield k => decide ((k, ns.headD 0, ns.getD 1 0) ∈ ft) && decide (ns.headD 0 ≠ 9)
    | .putfield k => decide ((k, ns.headD 0, ns.getD 1 0, ns.getD 2 0) ∈ pt)
    | .ldc k => decide ((k, v) ∈ kt)
    | .ldc_w k => decide ((k, v) ∈ kt)
    | .getstatic k => decide ((k, 9, 9) ∈ ft)
    | _ => true
/-- a row of code is what the bytes say -/
def rok (cc : ByteArray) (nL zb : Nat) (q : CE) : Bool := decide (decode cc q.1 = .ok (q.2.1, q.2.2.1 - q.1)) && (!ntab q.2.1 || decide (q.2.2.1 = q.1 + ilen q.2.1)) && opk nL zb q
theorem up2_eq {S : XS} {k i : Nat} {v : Int32} : up2 S k i v k = upd (S k) i v := by simp [up2]
theorem up2_ne {S : XS} {k i j : Nat} {v : Int32} (h : j ≠ k) : up2 S k i v j = S j := by simp [up2, h]
theorem wce_ne {g : Nat → Nat} {cI cZ : ClassId} {S : XS} {k i j : Nat} {v : Int32} (h : j ≠ k) (w : WE) : wce g cI cZ (up2 S k i v) j w = wce g cI cZ S j w := by
  have hw : wfd g (up2 S k i v) j = wfd g S j := by
    funext q d
    unfold wfd
    rw [up2_ne h]
  unfold wce
  rw [hw, up2_ne h]
theorem ww_get {T : List WE} {g : Nat → Nat} {cI cZ : ClassId} {S : XS} {k : Nat} {w : WE} (h : T[k]? = some w) : (ww T g cI cZ S)[k]? = some (wce g cI cZ S k w) := by
  unfold ww
  rw [List.getElem?_mapIdx, h]
  rfl
theorem ww_set {T : List WE} {g : Nat → Nat} {cI cZ : ClassId} {S : XS} {k i : Nat} {v : Int32} {w : WE} {x : Nat × va_E} (h : T[k]? = some w) (hx : x = wce g cI cZ (up2 S k i v) k w) : (ww T g cI cZ S).set k x = ww T g cI cZ (up2 S k i v) := by
  apply List.ext_getElem?
  intro j
  unfold ww
  rw [List.getElem?_set, List.getElem?_mapIdx, List.getElem?_mapIdx]
  have hk : k < T.length := (List.getElem?_eq_some_iff.mp h).1
  by_cases e : k = j
  · subst e
    rw [if_pos rfl, h, List.length_mapIdx, if_pos hk, hx]
    rfl
  · rw [if_neg e]
    cases T[j]? with
    | none => rfl
    | some w2 => exact congrArg some (wce_ne (fun q => e q.symm) w2).symm
theorem lk_at {ls : Array Slot} {nL : Nat} {g : Nat → Nat} {lv : LV} {i : Nat} {v : AV} (h : lv_has ls nL (lvc g lv)) (hk : lk lv i = some v) : ls[i]? = some (.val (cv g v)) := by
  obtain ⟨-, -, h⟩ := h
  induction lv with
  | nil => cases hk
  | cons q t ih =>
    obtain ⟨j, w⟩ := q
    unfold lk at hk
    cases e : Nat.beq j i with
    | true =>
      rw [e] at hk
      cases Option.some.inj hk
      cases Nat.eq_of_beq_eq_true e
      exact h _ List.mem_cons_self
    | false =>
      rw [e] at hk
      exact ih hk (fun q hq => h q (List.mem_cons_of_mem _ hq))
theorem dl_sub {lv : LV} {i : Nat} : ∀ q ∈ dl lv i, q ∈ lv ∧ q.1 ≠ i := by
  induction lv with
  | nil => intro q h; cases h
  | cons w t ih =>
    obtain ⟨j, v⟩ := w
    intro q h
    unfold dl at h
    cases e : Nat.beq j i with
    | true =>
      rw [e] at h
      exact ⟨List.mem_cons_of_mem _ (ih q h).1, (ih q h).2⟩
    | false =>
      rw [e] at h
      rcases List.mem_cons.mp h with h | h
      · subst h
        exact ⟨List.mem_cons_self, Nat.ne_of_beq_eq_false e⟩
      · exact ⟨List.mem_cons_of_mem _ (ih q h).1, (ih q h).2⟩
theorem cv_cat (g : Nat → Nat) (v : AV) : (cv g v).category = 1 := by
  cases v <;> rfl
theorem lv_dl {ls : Array Slot} {nL i : Nat} {g : Nat → Nat} {lv : LV} {v : AV} {lv' : List (Nat × Value)} (hl : (i, cv g v) :: (lvc g lv).filter (fun q => !(q.1 == i) && !(q.1 + 1 == i && q.2.category == 2)) = lv') (h : lv_has ls nL lv') : lv_has ls nL (lvc g ((i, v) :: dl lv i)) := by
  refine ⟨h.1, h.2.1, fun q hq => h.2.2 q ?_⟩
  rw [← hl]
  rcases List.mem_cons.mp hq with e | e
  · rw [e]; exact List.mem_cons_self
  · refine List.mem_cons_of_mem _ (List.mem_filter.mpr ?_)
    obtain ⟨w, hw, rfl⟩ := List.mem_map.mp e
    obtain ⟨h1, h2⟩ := dl_sub w hw
    refine ⟨List.mem_map.mpr ⟨w, h1, rfl⟩, ?_⟩
    simp [cv_cat, h2]
theorem pk_has {ls : Array Slot} {nL : Nat} {g : Nat → Nat} {lv : LV} (h : lv_has ls nL (lvc g lv)) : ∀ (live : List Nat) (lv' : LV), pk lv live = some lv' → lv_has ls nL (lvc g lv') := by
  intro live
  induction live with
  | nil =>
    intro lv' e
    unfold pk at e
    cases Option.some.inj e
    exact ⟨h.1, h.2.1, fun q hq => nomatch hq⟩
  | cons i t ih =>
    intro lv' e
    unfold pk at e
    cases e1 : lk lv i with
    | none => rw [e1] at e; cases e
    | some v =>
      rw [e1] at e
      dsimp only at e
      cases e2 : pk lv t with
      | none => rw [e2] at e; cases e
      | some r =>
        rw [e2] at e
        cases Option.some.inj e
        refine ⟨h.1, h.2.1, fun q hq => ?_⟩
        rcases List.mem_cons.mp hq with e3 | e3
        · rw [e3]; exact lk_at h e1
        · exact (ih r e2).2.2 q e3
theorem fnd_mem {L : List CE} {pc : Nat} {q : CE} {t : List CE} (h : fnd L pc = some (q, t)) : q ∈ L ∧ q.1 = pc ∧ ∀ z ∈ t, z ∈ L := by
  induction L with
  | nil => cases h
  | cons w u ih =>
    unfold fnd at h
    cases e : Nat.beq w.1 pc with
    | true =>
      rw [e] at h
      cases Option.some.inj h
      exact ⟨List.mem_cons_self, Nat.eq_of_beq_eq_true e, fun z hz => List.mem_cons_of_mem _ hz⟩
    | false =>
      rw [e] at h
      exact ⟨List.mem_cons_of_mem _ (ih h).1, (ih h).2.1, fun z hz => List.mem_cons_of_mem _ ((ih h).2.2 z hz)⟩
theorem nxt_mem {L suf : List CE} {pc : Nat} {q : CE} {t : List CE} (hs : ∀ z ∈ suf, z ∈ L) (h : nxt L suf pc = some (q, t)) : q ∈ L ∧ q.1 = pc ∧ ∀ z ∈ t, z ∈ L := by
  unfold nxt at h
  split at h
  · exact fnd_mem h
  · rename_i w u
    cases e : Nat.beq w.1 pc with
    | true =>
      rw [e] at h
      cases Option.some.inj h
      exact ⟨hs _ List.mem_cons_self, Nat.eq_of_beq_eq_true e, fun z hz => hs z (List.mem_cons_of_mem _ hz)⟩
    | false =>
      rw [e] at h
      exact fnd_mem h
theorem ldi_some {lv : LV} {i : Nat} {k : Int32 → Option RS} {R : RS} (h : ldi lv i k = some R) : ∃ x, lk lv i = some (.inl x) ∧ k x = some R := by
  unfold ldi at h
  split at h
  · exact ⟨_, by assumption, h⟩
  · cases h
theorem ldr_some {lv : LV} {i : Nat} {k : Nat → Option RS} {R : RS} (h : ldr lv i k = some R) : ∃ o, lk lv i = some (.inr o) ∧ k o = some R := by
  unfold ldr at h
  split at h
  · exact ⟨_, by assumption, h⟩
  · cases h
theorem pi1_some {st : List AV} {k : Int32 → List AV → Option RS} {R : RS} (h : pi1 st k = some R) : ∃ x r, st = .inl x :: r ∧ k x r = some R := by
  unfold pi1 at h
  split at h
  · exact ⟨_, _, rfl, h⟩
  · cases h
theorem pr1_some {st : List AV} {k : Nat → List AV → Option RS} {R : RS} (h : pr1 st k = some R) : ∃ o r, st = .inr o :: r ∧ k o r = some R := by
  unfold pr1 at h
  split at h
  · exact ⟨_, _, rfl, h⟩
  · cases h
theorem gA_some {i : Int32} {n : Nat} {k : Option RS} {R : RS} (h : gA i n k = some R) : vp_in i n ∧ k = some R := by
  unfold gA at h
  split at h
  · exact ⟨vp_in_iff.mpr (by assumption), h⟩
  · cases h
theorem al_some {T : List WE} {o : Nat} {z : Bool} {i : Int32} {S : XS} {k : Int32 → Option RS} {R : RS} (h : al T o z i S k = some R) : (∃ n, T[o]? = some (.inl (z, n)) ∧ vp_in i n ∧ k (S o i.toNatClampNeg) = some R) ∨ (o = 40 ∧ z = false ∧ vp_in i 6 ∧ k (mostf i.toNatClampNeg) = some R) := by
  unfold al at h
  split at h
  · rename_i z' n e
    cases hz : z' == z with
    | true =>
      rw [hz] at h
      cases (beq_iff_eq.mp hz)
      exact Or.inl ⟨n, e, gA_some h⟩
    | false => rw [hz] at h; cases h
  · cases h
  · cases hz : (Nat.beq o 40 && !z) with
    | true =>
      rw [hz] at h
      obtain ⟨h1, h2⟩ := Bool.and_eq_true_iff.mp hz
      refine Or.inr ⟨Nat.eq_of_beq_eq_true h1, ?_, gA_some h⟩
      cases z
      · rfl
      · cases h2
    | false => rw [hz] at h; cases h
theorem ast_some {T : List WE} {o : Nat} {z : Bool} {i : Int32} {k : Option RS} {R : RS} (h : ast T o z i k = some R) : ∃ n, T[o]? = some (.inl (z, n)) ∧ vp_in i n ∧ k = some R := by
  unfold ast at h
  split at h
  · rename_i z' n e
    cases hz : z' == z with
    | true =>
      rw [hz] at h
      cases (beq_iff_eq.mp hz)
      exact ⟨n, e, gA_some h⟩
    | false => rw [hz] at h; cases h
  · cases h
def fdv (S : XS) (k q : Nat) (d : Option Nat) : AV := match d with
  | some j => .inr j
  | none => .inl (S k q)
theorem gf_some {T : List WE} {o ci q : Nat} {S : XS} {k : AV → Option RS} {R : RS} (h : gf T o ci q S k = some R) : ∃ fds d, T[o]? = some (.inr (ci, fds)) ∧ fds[q]? = some d ∧ k (fdv S o q d) = some R := by
  unfold gf at h
  split at h
  · rename_i c fds e
    cases hz : Nat.beq c ci with
    | true =>
      rw [hz] at h
      cases Nat.eq_of_beq_eq_true hz
      dsimp only [cond_true] at h
      split at h
      · exact ⟨fds, some _, e, by assumption, h⟩
      · exact ⟨fds, none, e, by assumption, h⟩
      · cases h
    | false => rw [hz] at h; cases h
  · cases h
theorem pf_some {T : List WE} {o ci q zb : Nat} {x : Int32} {k : Option RS} {R : RS} (h : pf T o ci q zb x k = some R) : ∃ fds, T[o]? = some (.inr (ci, fds)) ∧ fds[q]? = some none ∧ (zb = 0 ∨ x = 0 ∨ x = 1) ∧ k = some R := by
  unfold pf at h
  split at h
  · rename_i c fds e
    cases hz : Nat.beq c ci with
    | true =>
      rw [hz] at h
      cases Nat.eq_of_beq_eq_true hz
      dsimp only [cond_true] at h
      split at h
      · rename_i e2
        cases hb : Nat.beq zb 0 with
        | true =>
          rw [hb] at h
          exact ⟨fds, e, e2, Or.inl (Nat.eq_of_beq_eq_true hb), h⟩
        | false =>
          rw [hb] at h
          dsimp only [cond_false] at h
          split at h
          · exact ⟨fds, e, e2, Or.inr (by assumption), h⟩
          · cases h
      · cases h
    | false => rw [hz] at h; cases h
  · cases h
theorem crk_some {rk : Nat} {o : Option RS} {r : List AV} {k : List AV → XS → Option RS} {R : RS} (h : crk rk o r k = some R) : ∃ q, o = some q ∧ (match q.2 with
    | none => R = (q.1, none)
    | some v => k (v.toList ++ r) q.1 = some R) := by
  unfold crk at h
  split at h
  · unfold clv at h
    split at h
    · exact ⟨_, rfl, h⟩
    · exact ⟨_, rfl, (Option.some.inj h).symm⟩
    · cases h
  · unfold cli at h
    split at h
    · exact ⟨_, rfl, h⟩
    · exact ⟨_, rfl, (Option.some.inj h).symm⟩
    · cases h
  · unfold clr at h
    split at h
    · rename_i S1 a
      cases e5 : Nat.beq a 5 with
      | true =>
        rw [e5] at h
        cases Nat.eq_of_beq_eq_true e5
        exact ⟨_, rfl, h⟩
      | false =>
        rw [e5] at h
        dsimp only [cond_false] at h
        cases e6 : Nat.beq a 6 with
        | true =>
          rw [e6] at h
          cases Nat.eq_of_beq_eq_true e6
          exact ⟨_, rfl, h⟩
        | false => rw [e6] at h; cases h
    · exact ⟨_, rfl, (Option.some.inj h).symm⟩
    · cases h
theorem rcv_some {T : List WE} {ci : Nat} {As : List AV} (h : rcv T ci As = true) : ∃ o fds t, As = .inr o :: t ∧ T[o]? = some (.inr (ci, fds)) := by
  unfold rcv at h
  split at h
  · split at h
    · rename_i e
      cases Nat.eq_of_beq_eq_true h
      exact ⟨_, _, _, rfl, e⟩
    · cases h
  · cases h
theorem cal_some {T : List WE} {cs : List CT} {sta : Bool} {idx j : Nat} {st : List AV} {S : XS} {k : List AV → XS → Option RS} {R : RS} (h : cal T cs sta idx j st S k = some R) : ∃ n rk ci sem, cs[j]? = some (sta, idx, n, rk, ci, sem) ∧ n ≤ st.length ∧ st.length - n ≤ 8 ∧ (sta = true ∨ rcv T ci (st.take n).reverse = true) ∧ crk rk (sem (st.take n).reverse S) (st.drop n) k = some R := by
  unfold cal at h
  split at h
  · cases h
  · rename_i sta' idx' n rk ci sem e
    cases hc : (sta == sta' && Nat.beq idx idx' && Nat.ble n st.length && Nat.ble (st.length - n) 8 && (sta || rcv T ci (st.take n).reverse)) with
    | false => rw [hc] at h; cases h
    | true =>
      rw [hc] at h
      simp only [Bool.and_eq_true, beq_iff_eq, Bool.or_eq_true] at hc
      obtain ⟨⟨⟨⟨h1, h2⟩, h3⟩, h4⟩, h5⟩ := hc
      cases h1
      cases Nat.eq_of_beq_eq_true h2
      exact ⟨n, rk, ci, sem, e, Nat.le_of_ble_eq_true h3, Nat.le_of_ble_eq_true h4, h5, h⟩
theorem tsw_some {x : Int32} {d : Nat} {k : Nat → Option RS} {R : RS} : ∀ (ts : List Nat) (lo : Int), tsw x lo ts d k = some R → (∃ (i : Nat) (t : Nat), ts[i]? = some t ∧ x.toInt = lo + i ∧ k t = some R) ∨ ((x.toInt < lo ∨ lo + ts.length ≤ x.toInt) ∧ k d = some R) := by
  intro ts
  induction ts with
  | nil =>
    intro lo h
    refine Or.inr ⟨?_, h⟩
    simp only [List.length_nil]
    omega
  | cons t ts ih =>
    intro lo h
    unfold tsw at h
    split at h
    · exact Or.inl ⟨0, t, rfl, by omega, h⟩
    · rename_i hne
      rcases ih (lo + 1) h with ⟨i, t', h1, h2, h3⟩ | ⟨h1, h2⟩
      · exact Or.inl ⟨i + 1, t', h1, by omega, h3⟩
      · refine Or.inr ⟨?_, h2⟩
        simp only [List.length_cons]
        omega
end
section
/-! The interpreter is sound. xG: at pc with these locals, this stack and this picture the machine comes to Q. -/
def xG (p : Program) (l : Launch) (e : Env) (R : Room) (s : State) (m : MethodId) (args : Array Value) (below : List Frame) (meth : Method) (c : Code) (cells slots : Nat) (Q : State → Prop) (D : va_G) (T : List WE) (g : Nat → Nat) (cI cZ : ClassId) (A : Nat → Prop) (nL : Nat) (pc : Nat) (lv : LV) (st : List AV) (S : XS) : Prop := ∀ (H : Heap) (locs : List Loc) (ls : Array Slot), va_P D vwCl (ww T g cI cZ S) H → va_S A s.heap H locs → lv_has ls nL (lvc g lv) → W p l e R s m args below meth c H locs cells slots Q (F0 m pc ls (st.map (cv g)))
/-- the static table stands -/
def xSt (g : Nat → Nat) (A : Nat → Prop) (s : State) (H : Heap) : Prop := va_Z RX1 "MOST" "[I" (.ref (g 40)) A s H ∧ va_T .int (g 40) 6 (fun j => .int (mostf j)) A s H
theorem xSt.on {g : Nat → Nat} {A : Nat → Prop} {s U : State} {H : Heap} {locs : List Loc} (h : xSt g A s s.heap) (hS : va_S A s.heap H locs) (hU : U.heap = H) (hvm : s.vm.Alike U.vm) : xSt g A U U.heap := by
  rw [hU]
  exact ⟨(h.1.kept hS.2.1).moved hvm, (h.2.kept hS.2.1).moved hvm⟩
/-- what holds of the method's own machine -/
def xC (p : Program) (s : State) (m : MethodId) (c : Code) (D : va_G) (T : List WE) (g : Nat → Nat) (cI cZ : ClassId) (A : Nat → Prop) (nL : Nat) (cc : ByteArray) (own : String) : Prop := p.tables.exec = Jvm.exec ∧ c.code = cc ∧ c.maxLocals = nL ∧ s.vm.findClass own = some m.cls ∧ va_K D vwCl [(cI, .int), (cZ, .boolean)] s ∧ (∀ S, va_D A (ww T g cI cZ S)) ∧ xSt g A s s.heap
/-- a field's words -/
def xFw (s : State) (args : Array Value) (own : String) (idx ci k : Nat) (C : String) (Tf : u_T) (N : Nat) : Prop := vwCl[ci]? = some (C, Tf, N) ∧ k < N ∧ (∀ w ∈ u_ws C Tf N, w.before args s = true) ∧ ((Cond.fieldLink own idx (Tf k).1 (Tf k).2.1 (Tf k).2.2.1).before args s = true ∨ ∃ host, (Cond.fieldLinkNest own idx (Tf k).1 (Tf k).2.1 (Tf k).2.2.1 host).before args s = true)
def xF (s : State) (args : Array Value) (own : String) (q : CE) : Prop := match q.2.1 with
  | .getfield idx => ∃ C Tf N, xFw s args own idx (q.2.2.2.1.headD 0) (q.2.2.2.1.getD 1 0) C Tf N
  | .putfield idx => ∃ C Tf N, xFw s args own idx (q.2.2.2.1.headD 0) (q.2.2.2.1.getD 1 0) C Tf N ∧ (Tf (q.2.2.2.1.getD 1 0)).2.2.2 = false ∧ parseFieldDescriptor (Tf (q.2.2.2.1.getD 1 0)).2.2.1 = some (if q.2.2.2.1.getD 2 0 = 0 then .int else .boolean)
  | .ldc idx => (Jvm.Cond.constant own idx q.2.2.2.2).before args s = true
  | .ldc_w idx => (Jvm.Cond.constant own idx q.2.2.2.2).before args s = true
  | .getstatic idx => (Jvm.Cond.fieldLink own idx RX1 "MOST" "[I").before args s = true
  | _ => True
def xFt (s : State) (args : Array Value) (own : String) (q : Nat × Nat × Nat) : Prop := if q.2.1 = 9 then (Jvm.Cond.fieldLink own q.1 RX1 "MOST" "[I").before args s = true else ∃ C Tf N, xFw s args own q.1 q.2.1 q.2.2 C Tf N
def xPt (s : State) (args : Array Value) (own : String) (q : Nat × Nat × Nat × Nat) : Prop := ∃ C Tf N, xFw s args own q.1 q.2.1 q.2.2.1 C Tf N ∧ (Tf q.2.2.1).2.2.2 = false ∧ parseFieldDescriptor (Tf q.2.2.1).2.2.1 = some (if q.2.2.2 = 0 then .int else .boolean)
theorem xF_of {s : State} {args : Array Value} {own : String} {ft : List (Nat × Nat × Nat)} {pt : List (Nat × Nat × Nat × Nat)} {kt : List (Nat × Int32)} (h1 : ∀ q ∈ ft, xFt s args own q) (h2 : ∀ q ∈ pt, xPt s args own q) (h3 : ∀ q ∈ kt, (Jvm.Cond.constant own q.1 q.2).before args s = true) {q : CE} (h : fck ft pt kt q = true) : xF s args own q := by
  obtain ⟨pc, i, np, ns, v⟩ := q
  unfold xF
  unfold fck at h
  dsimp only at h ⊢
  split at h
  · obtain ⟨e1, e2⟩ := Bool.and_eq_true_iff.mp h
    have h9 := h1 _ (of_decide_eq_true e1)
    unfold xFt at h9
    rw [if_neg (of_decide_eq_true e2)] at h9
    exact h9
  · exact h2 _ (of_decide_eq_true h)
  · exact h3 _ (of_decide_eq_true h)
  · exact h3 _ (of_decide_eq_true h)
  · exact h1 _ (of_decide_eq_true h)
  · split
    · rename_i a1 a2 a3 a4 a5
      exact (a1 _ rfl).elim
    · rename_i a1 a2 a3 a4 a5
      exact (a2 _ rfl).elim
    · rename_i a1 a2 a3 a4 a5
      exact (a3 _ rfl).elim
    · rename_i a1 a2 a3 a4 a5
      exact (a4 _ rfl).elim
    · rename_i a1 a2 a3 a4 a5
      exact (a5 _ rfl).elim
    · trivial
/-- a callee's row -/
def xCF (p : Program) (l : Launch) (e : Env) (R : Room) (s : State) (m : MethodId) (args : Array Value) (below : List Frame) (meth : Method) (c : Code) (cells slots : Nat) (Q : State → Prop) (D : va_G) (T : List WE) (g : Nat → Nat) (cI cZ : ClassId) (A : Nat → Prop) (nL : Nat) (cc : ByteArray) (R0 : RS) (q : CT) : Prop := ∀ (pc : Nat) (lv : LV) (As rest : List AV) (S : XS) (o : RS), As.length = q.2.2.1 → rest.length ≤ 8 → decode cc pc = .ok (bif q.1 then .invokestatic q.2.1 else .invokevirtual q.2.1, 3) → (q.1 = true ∨ rcv T q.2.2.2.2.1 As = true) → q.2.2.2.2.2 As S = some o → (match o.2 with
  | none => R0 = (o.1, none)
  | some v => xG p l e R s m args below meth c cells slots Q D T g cI cZ A nL (pc + 3) lv (v.toList ++ rest) o.1) → xG p l e R s m args below meth c cells slots Q D T g cI cZ A nL pc lv (As.reverse ++ rest) S
/-- the method's end -/
def xRt (p : Program) (l : Launch) (e : Env) (R : Room) (s : State) (m : MethodId) (args : Array Value) (below : List Frame) (meth : Method) (c : Code) (cells slots : Nat) (Q : State → Prop) (D : va_G) (T : List WE) (g : Nat → Nat) (cI cZ : ClassId) (A : Nat → Prop) (nL : Nat) (cc : ByteArray) (zb : Nat) (R0 : RS) : Prop := ∀ (pc : Nat) (S : XS) (v : Option AV) (H : Heap) (locs : List Loc) (ls : Array Slot), R0 = (S, some v) → va_P D vwCl (ww T g cI cZ S) H → va_S A s.heap H locs → (match v with
  | none => decode cc pc = .ok (.return_, 1) ∧ zb = 2
  | some (.inl x) => decode cc pc = .ok (.ireturn, 1) ∧ zb ≤ 1 ∧ (zb = 0 ∨ x = 0 ∨ x = 1)
  | some (.inr _) => decode cc pc = .ok (.areturn, 1) ∧ zb = 3) → W p l e R s m args below meth c H locs cells slots Q (F0 m pc ls (v.toList.map (cv g)))
theorem vw_known : ∀ (ci : Nat) (C : String) (Tf : u_T) (N : Nat), vwCl[ci]? = some (C, Tf, N) → ∃ ty0 : Nat → FieldType, (∀ k, k < N → parseFieldDescriptor (Tf k).2.2.1 = some (ty0 k)) ∧ (∀ a, a < N → ∀ b, b < N → a ≠ b → (Tf a).2.1 ≠ (Tf b).2.1) := by
  intro ci C Tf N h
  match ci, h with
  | 0, h => cases h; exact ⟨tyX0, tyX0_ok, nmX0⟩
  | 1, h => cases h; exact ⟨tyX1, tyX1_ok, nmX1⟩
  | 2, h => cases h; exact ⟨tyX2, tyX2_ok, nmX2⟩
  | 3, h => cases h; exact ⟨tyX3, tyX3_ok, nmX3⟩
  | 4, h => cases h; exact ⟨tyX4, tyX4_ok, nmX4⟩
  | 5, h => cases h; exact ⟨tyX5, tyX5_ok, nmX5⟩
  | 6, h => cases h; exact ⟨tyX6, tyX6_ok, nmX6⟩
  | k + 7, h => simp [vwCl] at h
theorem brc_some {cd : Jvm.ClassFile.Cond} {x y : Int32} {a b : Option RS} {R : RS} (h : brc cd x y a b = some R) : match cd with
    | .eq => (x = y → a = some R) ∧ (¬ x = y → b = some R)
    | .ne => (¬ x = y → a = some R) ∧ (x = y → b = some R)
    | .lt => (x < y → a = some R) ∧ (¬ x < y → b = some R)
    | .ge => (y ≤ x → a = some R) ∧ (¬ y ≤ x → b = some R)
    | .gt => (y < x → a = some R) ∧ (¬ y < x → b = some R)
    | .le => (x ≤ y → a = some R) ∧ (¬ x ≤ y → b = some R) := by
  cases cd <;> (unfold brc at h; dsimp only at h ⊢; constructor) <;> (intro hc; simpa [hc] using h)
theorem wfd_get {g : Nat → Nat} {S : XS} {k q : Nat} {fds : List (Option Nat)} {d : Option Nat} (h : fds[q]? = some d) : (fds.mapIdx (wfd g S k))[q]? = some (cv g (fdv S k q d)) := by
  rw [List.getElem?_mapIdx, h]
  cases d <;> rfl
theorem ww_setf {T : List WE} {g : Nat → Nat} {cI cZ : ClassId} {S : XS} {k q ci : Nat} {v : Int32} {fds : List (Option Nat)} (h : T[k]? = some (.inr (ci, fds))) (hq : fds[q]? = some none) : (ww T g cI cZ S).set k (g k, .inr (ci, (fds.mapIdx (wfd g S k)).set q (.int v))) = ww T g cI cZ (up2 S k q v) := by
  refine ww_set h ?_
  show _ = (g k, Sum.inr (ci, fds.mapIdx (wfd g (up2 S k q v) k)))
  have e : (fds.mapIdx (wfd g S k)).set q (.int v) = fds.mapIdx (wfd g (up2 S k q v) k) := by
    apply List.ext_getElem?
    intro j
    rw [List.getElem?_set, List.getElem?_mapIdx, List.getElem?_mapIdx, List.length_mapIdx]
    have hl : q < fds.length := (List.getElem?_eq_some_iff.mp hq).1
    by_cases e : q = j
    · subst e
      rw [if_pos rfl, if_pos hl, hq]
      show some _ = some (wfd g (up2 S k q v) k q none)
      unfold wfd
      simp [up2, upd]
    · rw [if_neg e]
      cases fds[j]? with
      | none => rfl
      | some d =>
        show some (wfd g S k j d) = some (wfd g (up2 S k q v) k j d)
        cases d with
        | some _ => rfl
        | none =>
          show some (Value.int (S k j)) = some (Value.int (up2 S k q v k j))
          simp [up2, upd, Ne.symm e]
  rw [e]
theorem narrow_b01 {x : Int32} (h : x = 0 ∨ x = 1) : narrow .boolean (.int x) = .int x := by
  rcases h with h | h <;> subst h <;> decide
theorem fits_b01 {x : Int32} (h : x = 0 ∨ x = 1) : fits .boolean (.int x) = true := by
  rcases h with h | h <;> subst h <;> decide
theorem lk_place {lv : LV} {i : Nat} {v : AV} (h : lk lv i = some v) : ∃ k : Nat, lv[k]? = some (i, v) := by
  induction lv with
  | nil => cases h
  | cons q t ih =>
    obtain ⟨j, w⟩ := q
    unfold lk at h
    cases e : Nat.beq j i with
    | true =>
      rw [e] at h
      cases Option.some.inj h
      cases Nat.eq_of_beq_eq_true e
      exact ⟨0, rfl⟩
    | false =>
      rw [e] at h
      obtain ⟨k, hk⟩ := ih h
      exact ⟨k + 1, hk⟩
theorem lvc_place {g : Nat → Nat} {lv : LV} {k i : Nat} {v : AV} (h : lv[k]? = some (i, v)) : (lvc g lv)[k]? = some (i, cv g v) := by
  unfold lvc
  rw [List.getElem?_map, h]
  rfl
set_option maxHeartbeats 4000000 in
theorem xa_stp {p : Program} {l : Launch} {e : Env} {R : Room} {s : State} {m : MethodId} {args : Array Value} {below : List Frame} {meth : Method} {c : Code} {cells slots : Nat} {Q : State → Prop} {D : va_G} {T : List WE} {g : Nat → Nat} {cI cZ : ClassId} {A : Nat → Prop} {nL : Nat} {cc : ByteArray} {own : String} {zb : Nat} {cs : List CT} {R0 : RS} (C0 : xC p s m c D T g cI cZ A nL cc own) (hcs : ∀ (j : Nat) (q : CT), cs[j]? = some q → xCF p l e R s m args below meth c cells slots Q D T g cI cZ A nL cc R0 q) (hrt : xRt p l e R s m args below meth c cells slots Q D T g cI cZ A nL cc zb R0)
    {pc np : Nat} {i : Instr} {ns : List Nat} {v : Int32} (hr : rok cc nL zb (pc, i, np, ns, v) = true) (hf : xF s args own (pc, i, np, ns, v)) {K : KT} (hK : ∀ pc lv st S, K pc lv st S = some R0 → xG p l e R s m args below meth c cells slots Q D T g cI cZ A nL pc lv st S)
    {lv : LV} {st : List AV} {S : XS} (h : stp T cs i np ns v lv st S K = some R0) : xG p l e R s m args below meth c cells slots Q D T g cI cZ A nL pc lv st S := by
  obtain ⟨hx, hb, hml, hown, hKK, hDD, hst⟩ := C0
  obtain ⟨hr1, ho⟩ := Bool.and_eq_true_iff.mp hr
  obtain ⟨hd0, hn0⟩ := Bool.and_eq_true_iff.mp hr1
  have hd : decode cc pc = .ok (i, np - pc) := of_decide_eq_true hd0
  have hn : ntab i = true → np = pc + ilen i := fun e => by
    rcases Bool.or_eq_true_iff.mp hn0 with q | q
    · have q : (!ntab i) = true := q
      rw [e] at q; cases q
    · exact of_decide_eq_true q
  clear hr hr1 hd0 hn0
  intro H locs ls hP hS hl
  unfold stp at h
  split at h
  · obtain rfl : np = pc + 1 := hn rfl
    rw [Nat.add_sub_cancel_left] at hd
    exact lv_iconst hx hb hd (of_decide_eq_true ho) (hK _ _ _ _ h H locs ls hP hS hl)
  · obtain rfl : np = pc + 2 := hn rfl
    rw [Nat.add_sub_cancel_left] at hd
    exact lv_bipush hx hb hd (of_decide_eq_true ho) (hK _ _ _ _ h H locs ls hP hS hl)
  · obtain rfl : np = pc + 3 := hn rfl
    rw [Nat.add_sub_cancel_left] at hd
    exact lv_sipush hx hb hd (of_decide_eq_true ho) (hK _ _ _ _ h H locs ls hP hS hl)
  · obtain rfl : np = pc + 2 := hn rfl
    rw [Nat.add_sub_cancel_left] at hd
    exact lv_ldc hx hb hown hf hd (hK _ _ _ _ h H locs ls hP hS hl)
  · obtain rfl : np = pc + 3 := hn rfl
    rw [Nat.add_sub_cancel_left] at hd
    exact lv_ldcw hx hb hown hf hd (hK _ _ _ _ h H locs ls hP hS hl)
  · obtain ⟨x, hx1, hh1⟩ := ldi_some h
    obtain rfl : np = pc + 1 := hn rfl
    rw [Nat.add_sub_cancel_left] at hd
    exact lv_iload_n hx hb hd rfl (lk_at hl hx1) (hK _ _ _ _ hh1 H locs ls hP hS hl)
  · obtain ⟨x, hx1, hh1⟩ := ldi_some h
    obtain rfl : np = pc + 2 := hn rfl
    rw [Nat.add_sub_cancel_left] at hd
    exact lv_iload hx hb hd (lk_at hl hx1) (hK _ _ _ _ hh1 H locs ls hP hS hl)
  · obtain ⟨x, hx1, hh1⟩ := ldr_some h
    obtain rfl : np = pc + 1 := hn rfl
    rw [Nat.add_sub_cancel_left] at hd
    exact lv_aload_n hx hb hd rfl (lk_at hl hx1) (hK _ _ _ _ hh1 H locs ls hP hS hl)
  · obtain ⟨x, hx1, hh1⟩ := ldr_some h
    obtain rfl : np = pc + 2 := hn rfl
    rw [Nat.add_sub_cancel_left] at hd
    exact lv_aload hx hb hd (lk_at hl hx1) (hK _ _ _ _ hh1 H locs ls hP hS hl)
  · obtain ⟨x, r, rfl, hh1⟩ := pi1_some h
    obtain rfl : np = pc + 1 := hn rfl
    rw [Nat.add_sub_cancel_left] at hd
    exact lv_istore_n hx hb hd rfl hl (of_decide_eq_true ho) rfl (fun ls hl => hK _ _ _ _ hh1 H locs ls hP hS (lv_dl (v := .inl x) rfl hl))
  · obtain ⟨x, r, rfl, hh1⟩ := pi1_some h
    obtain rfl : np = pc + 2 := hn rfl
    rw [Nat.add_sub_cancel_left] at hd
    exact lv_istore hx hb hd hl (of_decide_eq_true ho) rfl (fun ls hl => hK _ _ _ _ hh1 H locs ls hP hS (lv_dl (v := .inl x) rfl hl))
  · obtain ⟨x, r, rfl, hh1⟩ := pr1_some h
    obtain rfl : np = pc + 1 := hn rfl
    rw [Nat.add_sub_cancel_left] at hd
    exact lv_astore_n hx hb hd rfl hl (of_decide_eq_true ho) rfl (fun ls hl => hK _ _ _ _ hh1 H locs ls hP hS (lv_dl (v := .inr x) rfl hl))
  · obtain ⟨x, r, rfl, hh1⟩ := pr1_some h
    obtain rfl : np = pc + 2 := hn rfl
    rw [Nat.add_sub_cancel_left] at hd
    exact lv_astore hx hb hd hl (of_decide_eq_true ho) rfl (fun ls hl => hK _ _ _ _ hh1 H locs ls hP hS (lv_dl (v := .inr x) rfl hl))
  · obtain ⟨x, hx1, hh1⟩ := ldi_some h
    have ho2 := Bool.and_eq_true_iff.mp ho
    obtain ⟨k9, hk9⟩ := lk_place hx1
    obtain rfl : np = pc + 3 := hn rfl
    rw [Nat.add_sub_cancel_left] at hd
    exact lv_iinc (k := k9) (x := x) (v := x + v) hx hb hd hl (lvc_place hk9) (by rw [of_decide_eq_true ho2.1]) (of_decide_eq_true ho2.2) rfl (fun ls hl => hK _ _ _ _ hh1 H locs ls hP hS (lv_dl (v := .inl (x + v)) rfl hl))
  · obtain ⟨y, r, rfl, hh1⟩ := pi1_some h
    obtain ⟨x, r, rfl, hh2⟩ := pi1_some hh1
    obtain rfl : np = pc + 1 := hn rfl
    rw [Nat.add_sub_cancel_left] at hd
    exact lv_iadd hx hb hd (hK _ _ _ _ hh2 H locs ls hP hS hl)
  · obtain ⟨y, r, rfl, hh1⟩ := pi1_some h
    obtain ⟨x, r, rfl, hh2⟩ := pi1_some hh1
    obtain rfl : np = pc + 1 := hn rfl
    rw [Nat.add_sub_cancel_left] at hd
    exact lv_isub hx hb hd (hK _ _ _ _ hh2 H locs ls hP hS hl)
  · obtain ⟨y, r, rfl, hh1⟩ := pi1_some h
    obtain ⟨x, r, rfl, hh2⟩ := pi1_some hh1
    obtain rfl : np = pc + 1 := hn rfl
    rw [Nat.add_sub_cancel_left] at hd
    exact lv_imul hx hb hd (hK _ _ _ _ hh2 H locs ls hP hS hl)
  · obtain ⟨y, r, rfl, hh1⟩ := pi1_some h
    obtain ⟨x, r, rfl, hh2⟩ := pi1_some hh1
    obtain rfl : np = pc + 1 := hn rfl
    rw [Nat.add_sub_cancel_left] at hd
    exact lv_iand hx hb hd (hK _ _ _ _ hh2 H locs ls hP hS hl)
  · obtain ⟨y, r, rfl, hh1⟩ := pi1_some h
    obtain ⟨x, r, rfl, hh2⟩ := pi1_some hh1
    obtain rfl : np = pc + 1 := hn rfl
    rw [Nat.add_sub_cancel_left] at hd
    exact lv_ior hx hb hd (hK _ _ _ _ hh2 H locs ls hP hS hl)
  · obtain ⟨y, r, rfl, hh1⟩ := pi1_some h
    obtain ⟨x, r, rfl, hh2⟩ := pi1_some hh1
    split at hh2
    · cases hh2
    rename_i hy0
    obtain rfl : np = pc + 1 := hn rfl
    rw [Nat.add_sub_cancel_left] at hd
    exact lv_idiv hx hb hd hy0 (hK _ _ _ _ hh2 H locs ls hP hS hl)
  · obtain ⟨x, r, rfl, hh1⟩ := pi1_some h
    obtain rfl : np = pc + 1 := hn rfl
    rw [Nat.add_sub_cancel_left] at hd
    exact lv_ineg hx hb hd (hK _ _ _ _ hh1 H locs ls hP hS hl)
  · rename_i cd off
    obtain ⟨x, r, rfl, hh1⟩ := pi1_some h
    have hh1 := brc_some hh1
    obtain rfl : np = pc + 3 := hn rfl
    rw [Nat.add_sub_cancel_left] at hd
    cases cd with
    | eq => exact lv_if_eq (tgt := ns.headD 0) hx hb hd (of_decide_eq_true ho) (fun hc => hK _ _ _ _ (hh1.1 hc) H locs ls hP hS hl) (fun hc => hK _ _ _ _ (hh1.2 hc) H locs ls hP hS hl)
    | ne => exact lv_if_ne (tgt := ns.headD 0) hx hb hd (of_decide_eq_true ho) (fun hc => hK _ _ _ _ (hh1.1 hc) H locs ls hP hS hl) (fun hc => hK _ _ _ _ (hh1.2 hc) H locs ls hP hS hl)
    | lt => exact lv_if_lt (tgt := ns.headD 0) hx hb hd (of_decide_eq_true ho) (fun hc => hK _ _ _ _ (hh1.1 hc) H locs ls hP hS hl) (fun hc => hK _ _ _ _ (hh1.2 hc) H locs ls hP hS hl)
    | ge => exact lv_if_ge (tgt := ns.headD 0) hx hb hd (of_decide_eq_true ho) (fun hc => hK _ _ _ _ (hh1.1 hc) H locs ls hP hS hl) (fun hc => hK _ _ _ _ (hh1.2 hc) H locs ls hP hS hl)
    | gt => exact lv_if_gt (tgt := ns.headD 0) hx hb hd (of_decide_eq_true ho) (fun hc => hK _ _ _ _ (hh1.1 hc) H locs ls hP hS hl) (fun hc => hK _ _ _ _ (hh1.2 hc) H locs ls hP hS hl)
    | le => exact lv_if_le (tgt := ns.headD 0) hx hb hd (of_decide_eq_true ho) (fun hc => hK _ _ _ _ (hh1.1 hc) H locs ls hP hS hl) (fun hc => hK _ _ _ _ (hh1.2 hc) H locs ls hP hS hl)
  · rename_i cd off
    obtain ⟨y, r, rfl, hh1⟩ := pi1_some h
    obtain ⟨x, r, rfl, hh2⟩ := pi1_some hh1
    have hh2 := brc_some hh2
    obtain rfl : np = pc + 3 := hn rfl
    rw [Nat.add_sub_cancel_left] at hd
    cases cd with
    | eq => exact lv_icmp_eq (tgt := ns.headD 0) hx hb hd (of_decide_eq_true ho) (fun hc => hK _ _ _ _ (hh2.1 hc) H locs ls hP hS hl) (fun hc => hK _ _ _ _ (hh2.2 hc) H locs ls hP hS hl)
    | ne => exact lv_icmp_ne (tgt := ns.headD 0) hx hb hd (of_decide_eq_true ho) (fun hc => hK _ _ _ _ (hh2.1 hc) H locs ls hP hS hl) (fun hc => hK _ _ _ _ (hh2.2 hc) H locs ls hP hS hl)
    | lt => exact lv_icmp_lt (tgt := ns.headD 0) hx hb hd (of_decide_eq_true ho) (fun hc => hK _ _ _ _ (hh2.1 hc) H locs ls hP hS hl) (fun hc => hK _ _ _ _ (hh2.2 hc) H locs ls hP hS hl)
    | ge => exact lv_icmp_ge (tgt := ns.headD 0) hx hb hd (of_decide_eq_true ho) (fun hc => hK _ _ _ _ (hh2.1 hc) H locs ls hP hS hl) (fun hc => hK _ _ _ _ (hh2.2 hc) H locs ls hP hS hl)
    | gt => exact lv_icmp_gt (tgt := ns.headD 0) hx hb hd (of_decide_eq_true ho) (fun hc => hK _ _ _ _ (hh2.1 hc) H locs ls hP hS hl) (fun hc => hK _ _ _ _ (hh2.2 hc) H locs ls hP hS hl)
    | le => exact lv_icmp_le (tgt := ns.headD 0) hx hb hd (of_decide_eq_true ho) (fun hc => hK _ _ _ _ (hh2.1 hc) H locs ls hP hS hl) (fun hc => hK _ _ _ _ (hh2.2 hc) H locs ls hP hS hl)
  · obtain rfl : np = pc + 3 := hn rfl
    rw [Nat.add_sub_cancel_left] at hd
    exact lv_goto (tgt := ns.headD 0) hx hb hd (of_decide_eq_true ho) (hK _ _ _ _ h H locs ls hP hS hl)
  · rename_i dd lo hi os
    obtain ⟨x, r, rfl, hh1⟩ := pi1_some h
    have ho2 := Bool.and_eq_true_iff.mp ho
    have ho3 := Bool.and_eq_true_iff.mp ho2.1
    have e1 := of_decide_eq_true ho3.1
    have e2 := of_decide_eq_true ho3.2
    have e3 := of_decide_eq_true ho2.2
    have e4 : ns.tail.length = os.size := by
      have := congrArg List.length e3
      simpa using this.symm
    rcases tsw_some _ _ hh1 with ⟨i, t, h1, h2, h3⟩ | ⟨h1, h2⟩
    · have hi : i < ns.tail.length := (List.getElem?_eq_some_iff.mp h1).1
      have e5 : (os.toList.map (fun o => (pc : Int) + o))[i]? = some (t : Int) := by rw [e3, List.getElem?_map, h1]; rfl
      rw [List.getElem?_map] at e5
      cases e6 : os.toList[i]? with
      | none => rw [e6] at e5; cases e5
      | some off =>
        rw [e6] at e5
        have e7 : (pc : Int) + off = (t : Int) := Option.some.inj e5
        refine lv_tableIn (off := off) (tgt := t) hx hb hd (by omega) (by omega) ?_ e7 (hK _ _ _ _ h3 H locs ls hP hS hl)
        rw [show (x.toInt - lo).toNat = i by omega, ← Array.getElem?_toList, e6]
    · refine lv_tableOut (tgt := ns.headD 0) hx hb hd (by omega) e1 (hK _ _ _ _ h2 H locs ls hP hS hl)
  · split at h
    · rename_i v1 r
      obtain rfl : np = pc + 1 := hn rfl
      rw [Nat.add_sub_cancel_left] at hd
      exact lv_dup hx hb hd (cv_cat g v1) (hK _ _ _ _ h H locs ls hP hS hl)
    · cases h
  · split at h
    · rename_i v1 w1 r
      obtain rfl : np = pc + 1 := hn rfl
      rw [Nat.add_sub_cancel_left] at hd
      exact lv_dup2_11 hx hb hd (cv_cat g v1) (cv_cat g w1) (hK _ _ _ _ h H locs ls hP hS hl)
    · cases h
  · obtain rfl : np = pc + 3 := hn rfl
    rw [Nat.add_sub_cancel_left] at hd
    exact va_gets (C := RX1) (n := "MOST") (d := "[I") (ref := RX1) hx hb hst.1 hS hown hf (fun _ q => q) hd (hK _ _ _ _ h H locs ls hP hS hl)
  · rename_i idx
    obtain ⟨o, r, rfl, hh1⟩ := pr1_some h
    obtain ⟨fds, d, h1, h2, hh2⟩ := gf_some hh1
    obtain ⟨C, Tf, N, hc, hkN, hw, hlk⟩ := hf
    obtain rfl : np = pc + 3 := hn rfl
    rw [Nat.add_sub_cancel_left] at hd
    rcases hlk with hlk | ⟨host, hlk⟩
    · exact va_get (D := D) (T := Tf) (N := N) (C := C) hx hb hw (fun _ q => q) hown hKK hP o (ww_get h1) hc _ hkN hlk (fun _ q => q) (wfd_get h2) hd (hK _ _ _ _ hh2 H locs ls hP hS hl)
    · exact va_getN (D := D) (T := Tf) (N := N) (C := C) hx hb hw (fun _ q => q) hown hKK hP o (ww_get h1) hc _ hkN hlk (fun _ q => q) (wfd_get h2) hd (hK _ _ _ _ hh2 H locs ls hP hS hl)
  · rename_i idx
    obtain ⟨x, r, rfl, hh1⟩ := pi1_some h
    obtain ⟨o, r, rfl, hh2⟩ := pr1_some hh1
    obtain ⟨fds, h1, h2, h3, hh3⟩ := pf_some hh2
    obtain ⟨C, Tf, N, ⟨hc, hkN, hw, hlk⟩, hfin, hpd⟩ := hf
    obtain ⟨ty0, hty, hnm⟩ := vw_known _ _ _ _ hc
    have hql : ns.getD 1 0 < (fds.mapIdx (wfd g S o)).length := by rw [List.length_mapIdx]; exact (List.getElem?_eq_some_iff.mp h2).1
    have hnv : narrow (if ns.getD 2 0 = 0 then FieldType.int else FieldType.boolean) (.int x) = .int x := by
      by_cases e : ns.getD 2 0 = 0
      · rw [if_pos e]; exact vp_nar_int x
      · rw [if_neg e]; exact narrow_b01 (h3.resolve_left e)
    have hfv : fits (if ns.getD 2 0 = 0 then FieldType.int else FieldType.boolean) (.int x) = true := by
      by_cases e : ns.getD 2 0 = 0
      · rw [if_pos e]; rfl
      · rw [if_neg e]; exact fits_b01 (h3.resolve_left e)
    obtain rfl : np = pc + 3 := hn rfl
    rw [Nat.add_sub_cancel_left] at hd
    rcases hlk with hlk | ⟨host, hlk⟩
    · exact va_put (D := D) (T := Tf) (N := N) (C := C) hx hb hw (fun _ q => q) ty0 hty hnm hown hKK hP (hDD S) hS o (ww_get h1) hc _ hkN hlk (fun _ q => q) hfin hpd hnv hfv hql hd (fun H1 locs1 hP1 _ hS1 => hK _ _ _ _ hh3 H1 locs1 ls (by rw [← ww_setf h1 h2]; exact hP1) hS1 hl)
    · exact va_putN (D := D) (T := Tf) (N := N) (C := C) hx hb hw (fun _ q => q) ty0 hty hnm hown hKK hP (hDD S) hS o (ww_get h1) hc _ hkN hlk (fun _ q => q) hfin hpd hnv hfv hql hd (fun H1 locs1 hP1 _ hS1 => hK _ _ _ _ hh3 H1 locs1 ls (by rw [← ww_setf h1 h2]; exact hP1) hS1 hl)
  · obtain ⟨i, r, rfl, hh1⟩ := pi1_some h
    obtain ⟨o, r, rfl, hh2⟩ := pr1_some hh1
    obtain rfl : np = pc + 1 := hn rfl
    rw [Nat.add_sub_cancel_left] at hd
    rcases al_some hh2 with ⟨n, h1, h2, h3⟩ | ⟨h1, -, h2, h3⟩
    · exact va_iald (D := D) hx hb hKK hP o 0 (ww_get h1) rfl h2 hd (hK _ _ _ _ h3 H locs ls hP hS hl)
    · subst h1
      exact va_ti hx hb hst.2 hS h2 rfl hd (hK _ _ _ _ h3 H locs ls hP hS hl)
  · obtain ⟨i, r, rfl, hh1⟩ := pi1_some h
    obtain ⟨o, r, rfl, hh2⟩ := pr1_some hh1
    obtain rfl : np = pc + 1 := hn rfl
    rw [Nat.add_sub_cancel_left] at hd
    rcases al_some hh2 with ⟨n, h1, h2, h3⟩ | ⟨-, h1, -, -⟩
    · exact va_zald (D := D) hx hb hKK hP o 1 (ww_get h1) rfl h2 hd (hK _ _ _ _ h3 H locs ls hP hS hl)
    · cases h1
  · obtain ⟨x, r, rfl, hh1⟩ := pi1_some h
    obtain ⟨i, r, rfl, hh2⟩ := pi1_some hh1
    obtain ⟨o, r, rfl, hh3⟩ := pr1_some hh2
    obtain ⟨n, h1, h2, hh4⟩ := ast_some hh3
    obtain rfl : np = pc + 1 := hn rfl
    rw [Nat.add_sub_cancel_left] at hd
    exact va_iast (D := D) hx hb hKK hP (hDD S) hS o 0 (ww_get h1) rfl h2 hd (fun H1 locs1 hP1 _ hS1 => hK _ _ _ _ hh4 H1 locs1 ls (by rw [← ww_set h1 (by unfold wce; rw [up2_eq])]; exact hP1) hS1 hl)
  · obtain ⟨x, r, rfl, hh1⟩ := pi1_some h
    obtain ⟨i, r, rfl, hh2⟩ := pi1_some hh1
    obtain ⟨o, r, rfl, hh3⟩ := pr1_some hh2
    obtain ⟨n, h1, h2, hh4⟩ := ast_some hh3
    obtain rfl : np = pc + 1 := hn rfl
    rw [Nat.add_sub_cancel_left] at hd
    exact va_zast (D := D) hx hb hKK hP (hDD S) hS o 1 (ww_get h1) rfl h2 hd (fun H1 locs1 hP1 _ hS1 => hK _ _ _ _ hh4 H1 locs1 ls (by rw [← ww_set h1 (by unfold wce; rw [up2_eq])]; exact hP1) hS1 hl)
  · rename_i idx
    obtain ⟨n, rk, ci, sem, h1, h2, h3, h6, hh1⟩ := cal_some h
    obtain ⟨o, h4, h5⟩ := crk_some hh1
    obtain rfl : np = pc + 3 := hn rfl
    rw [Nat.add_sub_cancel_left] at hd
    have e1 : st = (st.take n).reverse.reverse ++ st.drop n := by rw [List.reverse_reverse, List.take_append_drop]
    rw [e1]
    refine hcs _ _ h1 pc lv (st.take n).reverse (st.drop n) S o ?_ ?_ hd h6 h4 ?_ H locs ls hP hS hl
    · rw [List.length_reverse, List.length_take]; exact Nat.min_eq_left h2
    · rw [List.length_drop]; exact h3
    · cases e2 : o.2 with
      | none => rw [e2] at h5; exact h5
      | some v => rw [e2] at h5; exact hK _ _ _ _ h5
  · rename_i idx
    obtain ⟨n, rk, ci, sem, h1, h2, h3, h6, hh1⟩ := cal_some h
    obtain ⟨o, h4, h5⟩ := crk_some hh1
    obtain rfl : np = pc + 3 := hn rfl
    rw [Nat.add_sub_cancel_left] at hd
    have e1 : st = (st.take n).reverse.reverse ++ st.drop n := by rw [List.reverse_reverse, List.take_append_drop]
    rw [e1]
    refine hcs _ _ h1 pc lv (st.take n).reverse (st.drop n) S o ?_ ?_ hd h6 h4 ?_ H locs ls hP hS hl
    · rw [List.length_reverse, List.length_take]; exact Nat.min_eq_left h2
    · rw [List.length_drop]; exact h3
    · cases e2 : o.2 with
      | none => rw [e2] at h5; exact h5
      | some v => rw [e2] at h5; exact hK _ _ _ _ h5
  · unfold reti at h
    split at h
    · rename_i x
      have hz : (ns.headD 0 = 0 ∨ x = 0 ∨ x = 1) ∧ R0 = (S, some (some (.inl x))) := by
        cases hb0 : Nat.beq (ns.headD 0) 0 with
        | true => rw [hb0] at h; exact ⟨Or.inl (Nat.eq_of_beq_eq_true hb0), (Option.some.inj h).symm⟩
        | false =>
          rw [hb0] at h
          dsimp only [cond_false] at h
          split at h
          · exact ⟨Or.inr (by assumption), (Option.some.inj h).symm⟩
          · cases h
      have ho2 := Bool.and_eq_true_iff.mp ho
      have hzb : ns.headD 0 = zb := of_decide_eq_true ho2.1
      obtain rfl : np = pc + 1 := hn rfl
      rw [Nat.add_sub_cancel_left] at hd
      exact hrt pc S (some (.inl x)) H locs ls hz.2 hP hS ⟨hd, of_decide_eq_true ho2.2, by rw [← hzb]; exact hz.1⟩
    · cases h
  · unfold retr at h
    split at h
    · rename_i x
      obtain rfl : np = pc + 1 := hn rfl
      rw [Nat.add_sub_cancel_left] at hd
      exact hrt pc S (some (.inr x)) H locs ls (Option.some.inj h).symm hP hS ⟨hd, of_decide_eq_true ho⟩
    · cases h
  · unfold retv at h
    split at h
    · have hn1 : np = pc + 1 := hn rfl
      subst hn1
      rw [Nat.add_sub_cancel_left] at hd
      exact hrt pc S none H locs ls (Option.some.inj h).symm hP hS ⟨hd, of_decide_eq_true ho⟩
    · cases h
  · cases h
theorem xa_brn {p : Program} {l : Launch} {e : Env} {R : Room} {s : State} {m : MethodId} {args : Array Value} {below : List Frame} {meth : Method} {c : Code} {cells slots : Nat} {Q : State → Prop} {D : va_G} {T : List WE} {g : Nat → Nat} {cI cZ : ClassId} {A : Nat → Prop} {nL : Nat} {cc : ByteArray} {own : String} {zb : Nat} {cs : List CT} {R0 : RS} (C0 : xC p s m c D T g cI cZ A nL cc own) (hcs : ∀ (j : Nat) (q : CT), cs[j]? = some q → xCF p l e R s m args below meth c cells slots Q D T g cI cZ A nL cc R0 q) (hrt : xRt p l e R s m args below meth c cells slots Q D T g cI cZ A nL cc zb R0)
    {L : List CE} (hL : ∀ q ∈ L, rok cc nL zb q = true) (hF : ∀ q ∈ L, xF s args own q) {ss : List Nat} {K : KT} (hK : ∀ pc lv st S, K pc lv st S = some R0 → xG p l e R s m args below meth c cells slots Q D T g cI cZ A nL pc lv st S) :
    ∀ (n : Nat) (suf : List CE) (_ : ∀ z ∈ suf, z ∈ L) (pc : Nat) (lv : LV) (st : List AV) (S : XS), brn T cs L ss K n suf pc lv st S = some R0 → xG p l e R s m args below meth c cells slots Q D T g cI cZ A nL pc lv st S := by
  intro n
  induction n with
  | zero => intro suf hs pc lv st S h; cases h
  | succ n ih =>
    intro suf hs pc lv st S h
    unfold brn at h
    split at h
    · cases h
    · rename_i pc' i np ns v t e
      obtain ⟨h1, h2, h3⟩ := nxt_mem hs e
      cases h2
      refine xa_stp C0 hcs hrt (hL _ h1) (hF _ h1) ?_ h
      intro pc lv st S h
      cases e2 : mem1 ss pc with
      | true => rw [e2] at h; exact hK _ _ _ _ h
      | false => rw [e2] at h; exact ih t h3 _ _ _ _ h
theorem xa_dsp {p : Program} {l : Launch} {e : Env} {R : Room} {s : State} {m : MethodId} {args : Array Value} {below : List Frame} {meth : Method} {c : Code} {cells slots : Nat} {Q : State → Prop} {D : va_G} {T : List WE} {g : Nat → Nat} {cI cZ : ClassId} {A : Nat → Prop} {nL : Nat} {R0 : RS} : ∀ (ds : List (Nat × List Nat × BT)), (∀ q ∈ ds, ∀ lv st S, q.2.2 lv st S = some R0 → xG p l e R s m args below meth c cells slots Q D T g cI cZ A nL q.1 lv st S) → ∀ pc lv st S, dsp ds pc lv st S = some R0 → xG p l e R s m args below meth c cells slots Q D T g cI cZ A nL pc lv st S := by
  intro ds
  induction ds with
  | nil => intro _ pc lv st S h; cases h
  | cons q t ih =>
    obtain ⟨q, live, f⟩ := q
    intro hds pc lv st S h
    unfold dsp at h
    cases e : Nat.beq q pc with
    | true =>
      rw [e] at h
      cases Nat.eq_of_beq_eq_true e
      dsimp only [cond_true] at h
      split at h
      · rename_i lv' e1
        intro H locs ls hP hS hl
        exact hds _ List.mem_cons_self lv' st S h H locs ls hP hS (pk_has hl live lv' e1)
      · cases h
    | false =>
      rw [e] at h
      exact ih (fun z hz => hds z (List.mem_cons_of_mem _ hz)) pc lv st S h
end
section
/-! Contracts out of the interpreter. -/
def isNest (w : Jvm.Cond) : Bool := match w with
  | .fieldLinkNest _ _ _ _ _ _ => true
  | .methodLinkNest _ _ _ _ => true
  | _ => false
theorem nest_warm {w : Jvm.Cond} {s U : State} (hn : isNest w = true) (hW : s.WarmedH U.vm) (h : va_Nw w s) : va_Nw w U := by
  unfold isNest at hn
  split at hn
  · exact h.warmF hW
  · exact h.warmM hW
  · cases hn
theorem nest_tabs {w : Jvm.Cond} (hn : isNest w = true) : w.onTables = true := by
  unfold isNest at hn
  split at hn
  · rfl
  · rfl
  · cases hn
def nwl : List Jvm.Cond := [.fieldLinkNest "StackMarks" 100 "StackMarks$Items" "x" "[I" "StackMarks", .fieldLinkNest "StackMarks" 67 "StackMarks$Items" "low" "[I" "StackMarks", .fieldLinkNest "StackMarks" 70 "StackMarks$Items" "high" "[I" "StackMarks", .fieldLinkNest "StackMarks" 188 "StackMarks$Items" "voice" "[I" "StackMarks", .fieldLinkNest "StackMarks" 191 "StackMarks$Items" "stem" "[I" "StackMarks", .fieldLinkNest "StackMarks" 194 "StackMarks$Items" "rest" "[I" "StackMarks", .fieldLinkNest "StackMarks" 200 "StackMarks$Items" "count" "I" "StackMarks", .fieldLinkNest "StackMarks" 181 "StackMarks$Marks" "item" "[I" "StackMarks", .fieldLinkNest "StackMarks" 224 "StackMarks$Marks" "kind" "[I" "StackMarks", .fieldLinkNest "StackMarks" 230 "StackMarks$Marks" "width" "[I" "StackMarks", .fieldLinkNest "StackMarks" 302 "StackMarks$Marks" "height" "[I" "StackMarks", .fieldLinkNest "StackMarks" 96 "StackMarks$Marks" "gone" "[Z" "StackMarks", .fieldLinkNest "StackMarks" 127 "StackMarks$Marks" "left" "[I" "StackMarks", .fieldLinkNest "StackMarks" 134 "StackMarks$Marks" "side" "[I" "StackMarks", .fieldLinkNest "StackMarks" 137 "StackMarks$Marks" "inner" "[I" "StackMarks", .fieldLinkNest "StackMarks" 140 "StackMarks$Marks" "outer" "[I" "StackMarks", .fieldLinkNest "StackMarks" 143 "StackMarks$Marks" "inRow" "[Z" "StackMarks", .fieldLinkNest "StackMarks" 146 "StackMarks$Marks" "turn" "[I" "StackMarks", .fieldLinkNest "StackMarks" 86 "StackMarks$Marks" "count" "I" "StackMarks", .fieldLinkNest "StackMarks" 250 "StackMarks$Slurs" "from" "[I" "StackMarks", .fieldLinkNest "StackMarks" 253 "StackMarks$Slurs" "to" "[I" "StackMarks", .fieldLinkNest "StackMarks" 249 "StackMarks$Slurs" "side" "[I" "StackMarks", .fieldLinkNest "StackMarks" 256 "StackMarks$Slurs" "thickness" "[I" "StackMarks", .fieldLinkNest "StackMarks" 150 "StackMarks$Slurs" "inner" "[I" "StackMarks", .fieldLinkNest "StackMarks" 151 "StackMarks$Slurs" "outer" "[I" "StackMarks", .fieldLinkNest "StackMarks" 106 "StackMarks$Slurs" "count" "I" "StackMarks", .fieldLinkNest "StackMarks" 161 "StackMarks$Outline" "rowInner" "[I" "StackMarks", .fieldLinkNest "StackMarks" 219 "StackMarks$Outline" "outermost" "I" "StackMarks", .methodLinkNest "StackMarks" 9 ⟨"StackMarks$Items", "<init>", "()V"⟩ "StackMarks", .methodLinkNest "StackMarks" 18 ⟨"StackMarks$Kinds", "<init>", "()V"⟩ "StackMarks", .methodLinkNest "StackMarks" 25 ⟨"StackMarks$Marks", "<init>", "()V"⟩ "StackMarks", .methodLinkNest "StackMarks" 32 ⟨"StackMarks$Slurs", "<init>", "()V"⟩ "StackMarks", .methodLinkNest "StackMarks" 39 ⟨"StackMarks$Outline", "<init>", "()V"⟩ "StackMarks", .methodLinkNest "StackMarks" 214 ⟨"StackMarks$Items", "isAt", "(I)Z"⟩ "StackMarks", .methodLinkNest "StackMarks" 217 ⟨"StackMarks$Items", "add", "(IIIIII)I"⟩ "StackMarks", .methodLinkNest "StackMarks" 64 ⟨"StackMarks$Items", "has", "(I)Z"⟩ "StackMarks", .methodLinkNest "StackMarks" 77 ⟨"StackMarks$Kinds", "has", "(I)Z"⟩ "StackMarks", .methodLinkNest "StackMarks" 78 ⟨"StackMarks$Kinds", "takes", "(II)Z"⟩ "StackMarks", .methodLinkNest "StackMarks" 82 ⟨"StackMarks$Kinds", "change", "(III)I"⟩ "StackMarks", .methodLinkNest "StackMarks" 91 ⟨"StackMarks$Marks", "add", "(IIII)I"⟩ "StackMarks", .methodLinkNest "StackMarks" 95 ⟨"StackMarks$Marks", "has", "(I)Z"⟩ "StackMarks", .methodLinkNest "StackMarks" 107 ⟨"StackMarks$Slurs", "add", "(IIII)I"⟩ "StackMarks", .methodLinkNest "StackMarks" 108 ⟨"StackMarks$Outline", "clear", "()V"⟩ "StackMarks", .methodLinkNest "StackMarks" 246 ⟨"StackMarks$Outline", "cover", "(III)V"⟩ "StackMarks", .methodLinkNest "StackMarks" 157 ⟨"StackMarks$Outline", "greatest", "(II)I"⟩ "StackMarks", .methodLinkNest "StackMarks" 259 ⟨"StackMarks$Outline", "reachOut", "(I)V"⟩ "StackMarks", .methodLinkNest "StackMarks" 262 ⟨"StackMarks$Items", "haveBothVoices", "()Z"⟩ "StackMarks", .methodLinkNest "StackMarks" 227 ⟨"StackMarks$Kinds", "liesFromX", "(I)Z"⟩ "StackMarks", .methodLinkNest "StackMarks" 284 ⟨"StackMarks$Kinds", "get", "(II)I"⟩ "StackMarks", .methodLinkNest "StackMarks" 282 ⟨"StackMarks$Kinds", "rank", "(I)I"⟩ "StackMarks", .methodLinkNest "StackMarks" 290 ⟨"StackMarks$Kinds", "isInRow", "(I)Z"⟩ "StackMarks", .methodLinkNest "StackMarks" 130 ⟨"StackMarks$Marks", "behind", "(I)I"⟩ "StackMarks", .methodLinkNest "StackMarks" 314 ⟨"StackMarks$Marks", "isOf", "(III)Z"⟩ "StackMarks", .methodLinkNest "StackMarks" 171 ⟨"StackMarks$Marks", "shareX", "(II)Z"⟩ "StackMarks", .methodLinkNest "StackMarks" 221 ⟨"StackMarks$Items", "next", "(I)I"⟩ "StackMarks", .methodLinkNest "StackMarks" 177 ⟨"StackMarks$Items", "greatestX", "()I"⟩ "StackMarks", .methodLinkNest "StackMarks" 184 ⟨"StackMarks$Items", "moveBehind", "(II)V"⟩ "StackMarks", .methodLinkNest "StackMarks" 197 ⟨"StackMarks$Marks", "countAt", "(I)I"⟩ "StackMarks", .methodLinkNest "StackMarks" 149 ⟨"StackMarks$Slurs", "has", "(I)Z"⟩ "StackMarks", .methodLinkNest "StackMarks" 164 ⟨"StackMarks$Marks", "isOn", "(III)Z"⟩ "StackMarks", .methodLinkNest "StackMarks" 167 ⟨"StackMarks$Marks", "countNearer", "(I)I"⟩ "StackMarks", .methodLinkNest "StackMarks" 201 ⟨"StackMarks$Marks", "countThere", "()I"⟩ "StackMarks"]
theorem nwl_nest : ∀ w ∈ nwl, isNest w = true := by decide +kernel
theorem nwl_in : ∀ w ∈ nwl, w ∈ lw_tbl := by decide +kernel
def xNw (U : State) : Prop := ∀ w ∈ nwl, va_Nw w U
theorem xNw.warm {s U : State} (hW : s.WarmedH U.vm) (h : xNw s) : xNw U := fun w hw => nest_warm (nwl_nest w hw) hW (h w hw)
theorem xNw.same {s U : State} (hv : s.vm = U.vm) (h : xNw s) : xNw U := fun w hw => (h w hw).same (nest_tabs (nwl_nest w hw)) hv
def xPre (D : va_G) (T : List WE) (g : Nat → Nat) (cI cZ : ClassId) (A : Nat → Prop) (S : XS) (U : State) : Prop := va_P D vwCl (ww T g cI cZ S) U.heap ∧ va_K D vwCl [(cI, .int), (cZ, .boolean)] U ∧ xNw U ∧ xSt g A U U.heap
def xQ (D : va_G) (T : List WE) (g : Nat → Nat) (cI cZ : ClassId) (A : Nat → Prop) (R0 : RS) : Array Value → State → Outcome → State → Prop := fun _ st oc t => (∃ v : Option AV, R0.2 = some v ∧ oc = .returned (v.map (cv g)) ∧ va_P D vwCl (ww T g cI cZ R0.1) t.heap) ∧ va_F A st t
/-- a method's contract -/
def xMet (l : Launch) (D : va_G) (T : List WE) (g : Nat → Nat) (cI cZ : ClassId) (A : Nat → Prop) (y : MethodName) (ws : List Jvm.Cond) (rm : Room) (n : Nat) (sem : MT) : Prop := ∀ (As : List AV) (S : XS) (R0 : RS), As.length = n → sem As S = some R0 → Met l y ws rm (va_Pc (As.map (cv g)) (xPre D T g cI cZ A S)) (xQ D T g cI cZ A R0) 0 0 A
theorem xPre_blind {D : va_G} {T : List WE} {g : Nat → Nat} {cI cZ : ClassId} {A : Nat → Prop} {S : XS} {av : List Value} : FrameBlind (va_Pc av (xPre D T g cI cZ A S)) := fun a U g mk q => by
  obtain ⟨q0, qP, qK, qN, qS⟩ := q
  exact ⟨q0, qP, va_K.moved (u := U) (U := U.calling g mk a) (Vm.Alike.refl U.vm) qK, xNw.same (s := U) (U := U.calling g mk a) rfl qN, va_Z.moved (u := U) (U := U.calling g mk a) (Vm.Alike.refl U.vm) qS.1, va_T.moved (u := U) (U := U.calling g mk a) (Vm.Alike.refl U.vm) qS.2⟩
section XCF
variable {p : Program} {l : Launch} {e : Env} {R : Room} {s : State} {m : MethodId} {args : Array Value} {below : List Frame} {meth : Method} {c : Code} {cells slots : Nat} {Q : State → Prop} {D : va_G} {T : List WE} {g : Nat → Nat} {cI cZ : ClassId} {A : Nat → Prop} {nL : Nat} {cc : ByteArray} {own : String} {R0 : RS} {Ts ws ws' : List Jvm.Cond} {y : MethodName} {bytes : ByteArray} {maxL idx n rk ci : Nat} {ret : Option FieldType} {rm : Room} {sem : MT} {C : String} {Tf : u_T} {N : Nat} {host : String}
theorem map_cat (g : Nat → Nat) (r : List AV) : ((r.map (cv g)).map fun v => v.category).sum = r.length := by
  induction r with
  | nil => rfl
  | cons v t ih =>
    simp only [List.map_cons, List.sum_cons, List.length_cons, cv_cat]
    omega
/-- behind a call: on with what the callee left -/
theorem xcf_on {pc : Nat} {lv : LV} {rest : List AV} {o : RS} {H : Heap} {locs : List Loc} {ls : Array Slot} {g0 : JFrame} {a0 : Array Value} (hg0 : g0 = F0 m pc ls g0.stack)
    (hr : va_Run p l e R s m args below meth c H locs cells slots 0 0 g0 (rest.map (cv g)) (xQ D T g cI cZ A o a0) A)
    (hk : match o.2 with
      | none => R0 = (o.1, none)
      | some v => xG p l e R s m args below meth c cells slots Q D T g cI cZ A nL (pc + 3) lv (v.toList ++ rest) o.1)
    (hS : va_S A s.heap H locs) (hl : lv_has ls nL (lvc g lv)) : W p l e R s m args below meth c H locs cells slots Q g0 := by
  intro T0 hT0 X
  obtain ⟨v, st₀, t, T', L, h0, X', hL, e1, e2, ⟨⟨v0, hv0, hv1, hP1⟩, hz, hkk⟩, st⟩ := hr T0 hT0 X
  cases hv1
  rw [hv0] at hk
  rw [h0] at hz hkk
  have hS' : va_S A s.heap T'.heap (locs ++ L) := by
    refine ⟨Nat.le_trans hS.1 (by rw [e1]; exact hz), fun q h1 h2 => ?_, fun q hq => ?_⟩
    · rw [e1, hkk q (Nat.lt_of_lt_of_le h1 hS.1) h2]
      exact hS.2.1 q h1 h2
    · rcases List.mem_append.mp hq with h | h
      · exact hS.2.2 q h
      · exact hL q h
  have K := hk T'.heap (locs ++ L) ls (by rw [e1]; exact hP1) hS' hl
  have e3 : (v0.toList ++ rest).map (cv g) = (v0.map (cv g)).toList ++ rest.map (cv g) := by
    cases v0 <;> rfl
  rw [e3] at K
  obtain ⟨t2, a1, b1⟩ := K T' rfl X'
  refine ⟨t2, st t2 ?_, b1⟩
  rw [hg0]
  exact a1
theorem xcf_V (C0 : xC p s m c D T g cI cZ A nL cc own) (hts : ∀ w ∈ Ts, w.before args s = true) (hN : xNw s) (hM : xMet l D T g cI cZ A y ws rm (n + 1) sem) (hG : GoodIn Ts (wsV own idx C y ws)) (hw : ws = Jvm.Cond.code y bytes maxL ret :: ws') (hrm : rm.cells = 0 ∧ rm.slots = 0) (hc : vwCl[ci]? = some (C, Tf, N))
    (hd : y.cls = C ∧ y.cls ≠ "java/lang/invoke/MethodHandle" ∧ y.cls ≠ "java/lang/invoke/VarHandle" ∧ (parseMethodDescriptor y.desc).map (fun d => d.parameters.length) = some n) (hR : rm.frames + 1 ≤ R.frames ∧ 8 + (maxL + 11) + rm.locals ≤ R.locals) (hf : cells ≤ R.cells ∧ slots ≤ R.slots) :
    xCF p l e R s m args below meth c cells slots Q D T g cI cZ A nL cc R0 (false, idx, n + 1, rk, ci, sem) := by
  obtain ⟨hx, hb, hml, hown, hKK, hDD, hst⟩ := C0
  intro pc lv As rest S o hlen hrest hdg hrc hsem hk H locs ls hP hS hl
  obtain ⟨k0, fds, t, rfl, hT⟩ := rcv_some (hrc.resolve_left Bool.false_ne_true)
  have e0 : ((Sum.inr k0 :: t).reverse ++ rest).map (cv g) = (t.map (cv g)).reverse ++ Value.ref (g k0) :: rest.map (cv g) := by
    simp [cv]
  rw [e0]
  refine xcf_on (o := o) (a0 := _) rfl (va_runV (As := t.map (cv g)) (rest := rest.map (cv g)) ⟨hx, hb, hml, hown, hts⟩ (hM _ S o hlen hsem) (cwV n hts hG hw hrm.1 hrm.2 hd hR) ⟨xPre_blind, va_recv hKK hP hc (ww_get hT), fun U hU hW => ⟨rfl, by rw [hU]; exact hP, va_K.moved hW.alike hKK, hN.warm hW, hst.on hS hU hW.alike⟩⟩ rfl (by rw [List.length_map]; exact Nat.succ.inj hlen) hl.1 rfl (lv_room (by rw [map_cat]; exact hrest)) hdg hf) hk hS hl
theorem xcf_VN (C0 : xC p s m c D T g cI cZ A nL cc own) (hts : ∀ w ∈ Ts, w.before args s = true) (hN : xNw s) (hM : xMet l D T g cI cZ A y ws rm (n + 1) sem) (hG : GoodIn Ts ws) (hl1 : Jvm.Cond.methodLinkNest own idx y host ∈ nwl) (hi : Jvm.Cond.initialized y.cls ∈ Ts) (him : Jvm.Cond.instanceMethod y ∈ Ts) (hsl : Jvm.Cond.selects C y y ∈ Ts) (hw : ws = Jvm.Cond.code y bytes maxL ret :: ws') (hrm : rm.cells = 0 ∧ rm.slots = 0) (hc : vwCl[ci]? = some (C, Tf, N))
    (hd : y.cls ≠ "java/lang/invoke/MethodHandle" ∧ y.cls ≠ "java/lang/invoke/VarHandle" ∧ (parseMethodDescriptor y.desc).map (fun d => d.parameters.length) = some n) (hR : rm.frames + 1 ≤ R.frames ∧ 8 + (maxL + 11) + rm.locals ≤ R.locals) (hf : cells ≤ R.cells ∧ slots ≤ R.slots) :
    xCF p l e R s m args below meth c cells slots Q D T g cI cZ A nL cc R0 (false, idx, n + 1, rk, ci, sem) := by
  obtain ⟨hx, hb, hml, hown, hKK, hDD, hst⟩ := C0
  intro pc lv As rest S o hlen hrest hdg hrc hsem hk H locs ls hP hS hl
  obtain ⟨k0, fds, t, rfl, hT⟩ := rcv_some (hrc.resolve_left Bool.false_ne_true)
  have e0 : ((Sum.inr k0 :: t).reverse ++ rest).map (cv g) = (t.map (cv g)).reverse ++ Value.ref (g k0) :: rest.map (cv g) := by
    simp [cv]
  rw [e0]
  refine xcf_on (o := o) (a0 := _) rfl (va_runVN (As := t.map (cv g)) (rest := rest.map (cv g)) (C := C) ⟨hx, hb, hml, hown, hts⟩ (hM _ S o hlen hsem) ⟨va_cnB n hts hG hw hrm.1 hrm.2 (hN _ hl1) (hts _ hi) hd hR, hts _ him, hts _ hsl⟩ ⟨xPre_blind, va_recv hKK hP hc (ww_get hT), fun U hU hW => ⟨rfl, by rw [hU]; exact hP, va_K.moved hW.alike hKK, hN.warm hW, hst.on hS hU hW.alike⟩⟩ rfl (by rw [List.length_map]; exact Nat.succ.inj hlen) hl.1 rfl (lv_room (by rw [map_cat]; exact hrest)) hdg hf) hk hS hl
theorem xcf_S (C0 : xC p s m c D T g cI cZ A nL cc own) (hts : ∀ w ∈ Ts, w.before args s = true) (hN : xNw s) (hM : xMet l D T g cI cZ A y ws rm n sem) (hG : GoodIn Ts (va_wsS own idx y ws)) (hw : ws = Jvm.Cond.code y bytes maxL ret :: ws') (hrm : rm.cells = 0 ∧ rm.slots = 0)
    (hd : y.cls ≠ "java/lang/invoke/MethodHandle" ∧ y.cls ≠ "java/lang/invoke/VarHandle" ∧ (parseMethodDescriptor y.desc).map (fun d => d.parameters.length) = some n) (hR : rm.frames + 1 ≤ R.frames ∧ 8 + (maxL + 11) + rm.locals ≤ R.locals) (hf : cells ≤ R.cells ∧ slots ≤ R.slots) :
    xCF p l e R s m args below meth c cells slots Q D T g cI cZ A nL cc R0 (true, idx, n, rk, ci, sem) := by
  obtain ⟨hx, hb, hml, hown, hKK, hDD, hst⟩ := C0
  intro pc lv As rest S o hlen hrest hdg hrc hsem hk H locs ls hP hS hl
  have e0 : (As.reverse ++ rest).map (cv g) = (As.map (cv g)).reverse ++ rest.map (cv g) := by
    simp
  rw [e0]
  refine xcf_on (o := o) (a0 := _) rfl (va_runS (As := As.map (cv g)) (rest := rest.map (cv g)) ⟨hx, hb, hml, hown, hts⟩ (hM _ S o hlen hsem) (va_cwS n hts hG hw hrm.1 hrm.2 hd hR) ⟨xPre_blind, fun U hU hW => ⟨rfl, by rw [hU]; exact hP, va_K.moved hW.alike hKK, hN.warm hW, hst.on hS hU hW.alike⟩⟩ rfl (by rw [List.length_map]; exact hlen) hl.1 rfl (lv_room (by rw [map_cat]; exact hrest)) hdg hf) hk hS hl
/-- Math.max -/
def sem_max : MT := fun As S => match As with
  | [.inl x, .inl y] => some (S, some (some (.inl (if x < y then y else x))))
  | _ => none
theorem xcf_max (C0 : xC p s m c D T g cI cZ A nL cc own) (hlink : (Jvm.Cond.methodLink own idx Lib.Math.max.name).before args s = true) (hstat : (Jvm.Cond.static Lib.Math.max.name).before args s = true) (hini : (Jvm.Cond.initialized "java/lang/Math").before args s = true) (hcode : (Jvm.Cond.code Lib.Math.max.name Lib.Math.max.code 2 (some .int)).before args s = true) (hR : 1 ≤ R.frames ∧ 21 ≤ R.locals) (hf : cells ≤ R.cells ∧ slots ≤ R.slots) :
    xCF p l e R s m args below meth c cells slots Q D T g cI cZ A nL cc R0 (true, idx, 2, 1, ci, sem_max) := by
  obtain ⟨hx, hb, hml, hown, hKK, hDD, hst⟩ := C0
  intro pc lv As rest S o hlen hrest hdg hrc hsem hk H locs ls hP hS hl
  have hsem : sem_max As S = some o := hsem
  unfold sem_max at hsem
  split at hsem
  · rename_i x y
    cases Option.some.inj hsem
    exact va_mmax hx hb (by rw [hml]; exact hl.1.symm) hown hlink hstat hini hcode hR.1 (by rw [map_cat]; exact Nat.le_trans (Nat.add_le_add_right hrest 13) hR.2) hf.1 hf.2 hdg (hk H locs ls hP hS hl)
  · cases hsem
end XCF
/-- all that a method's blocks stand on -/
def xM (p : Program) (l : Launch) (e : Env) (R : Room) (s : State) (m : MethodId) (args : Array Value) (below : List Frame) (meth : Method) (c : Code) (cells slots : Nat) (Q : State → Prop) (D : va_G) (T : List WE) (g : Nat → Nat) (cI cZ : ClassId) (A : Nat → Prop) (nL : Nat) (cc : ByteArray) (own : String) (zb : Nat) (cs : List CT) (L : List CE) (R0 : RS) : Prop :=
  xC p s m c D T g cI cZ A nL cc own ∧ (∀ (j : Nat) (q : CT), cs[j]? = some q → xCF p l e R s m args below meth c cells slots Q D T g cI cZ A nL cc R0 q) ∧ xRt p l e R s m args below meth c cells slots Q D T g cI cZ A nL cc zb R0 ∧ (∀ q ∈ L, rok cc nL zb q = true) ∧ ∀ q ∈ L, xF s args own q
theorem xa_blk {p : Program} {l : Launch} {e : Env} {R : Room} {s : State} {m : MethodId} {args : Array Value} {below : List Frame} {meth : Method} {c : Code} {cells slots : Nat} {Q : State → Prop} {D : va_G} {T : List WE} {g : Nat → Nat} {cI cZ : ClassId} {A : Nat → Prop} {nL : Nat} {cc : ByteArray} {own : String} {zb : Nat} {cs : List CT} {L : List CE} {R0 : RS}
    (M : xM p l e R s m args below meth c cells slots Q D T g cI cZ A nL cc own zb cs L R0) {ss : List Nat} {ds : List (Nat × List Nat × BT)} (hds : ∀ q ∈ ds, ∀ lv st S, q.2.2 lv st S = some R0 → xG p l e R s m args below meth c cells slots Q D T g cI cZ A nL q.1 lv st S)
    {n pc : Nat} {lv : LV} {st : List AV} {S : XS} (h : brn T cs L ss (dsp ds) n [] pc lv st S = some R0) : xG p l e R s m args below meth c cells slots Q D T g cI cZ A nL pc lv st S := by
  obtain ⟨h1, h2, h3, h4, h5⟩ := M
  exact xa_brn h1 h2 h3 h4 h5 (xa_dsp ds hds) n [] (fun _ q => absurd q List.not_mem_nil) pc lv st S h
def rety (zb : Nat) : Option FieldType := match zb with
  | 0 => some .int
  | 1 => some .boolean
  | 2 => none
  | _ => some (.object "StackMarks$Outline")
theorem zip_args (g : Nat → Nat) (As : List AV) : ∀ n, lv_args n (As.map (cv g)) = lvc g (zipN n As) := by
  induction As with
  | nil => intro n; rfl
  | cons v t ih =>
    intro n
    have h1 := ih (n + 1)
    cases v with
    | inl x => exact congrArg (List.cons _) h1
    | inr x => exact congrArg (List.cons _) h1
theorem sl_len (g : Nat → Nat) (As : List AV) : (lg_sl (As.map (cv g))).length = As.length := by
  induction As with
  | nil => rfl
  | cons v t ih =>
    cases v with
    | inl x => exact congrArg Nat.succ ih
    | inr x => exact congrArg Nat.succ ih
/-- a method's words: its own code, and the good words of the tables -/
abbrev wm (y : MethodName) (cc : ByteArray) (nL : Nat) (zb : Nat) : List Jvm.Cond := Jvm.Cond.code y cc nL (rety zb) :: wA
set_option maxHeartbeats 1000000 in
theorem xa_met {l : Launch} {D : va_G} {T : List WE} {g : Nat → Nat} {cI cZ : ClassId} {A : Nat → Prop} {y : MethodName} {rm : Room} {n nL zb : Nat} {cc : ByteArray} {cs : List CT} {L : List CE} {sem : MT} {ft : List (Nat × Nat × Nat)} {pt : List (Nat × Nat × Nat × Nat)} {kt : List (Nat × Int32)}
    (hD : ∀ S, va_D A (ww T g cI cZ S)) (hy : plainName y.cls = true) (hn : n ≤ nL) (hL : ∀ q ∈ L, rok cc nL zb q = true) (hF : ∀ q ∈ L, fck ft pt kt q = true)
    (hfacts : ∀ (s : State) (args : Array Value), (∀ w ∈ wA, w.before args s = true) → xNw s → (∀ q ∈ ft, xFt s args y.cls q) ∧ (∀ q ∈ pt, xPt s args y.cls q) ∧ ∀ q ∈ kt, (Jvm.Cond.constant y.cls q.1 q.2).before args s = true)
    (hcs : ∀ (p : Program) (e : Env) (s : State) (m : MethodId) (args : Array Value) (below : List Frame) (meth : Method) (c : Code) (Q : State → Prop) (R0 : RS), xC p s m c D T g cI cZ A nL cc y.cls → (∀ w ∈ wm y cc nL zb, w.before args s = true) → xNw s → ∀ (j : Nat) (q : CT), cs[j]? = some q → xCF p l e rm s m args below meth c 0 0 Q D T g cI cZ A nL cc R0 q)
    (hb : ∀ (p : Program) (e : Env) (s : State) (m : MethodId) (args : Array Value) (below : List Frame) (meth : Method) (c : Code) (Q : State → Prop) (R0 : RS) (As : List AV) (S : XS), xM p l e rm s m args below meth c 0 0 Q D T g cI cZ A nL cc y.cls zb cs L R0 → sem As S = some R0 → xG p l e rm s m args below meth c 0 0 Q D T g cI cZ A nL 0 (zipN 0 As) [] S) :
    xMet l D T g cI cZ A y (wm y cc nL zb) rm n sem := by
  intro As S R0 hlen h
  refine Met.ofW (cc := cc) (maxL := nL) (ret := rety zb) hy rfl ?_
  intro p e s m args below meth c s₁ B hml hv
  obtain ⟨rfl, hP, hK, hN, hst⟩ := hv
  have hx := B.exec
  have hbb := B.bytes
  have hr := B.returns
  have hts := atoms_spec (ws := wm y cc nL zb) B.pre
  have hts2 : ∀ w ∈ wA, w.before (As.map (cv g)).toArray s = true := fun w hw => hts w (List.mem_cons_of_mem _ hw)
  have hown : s.vm.findClass y.cls = some m.cls := findClass_of_methodNamed B.named
  have hlocks := B.notSynchronized
  have C0 : xC p s m c D T g cI cZ A nL cc y.cls := ⟨hx, hbb, hml, hown, hK, hD, hst⟩
  obtain ⟨f1, f2, f3⟩ := hfacts s _ hts2 hN
  have hl := lv_entry (As.map (cv g)) (n := nL) (by rw [sl_len, hlen]; exact hn)
  rw [lg_entry_eq]
  generalize (lg_sl (As.map (cv g)) ++ List.replicate (nL - (lg_sl (As.map (cv g))).length) Slot.unset).toArray = ls at hl ⊢
  rw [zip_args] at hl
  have hrt : xRt p l e rm s m (As.map (cv g)).toArray below meth c 0 0 (MQ below (xQ D T g cI cZ A R0) (As.map (cv g)).toArray s 0 0 A) D T g cI cZ A nL cc zb R0 := by
    intro pc S v H locs ls e0 hP hS hd
    subst e0
    cases v with
    | none =>
      obtain ⟨hd, hz⟩ := hd
      subst hz
      exact W.vret hx hbb hr (fun t ht hW => ⟨⟨none, rfl, rfl, by rw [ht]; exact hP⟩, hS.F ht⟩) hS.2.2 hd
    | some v =>
      cases v with
      | inl x =>
        obtain ⟨hd, hz, hz2⟩ := hd
        have hzc : zb = 0 ∨ zb = 1 := by omega
        rcases hzc with hz3 | hz3
        · subst hz3
          exact W.iret (v := x) hx hbb hr (fun t ht hW => ⟨⟨some (.inl x), rfl, rfl, by rw [ht]; exact hP⟩, hS.F ht⟩) hS.2.2 hd
        · subst hz3
          exact W.zret (v := x) hx hbb hr (narrow_b01 (hz2.resolve_left (by decide))) (fun t ht hW => ⟨⟨some (.inl x), rfl, rfl, by rw [ht]; exact hP⟩, hS.F ht⟩) hS.2.2 hd
      | inr x =>
        obtain ⟨hd, hz⟩ := hd
        subst hz
        exact W.aret (v := .ref (g x)) hx hbb hr (Or.inl ⟨_, rfl⟩) (Or.inr ⟨_, rfl⟩) (fun t ht hW => ⟨⟨some (.inr x), rfl, rfl, by rw [ht]; exact hP⟩, hS.F ht⟩) hS.2.2 hd
  exact hb p e s m _ below meth c _ R0 As S ⟨C0, hcs p e s m _ below meth c _ R0 C0 hts hN, hrt, hL, fun q hq => xF_of f1 f2 f3 (hF q hq)⟩ h s.heap [] ls hP va_S.rf hl
/-- the words of a call among a method's -/
theorem good_V {y1 y : MethodName} {c1 cc : ByteArray} {n1 z1 nL zb idx : Nat} {own C : String} (h1 : Jvm.Cond.methodLink own idx y ∈ wA) (h2 : Jvm.Cond.instanceMethod y ∈ wA) (h3 : Jvm.Cond.selects C y y ∈ wA) (h4 : Jvm.Cond.initialized C ∈ wA) (h5 : Jvm.Cond.code y cc nL (rety zb) ∈ wA) : GoodIn (wm y1 c1 n1 z1) (wsV own idx C y (wm y cc nL zb)) := by
  intro w hw
  have h : w ∈ wA := by
    rcases List.mem_append.mp hw with q | q
    · simp only [List.mem_cons, List.not_mem_nil, or_false] at q
      rcases q with q | q | q | q <;> rw [q] <;> assumption
    · rcases List.mem_cons.mp q with q | q
      · rw [q]; exact h5
      · exact q
  exact ⟨List.mem_cons_of_mem _ h, good_of_word (wA_good w h)⟩
theorem good_S {y1 y : MethodName} {c1 cc : ByteArray} {n1 z1 nL zb idx : Nat} {own : String} (h1 : Jvm.Cond.methodLink own idx y ∈ wA) (h2 : Jvm.Cond.static y ∈ wA) (h4 : Jvm.Cond.initialized y.cls ∈ wA) (h5 : Jvm.Cond.code y cc nL (rety zb) ∈ wA) : GoodIn (wm y1 c1 n1 z1) (va_wsS own idx y (wm y cc nL zb)) := by
  intro w hw
  have h : w ∈ wA := by
    rcases List.mem_append.mp hw with q | q
    · simp only [List.mem_cons, List.not_mem_nil, or_false] at q
      rcases q with q | q | q <;> rw [q] <;> assumption
    · rcases List.mem_cons.mp q with q | q
      · rw [q]; exact h5
      · exact q
  exact ⟨List.mem_cons_of_mem _ h, good_of_word (wA_good w h)⟩
theorem good_N {y1 y : MethodName} {c1 cc : ByteArray} {n1 z1 nL zb : Nat} (h5 : Jvm.Cond.code y cc nL (rety zb) ∈ wA) : GoodIn (wm y1 c1 n1 z1) (wm y cc nL zb) := by
  intro w hw
  have h : w ∈ wA := by
    rcases List.mem_cons.mp hw with q | q
    · rw [q]; exact h5
    · exact q
  exact ⟨List.mem_cons_of_mem _ h, good_of_word (wA_good w h)⟩
end
section
/-! tables of the two worlds, the links of each kind -/
/-- turns enough for each loop; its value is told by fu_eq alone -/
noncomputable def fu : Nat := Classical.choose (⟨200, rfl⟩ : ∃ n : Nat, n = 200)
theorem fu_eq : fu = 200 := Classical.choose_spec (⟨200, rfl⟩ : ∃ n : Nat, n = 200)
def xT : List WE := [.inr (5, [some 1, some 2, some 3, some 4, some 5, some 6, some 39, none, none, none]), .inr (0, [some 7, some 8, some 9, some 10, some 11, some 12, none]), .inr (1, [some 13]), .inr (2, [some 14, some 15, some 16, some 17, some 18, some 19, some 20, some 21, some 22, some 23, some 24, none]), .inr (4, [some 25, some 26, some 27, some 28, some 29, some 30, none]), .inr (3, [some 31, some 32, some 33, some 34, none, none]), .inr (3, [some 35, some 36, some 37, some 38, none, none]), .inl (false, 40), .inl (false, 40), .inl (false, 40), .inl (false, 40), .inl (false, 40), .inl (false, 40), .inl (false, 60), .inl (false, 80), .inl (false, 80), .inl (false, 80), .inl (false, 80), .inl (true, 80), .inl (false, 80), .inl (false, 80), .inl (false, 80), .inl (false, 80), .inl (true, 80), .inl (false, 80), .inl (false, 10), .inl (false, 10), .inl (false, 10), .inl (false, 10), .inl (false, 10), .inl (false, 10), .inl (false, 170), .inl (false, 170), .inl (false, 170), .inl (false, 10), .inl (false, 170), .inl (false, 170), .inl (false, 170), .inl (false, 10), .inl (false, 80)]
def mT : List WE := [.inr (6, [none, none, some 1, some 2, some 3, some 4, some 5, some 6, some 7, none, some 8, some 9, some 10, some 11, some 12, some 13, some 14, some 15, some 16, none, none, some 17, some 18, some 19, some 20, some 21, none, some 22, some 23, none, some 24]), .inl (false, 40), .inl (false, 40), .inl (false, 40), .inl (false, 40), .inl (false, 40), .inl (true, 40), .inl (false, 60), .inl (false, 80), .inl (false, 80), .inl (false, 80), .inl (false, 80), .inl (true, 80), .inl (true, 80), .inl (false, 80), .inl (true, 80), .inl (false, 80), .inl (false, 10), .inl (false, 10), .inl (false, 10), .inl (false, 10), .inl (false, 10), .inl (true, 20), .inl (false, 20), .inl (false, 80)]
theorem all_get {cs : List CT} {P : CT → Prop} (h : ∀ q ∈ cs, P q) : ∀ (j : Nat) (q : CT), cs[j]? = some q → P q := fun _ q hj => h q (List.mem_of_getElem? hj)
def FT_X0 : List (Nat × Nat × Nat) := [(9, 0, 0), (15, 0, 1), (18, 0, 2), (21, 0, 3), (24, 0, 4), (27, 0, 5), (30, 0, 6)]
def PT_X0 : List (Nat × Nat × Nat × Nat) := [(30, 0, 6, 0)]
def KT_X0 : List (Nat × Int32) := []
set_option maxRecDepth 20000 in
theorem fa_X0 : ∀ (s : State) (args : Array Value), (∀ w ∈ wA, w.before args s = true) → xNw s → (∀ q ∈ FT_X0, xFt s args RX0 q) ∧ (∀ q ∈ PT_X0, xPt s args RX0 q) ∧ ∀ q ∈ KT_X0, (Jvm.Cond.constant RX0 q.1 q.2).before args s = true :=
  fun s args hts hN => ⟨List.forall_mem_cons.mpr ⟨⟨RX0, TX0, 7, rfl, by decide, fun w hw => hts w (iw_X0 w hw), Or.inl (hts _ kf_X0_9)⟩, List.forall_mem_cons.mpr ⟨⟨RX0, TX0, 7, rfl, by decide, fun w hw => hts w (iw_X0 w hw), Or.inl (hts _ kf_X0_15)⟩, List.forall_mem_cons.mpr ⟨⟨RX0, TX0, 7, rfl, by decide, fun w hw => hts w (iw_X0 w hw), Or.inl (hts _ kf_X0_18)⟩, List.forall_mem_cons.mpr ⟨⟨RX0, TX0, 7, rfl, by decide, fun w hw => hts w (iw_X0 w hw), Or.inl (hts _ kf_X0_21)⟩, List.forall_mem_cons.mpr ⟨⟨RX0, TX0, 7, rfl, by decide, fun w hw => hts w (iw_X0 w hw), Or.inl (hts _ kf_X0_24)⟩, List.forall_mem_cons.mpr ⟨⟨RX0, TX0, 7, rfl, by decide, fun w hw => hts w (iw_X0 w hw), Or.inl (hts _ kf_X0_27)⟩, List.forall_mem_cons.mpr ⟨⟨RX0, TX0, 7, rfl, by decide, fun w hw => hts w (iw_X0 w hw), Or.inl (hts _ kf_X0_30)⟩, fun _ q => absurd q List.not_mem_nil⟩⟩⟩⟩⟩⟩⟩, List.forall_mem_cons.mpr ⟨⟨RX0, TX0, 7, ⟨rfl, by decide, fun w hw => hts w (iw_X0 w hw), Or.inl (hts _ kf_X0_30)⟩, rfl, by decide +kernel⟩, fun _ q => absurd q List.not_mem_nil⟩, fun _ q => absurd q List.not_mem_nil⟩
def FT_X1 : List (Nat × Nat × Nat) := [(9, 1, 0), (16, 9, 9)]
def PT_X1 : List (Nat × Nat × Nat × Nat) := []
def KT_X1 : List (Nat × Int32) := []
set_option maxRecDepth 20000 in
theorem fa_X1 : ∀ (s : State) (args : Array Value), (∀ w ∈ wA, w.before args s = true) → xNw s → (∀ q ∈ FT_X1, xFt s args RX1 q) ∧ (∀ q ∈ PT_X1, xPt s args RX1 q) ∧ ∀ q ∈ KT_X1, (Jvm.Cond.constant RX1 q.1 q.2).before args s = true :=
  fun s args hts hN => ⟨List.forall_mem_cons.mpr ⟨⟨RX1, TX1, 1, rfl, by decide, fun w hw => hts w (iw_X1 w hw), Or.inl (hts _ kf_X1_9)⟩, List.forall_mem_cons.mpr ⟨(hts _ kf_X1_16 : _), fun _ q => absurd q List.not_mem_nil⟩⟩, fun _ q => absurd q List.not_mem_nil, fun _ q => absurd q List.not_mem_nil⟩
def FT_X2 : List (Nat × Nat × Nat) := [(9, 2, 0), (15, 2, 1), (18, 2, 2), (21, 2, 3), (24, 2, 4), (28, 2, 5), (31, 2, 6), (34, 2, 7), (46, 2, 11)]
def PT_X2 : List (Nat × Nat × Nat × Nat) := [(46, 2, 11, 0)]
def KT_X2 : List (Nat × Int32) := []
set_option maxRecDepth 20000 in
theorem fa_X2 : ∀ (s : State) (args : Array Value), (∀ w ∈ wA, w.before args s = true) → xNw s → (∀ q ∈ FT_X2, xFt s args RX2 q) ∧ (∀ q ∈ PT_X2, xPt s args RX2 q) ∧ ∀ q ∈ KT_X2, (Jvm.Cond.constant RX2 q.1 q.2).before args s = true :=
  fun s args hts hN => ⟨List.forall_mem_cons.mpr ⟨⟨RX2, TX2, 12, rfl, by decide, fun w hw => hts w (iw_X2 w hw), Or.inl (hts _ kf_X2_9)⟩, List.forall_mem_cons.mpr ⟨⟨RX2, TX2, 12, rfl, by decide, fun w hw => hts w (iw_X2 w hw), Or.inl (hts _ kf_X2_15)⟩, List.forall_mem_cons.mpr ⟨⟨RX2, TX2, 12, rfl, by decide, fun w hw => hts w (iw_X2 w hw), Or.inl (hts _ kf_X2_18)⟩, List.forall_mem_cons.mpr ⟨⟨RX2, TX2, 12, rfl, by decide, fun w hw => hts w (iw_X2 w hw), Or.inl (hts _ kf_X2_21)⟩, List.forall_mem_cons.mpr ⟨⟨RX2, TX2, 12, rfl, by decide, fun w hw => hts w (iw_X2 w hw), Or.inl (hts _ kf_X2_24)⟩, List.forall_mem_cons.mpr ⟨⟨RX2, TX2, 12, rfl, by decide, fun w hw => hts w (iw_X2 w hw), Or.inl (hts _ kf_X2_28)⟩, List.forall_mem_cons.mpr ⟨⟨RX2, TX2, 12, rfl, by decide, fun w hw => hts w (iw_X2 w hw), Or.inl (hts _ kf_X2_31)⟩, List.forall_mem_cons.mpr ⟨⟨RX2, TX2, 12, rfl, by decide, fun w hw => hts w (iw_X2 w hw), Or.inl (hts _ kf_X2_34)⟩, List.forall_mem_cons.mpr ⟨⟨RX2, TX2, 12, rfl, by decide, fun w hw => hts w (iw_X2 w hw), Or.inl (hts _ kf_X2_46)⟩, fun _ q => absurd q List.not_mem_nil⟩⟩⟩⟩⟩⟩⟩⟩⟩, List.forall_mem_cons.mpr ⟨⟨RX2, TX2, 12, ⟨rfl, by decide, fun w hw => hts w (iw_X2 w hw), Or.inl (hts _ kf_X2_46)⟩, rfl, by decide +kernel⟩, fun _ q => absurd q List.not_mem_nil⟩, fun _ q => absurd q List.not_mem_nil⟩
def FT_X3 : List (Nat × Nat × Nat) := [(11, 3, 0), (15, 3, 1), (18, 3, 2), (23, 3, 3), (26, 3, 4), (30, 3, 5)]
def PT_X3 : List (Nat × Nat × Nat × Nat) := [(26, 3, 4, 0), (30, 3, 5, 0)]
def KT_X3 : List (Nat × Int32) := [(33, (-100003))]
set_option maxRecDepth 20000 in
theorem fa_X3 : ∀ (s : State) (args : Array Value), (∀ w ∈ wA, w.before args s = true) → xNw s → (∀ q ∈ FT_X3, xFt s args RX3 q) ∧ (∀ q ∈ PT_X3, xPt s args RX3 q) ∧ ∀ q ∈ KT_X3, (Jvm.Cond.constant RX3 q.1 q.2).before args s = true :=
  fun s args hts hN => ⟨List.forall_mem_cons.mpr ⟨⟨RX3, TX3, 6, rfl, by decide, fun w hw => hts w (iw_X3 w hw), Or.inl (hts _ kf_X3_11)⟩, List.forall_mem_cons.mpr ⟨⟨RX3, TX3, 6, rfl, by decide, fun w hw => hts w (iw_X3 w hw), Or.inl (hts _ kf_X3_15)⟩, List.forall_mem_cons.mpr ⟨⟨RX3, TX3, 6, rfl, by decide, fun w hw => hts w (iw_X3 w hw), Or.inl (hts _ kf_X3_18)⟩, List.forall_mem_cons.mpr ⟨⟨RX3, TX3, 6, rfl, by decide, fun w hw => hts w (iw_X3 w hw), Or.inl (hts _ kf_X3_23)⟩, List.forall_mem_cons.mpr ⟨⟨RX3, TX3, 6, rfl, by decide, fun w hw => hts w (iw_X3 w hw), Or.inl (hts _ kf_X3_26)⟩, List.forall_mem_cons.mpr ⟨⟨RX3, TX3, 6, rfl, by decide, fun w hw => hts w (iw_X3 w hw), Or.inl (hts _ kf_X3_30)⟩, fun _ q => absurd q List.not_mem_nil⟩⟩⟩⟩⟩⟩, List.forall_mem_cons.mpr ⟨⟨RX3, TX3, 6, ⟨rfl, by decide, fun w hw => hts w (iw_X3 w hw), Or.inl (hts _ kf_X3_26)⟩, rfl, by decide +kernel⟩, List.forall_mem_cons.mpr ⟨⟨RX3, TX3, 6, ⟨rfl, by decide, fun w hw => hts w (iw_X3 w hw), Or.inl (hts _ kf_X3_30)⟩, rfl, by decide +kernel⟩, fun _ q => absurd q List.not_mem_nil⟩⟩, List.forall_mem_cons.mpr ⟨hts _ kk_X3_33, fun _ q => absurd q List.not_mem_nil⟩⟩
def FT_X4 : List (Nat × Nat × Nat) := [(9, 4, 0), (15, 4, 1), (18, 4, 2), (21, 4, 3), (30, 4, 6)]
def PT_X4 : List (Nat × Nat × Nat × Nat) := [(30, 4, 6, 0)]
def KT_X4 : List (Nat × Int32) := []
set_option maxRecDepth 20000 in
theorem fa_X4 : ∀ (s : State) (args : Array Value), (∀ w ∈ wA, w.before args s = true) → xNw s → (∀ q ∈ FT_X4, xFt s args RX4 q) ∧ (∀ q ∈ PT_X4, xPt s args RX4 q) ∧ ∀ q ∈ KT_X4, (Jvm.Cond.constant RX4 q.1 q.2).before args s = true :=
  fun s args hts hN => ⟨List.forall_mem_cons.mpr ⟨⟨RX4, TX4, 7, rfl, by decide, fun w hw => hts w (iw_X4 w hw), Or.inl (hts _ kf_X4_9)⟩, List.forall_mem_cons.mpr ⟨⟨RX4, TX4, 7, rfl, by decide, fun w hw => hts w (iw_X4 w hw), Or.inl (hts _ kf_X4_15)⟩, List.forall_mem_cons.mpr ⟨⟨RX4, TX4, 7, rfl, by decide, fun w hw => hts w (iw_X4 w hw), Or.inl (hts _ kf_X4_18)⟩, List.forall_mem_cons.mpr ⟨⟨RX4, TX4, 7, rfl, by decide, fun w hw => hts w (iw_X4 w hw), Or.inl (hts _ kf_X4_21)⟩, List.forall_mem_cons.mpr ⟨⟨RX4, TX4, 7, rfl, by decide, fun w hw => hts w (iw_X4 w hw), Or.inl (hts _ kf_X4_30)⟩, fun _ q => absurd q List.not_mem_nil⟩⟩⟩⟩⟩, List.forall_mem_cons.mpr ⟨⟨RX4, TX4, 7, ⟨rfl, by decide, fun w hw => hts w (iw_X4 w hw), Or.inl (hts _ kf_X4_30)⟩, rfl, by decide +kernel⟩, fun _ q => absurd q List.not_mem_nil⟩, fun _ q => absurd q List.not_mem_nil⟩
def FT_X5 : List (Nat × Nat × Nat) := [(10, 5, 0), (19, 5, 1), (26, 5, 2), (33, 5, 3), (40, 5, 4), (44, 5, 5), (47, 5, 6), (67, 0, 1), (70, 0, 2), (73, 5, 9), (86, 2, 11), (96, 2, 4), (100, 0, 0), (106, 4, 6), (127, 2, 5), (134, 2, 6), (137, 2, 7), (140, 2, 8), (143, 2, 9), (146, 2, 10), (150, 4, 4), (151, 4, 5), (161, 3, 3), (181, 2, 0), (188, 0, 3), (191, 0, 4), (194, 0, 5), (200, 0, 6), (219, 3, 5), (224, 2, 1), (230, 2, 2), (249, 4, 2), (250, 4, 0), (253, 4, 1), (256, 4, 3), (266, 5, 7), (287, 5, 8), (302, 2, 3)]
def PT_X5 : List (Nat × Nat × Nat × Nat) := [(73, 5, 9, 1), (266, 5, 7, 0), (287, 5, 8, 0)]
def KT_X5 : List (Nat × Int32) := [(59, (-100001)), (90, (-100002)), (152, 101000), (170, (-100003)), (180, 100000), (283, 100001)]
set_option maxRecDepth 20000 in
theorem fa_X5 : ∀ (s : State) (args : Array Value), (∀ w ∈ wA, w.before args s = true) → xNw s → (∀ q ∈ FT_X5, xFt s args RX5 q) ∧ (∀ q ∈ PT_X5, xPt s args RX5 q) ∧ ∀ q ∈ KT_X5, (Jvm.Cond.constant RX5 q.1 q.2).before args s = true :=
  fun s args hts hN => ⟨List.forall_mem_cons.mpr ⟨⟨RX5, TX5, 10, rfl, by decide, fun w hw => hts w (iw_X5 w hw), Or.inl (hts _ kf_X5_10)⟩, List.forall_mem_cons.mpr ⟨⟨RX5, TX5, 10, rfl, by decide, fun w hw => hts w (iw_X5 w hw), Or.inl (hts _ kf_X5_19)⟩, List.forall_mem_cons.mpr ⟨⟨RX5, TX5, 10, rfl, by decide, fun w hw => hts w (iw_X5 w hw), Or.inl (hts _ kf_X5_26)⟩, List.forall_mem_cons.mpr ⟨⟨RX5, TX5, 10, rfl, by decide, fun w hw => hts w (iw_X5 w hw), Or.inl (hts _ kf_X5_33)⟩, List.forall_mem_cons.mpr ⟨⟨RX5, TX5, 10, rfl, by decide, fun w hw => hts w (iw_X5 w hw), Or.inl (hts _ kf_X5_40)⟩, List.forall_mem_cons.mpr ⟨⟨RX5, TX5, 10, rfl, by decide, fun w hw => hts w (iw_X5 w hw), Or.inl (hts _ kf_X5_44)⟩, List.forall_mem_cons.mpr ⟨⟨RX5, TX5, 10, rfl, by decide, fun w hw => hts w (iw_X5 w hw), Or.inl (hts _ kf_X5_47)⟩, List.forall_mem_cons.mpr ⟨⟨RX0, TX0, 7, rfl, by decide, fun w hw => hts w (iw_X0 w hw), Or.inr ⟨"StackMarks", va_Nw.use rfl (hN _ (by decide +kernel))⟩⟩, List.forall_mem_cons.mpr ⟨⟨RX0, TX0, 7, rfl, by decide, fun w hw => hts w (iw_X0 w hw), Or.inr ⟨"StackMarks", va_Nw.use rfl (hN _ (by decide +kernel))⟩⟩, List.forall_mem_cons.mpr ⟨⟨RX5, TX5, 10, rfl, by decide, fun w hw => hts w (iw_X5 w hw), Or.inl (hts _ kf_X5_73)⟩, List.forall_mem_cons.mpr ⟨⟨RX2, TX2, 12, rfl, by decide, fun w hw => hts w (iw_X2 w hw), Or.inr ⟨"StackMarks", va_Nw.use rfl (hN _ (by decide +kernel))⟩⟩, List.forall_mem_cons.mpr ⟨⟨RX2, TX2, 12, rfl, by decide, fun w hw => hts w (iw_X2 w hw), Or.inr ⟨"StackMarks", va_Nw.use rfl (hN _ (by decide +kernel))⟩⟩, List.forall_mem_cons.mpr ⟨⟨RX0, TX0, 7, rfl, by decide, fun w hw => hts w (iw_X0 w hw), Or.inr ⟨"StackMarks", va_Nw.use rfl (hN _ (by decide +kernel))⟩⟩, List.forall_mem_cons.mpr ⟨⟨RX4, TX4, 7, rfl, by decide, fun w hw => hts w (iw_X4 w hw), Or.inr ⟨"StackMarks", va_Nw.use rfl (hN _ (by decide +kernel))⟩⟩, List.forall_mem_cons.mpr ⟨⟨RX2, TX2, 12, rfl, by decide, fun w hw => hts w (iw_X2 w hw), Or.inr ⟨"StackMarks", va_Nw.use rfl (hN _ (by decide +kernel))⟩⟩, List.forall_mem_cons.mpr ⟨⟨RX2, TX2, 12, rfl, by decide, fun w hw => hts w (iw_X2 w hw), Or.inr ⟨"StackMarks", va_Nw.use rfl (hN _ (by decide +kernel))⟩⟩, List.forall_mem_cons.mpr ⟨⟨RX2, TX2, 12, rfl, by decide, fun w hw => hts w (iw_X2 w hw), Or.inr ⟨"StackMarks", va_Nw.use rfl (hN _ (by decide +kernel))⟩⟩, List.forall_mem_cons.mpr ⟨⟨RX2, TX2, 12, rfl, by decide, fun w hw => hts w (iw_X2 w hw), Or.inr ⟨"StackMarks", va_Nw.use rfl (hN _ (by decide +kernel))⟩⟩, List.forall_mem_cons.mpr ⟨⟨RX2, TX2, 12, rfl, by decide, fun w hw => hts w (iw_X2 w hw), Or.inr ⟨"StackMarks", va_Nw.use rfl (hN _ (by decide +kernel))⟩⟩, List.forall_mem_cons.mpr ⟨⟨RX2, TX2, 12, rfl, by decide, fun w hw => hts w (iw_X2 w hw), Or.inr ⟨"StackMarks", va_Nw.use rfl (hN _ (by decide +kernel))⟩⟩, List.forall_mem_cons.mpr ⟨⟨RX4, TX4, 7, rfl, by decide, fun w hw => hts w (iw_X4 w hw), Or.inr ⟨"StackMarks", va_Nw.use rfl (hN _ (by decide +kernel))⟩⟩, List.forall_mem_cons.mpr ⟨⟨RX4, TX4, 7, rfl, by decide, fun w hw => hts w (iw_X4 w hw), Or.inr ⟨"StackMarks", va_Nw.use rfl (hN _ (by decide +kernel))⟩⟩, List.forall_mem_cons.mpr ⟨⟨RX3, TX3, 6, rfl, by decide, fun w hw => hts w (iw_X3 w hw), Or.inr ⟨"StackMarks", va_Nw.use rfl (hN _ (by decide +kernel))⟩⟩, List.forall_mem_cons.mpr ⟨⟨RX2, TX2, 12, rfl, by decide, fun w hw => hts w (iw_X2 w hw), Or.inr ⟨"StackMarks", va_Nw.use rfl (hN _ (by decide +kernel))⟩⟩, List.forall_mem_cons.mpr ⟨⟨RX0, TX0, 7, rfl, by decide, fun w hw => hts w (iw_X0 w hw), Or.inr ⟨"StackMarks", va_Nw.use rfl (hN _ (by decide +kernel))⟩⟩, List.forall_mem_cons.mpr ⟨⟨RX0, TX0, 7, rfl, by decide, fun w hw => hts w (iw_X0 w hw), Or.inr ⟨"StackMarks", va_Nw.use rfl (hN _ (by decide +kernel))⟩⟩, List.forall_mem_cons.mpr ⟨⟨RX0, TX0, 7, rfl, by decide, fun w hw => hts w (iw_X0 w hw), Or.inr ⟨"StackMarks", va_Nw.use rfl (hN _ (by decide +kernel))⟩⟩, List.forall_mem_cons.mpr ⟨⟨RX0, TX0, 7, rfl, by decide, fun w hw => hts w (iw_X0 w hw), Or.inr ⟨"StackMarks", va_Nw.use rfl (hN _ (by decide +kernel))⟩⟩, List.forall_mem_cons.mpr ⟨⟨RX3, TX3, 6, rfl, by decide, fun w hw => hts w (iw_X3 w hw), Or.inr ⟨"StackMarks", va_Nw.use rfl (hN _ (by decide +kernel))⟩⟩, List.forall_mem_cons.mpr ⟨⟨RX2, TX2, 12, rfl, by decide, fun w hw => hts w (iw_X2 w hw), Or.inr ⟨"StackMarks", va_Nw.use rfl (hN _ (by decide +kernel))⟩⟩, List.forall_mem_cons.mpr ⟨⟨RX2, TX2, 12, rfl, by decide, fun w hw => hts w (iw_X2 w hw), Or.inr ⟨"StackMarks", va_Nw.use rfl (hN _ (by decide +kernel))⟩⟩, List.forall_mem_cons.mpr ⟨⟨RX4, TX4, 7, rfl, by decide, fun w hw => hts w (iw_X4 w hw), Or.inr ⟨"StackMarks", va_Nw.use rfl (hN _ (by decide +kernel))⟩⟩, List.forall_mem_cons.mpr ⟨⟨RX4, TX4, 7, rfl, by decide, fun w hw => hts w (iw_X4 w hw), Or.inr ⟨"StackMarks", va_Nw.use rfl (hN _ (by decide +kernel))⟩⟩, List.forall_mem_cons.mpr ⟨⟨RX4, TX4, 7, rfl, by decide, fun w hw => hts w (iw_X4 w hw), Or.inr ⟨"StackMarks", va_Nw.use rfl (hN _ (by decide +kernel))⟩⟩, List.forall_mem_cons.mpr ⟨⟨RX4, TX4, 7, rfl, by decide, fun w hw => hts w (iw_X4 w hw), Or.inr ⟨"StackMarks", va_Nw.use rfl (hN _ (by decide +kernel))⟩⟩, List.forall_mem_cons.mpr ⟨⟨RX5, TX5, 10, rfl, by decide, fun w hw => hts w (iw_X5 w hw), Or.inl (hts _ kf_X5_266)⟩, List.forall_mem_cons.mpr ⟨⟨RX5, TX5, 10, rfl, by decide, fun w hw => hts w (iw_X5 w hw), Or.inl (hts _ kf_X5_287)⟩, List.forall_mem_cons.mpr ⟨⟨RX2, TX2, 12, rfl, by decide, fun w hw => hts w (iw_X2 w hw), Or.inr ⟨"StackMarks", va_Nw.use rfl (hN _ (by decide +kernel))⟩⟩, fun _ q => absurd q List.not_mem_nil⟩⟩⟩⟩⟩⟩⟩⟩⟩⟩⟩⟩⟩⟩⟩⟩⟩⟩⟩⟩⟩⟩⟩⟩⟩⟩⟩⟩⟩⟩⟩⟩⟩⟩⟩⟩⟩⟩, List.forall_mem_cons.mpr ⟨⟨RX5, TX5, 10, ⟨rfl, by decide, fun w hw => hts w (iw_X5 w hw), Or.inl (hts _ kf_X5_73)⟩, rfl, by decide +kernel⟩, List.forall_mem_cons.mpr ⟨⟨RX5, TX5, 10, ⟨rfl, by decide, fun w hw => hts w (iw_X5 w hw), Or.inl (hts _ kf_X5_266)⟩, rfl, by decide +kernel⟩, List.forall_mem_cons.mpr ⟨⟨RX5, TX5, 10, ⟨rfl, by decide, fun w hw => hts w (iw_X5 w hw), Or.inl (hts _ kf_X5_287)⟩, rfl, by decide +kernel⟩, fun _ q => absurd q List.not_mem_nil⟩⟩⟩, List.forall_mem_cons.mpr ⟨hts _ kk_X5_59, List.forall_mem_cons.mpr ⟨hts _ kk_X5_90, List.forall_mem_cons.mpr ⟨hts _ kk_X5_152, List.forall_mem_cons.mpr ⟨hts _ kk_X5_170, List.forall_mem_cons.mpr ⟨hts _ kk_X5_180, List.forall_mem_cons.mpr ⟨hts _ kk_X5_283, fun _ q => absurd q List.not_mem_nil⟩⟩⟩⟩⟩⟩⟩
def FT_X6 : List (Nat × Nat × Nat) := [(7, 6, 2), (13, 6, 3), (16, 6, 4), (19, 6, 5), (22, 6, 6), (25, 6, 7), (29, 6, 8), (32, 6, 10), (35, 6, 11), (38, 6, 12), (41, 6, 13), (44, 6, 14), (47, 6, 15), (50, 6, 16), (53, 6, 17), (56, 6, 18), (59, 6, 21), (62, 6, 22), (65, 6, 23), (68, 6, 24), (71, 6, 25), (74, 6, 27), (77, 6, 28), (80, 6, 30), (83, 6, 0), (87, 6, 1), (90, 6, 9), (94, 6, 29), (125, 6, 20), (136, 6, 26), (149, 6, 19)]
def PT_X6 : List (Nat × Nat × Nat × Nat) := [(83, 6, 0, 0), (87, 6, 1, 0), (90, 6, 9, 0), (94, 6, 29, 1), (125, 6, 20, 0), (136, 6, 26, 0), (149, 6, 19, 0)]
def KT_X6 : List (Nat × Int32) := [(93, (-100002)), (98, 100000), (107, (-100001)), (170, (-100003)), (177, 101000)]
set_option maxRecDepth 20000 in
theorem fa_X6 : ∀ (s : State) (args : Array Value), (∀ w ∈ wA, w.before args s = true) → xNw s → (∀ q ∈ FT_X6, xFt s args RX6 q) ∧ (∀ q ∈ PT_X6, xPt s args RX6 q) ∧ ∀ q ∈ KT_X6, (Jvm.Cond.constant RX6 q.1 q.2).before args s = true :=
  fun s args hts hN => ⟨List.forall_mem_cons.mpr ⟨⟨RX6, TX6, 31, rfl, by decide, fun w hw => hts w (iw_X6 w hw), Or.inl (hts _ kf_X6_7)⟩, List.forall_mem_cons.mpr ⟨⟨RX6, TX6, 31, rfl, by decide, fun w hw => hts w (iw_X6 w hw), Or.inl (hts _ kf_X6_13)⟩, List.forall_mem_cons.mpr ⟨⟨RX6, TX6, 31, rfl, by decide, fun w hw => hts w (iw_X6 w hw), Or.inl (hts _ kf_X6_16)⟩, List.forall_mem_cons.mpr ⟨⟨RX6, TX6, 31, rfl, by decide, fun w hw => hts w (iw_X6 w hw), Or.inl (hts _ kf_X6_19)⟩, List.forall_mem_cons.mpr ⟨⟨RX6, TX6, 31, rfl, by decide, fun w hw => hts w (iw_X6 w hw), Or.inl (hts _ kf_X6_22)⟩, List.forall_mem_cons.mpr ⟨⟨RX6, TX6, 31, rfl, by decide, fun w hw => hts w (iw_X6 w hw), Or.inl (hts _ kf_X6_25)⟩, List.forall_mem_cons.mpr ⟨⟨RX6, TX6, 31, rfl, by decide, fun w hw => hts w (iw_X6 w hw), Or.inl (hts _ kf_X6_29)⟩, List.forall_mem_cons.mpr ⟨⟨RX6, TX6, 31, rfl, by decide, fun w hw => hts w (iw_X6 w hw), Or.inl (hts _ kf_X6_32)⟩, List.forall_mem_cons.mpr ⟨⟨RX6, TX6, 31, rfl, by decide, fun w hw => hts w (iw_X6 w hw), Or.inl (hts _ kf_X6_35)⟩, List.forall_mem_cons.mpr ⟨⟨RX6, TX6, 31, rfl, by decide, fun w hw => hts w (iw_X6 w hw), Or.inl (hts _ kf_X6_38)⟩, List.forall_mem_cons.mpr ⟨⟨RX6, TX6, 31, rfl, by decide, fun w hw => hts w (iw_X6 w hw), Or.inl (hts _ kf_X6_41)⟩, List.forall_mem_cons.mpr ⟨⟨RX6, TX6, 31, rfl, by decide, fun w hw => hts w (iw_X6 w hw), Or.inl (hts _ kf_X6_44)⟩, List.forall_mem_cons.mpr ⟨⟨RX6, TX6, 31, rfl, by decide, fun w hw => hts w (iw_X6 w hw), Or.inl (hts _ kf_X6_47)⟩, List.forall_mem_cons.mpr ⟨⟨RX6, TX6, 31, rfl, by decide, fun w hw => hts w (iw_X6 w hw), Or.inl (hts _ kf_X6_50)⟩, List.forall_mem_cons.mpr ⟨⟨RX6, TX6, 31, rfl, by decide, fun w hw => hts w (iw_X6 w hw), Or.inl (hts _ kf_X6_53)⟩, List.forall_mem_cons.mpr ⟨⟨RX6, TX6, 31, rfl, by decide, fun w hw => hts w (iw_X6 w hw), Or.inl (hts _ kf_X6_56)⟩, List.forall_mem_cons.mpr ⟨⟨RX6, TX6, 31, rfl, by decide, fun w hw => hts w (iw_X6 w hw), Or.inl (hts _ kf_X6_59)⟩, List.forall_mem_cons.mpr ⟨⟨RX6, TX6, 31, rfl, by decide, fun w hw => hts w (iw_X6 w hw), Or.inl (hts _ kf_X6_62)⟩, List.forall_mem_cons.mpr ⟨⟨RX6, TX6, 31, rfl, by decide, fun w hw => hts w (iw_X6 w hw), Or.inl (hts _ kf_X6_65)⟩, List.forall_mem_cons.mpr ⟨⟨RX6, TX6, 31, rfl, by decide, fun w hw => hts w (iw_X6 w hw), Or.inl (hts _ kf_X6_68)⟩, List.forall_mem_cons.mpr ⟨⟨RX6, TX6, 31, rfl, by decide, fun w hw => hts w (iw_X6 w hw), Or.inl (hts _ kf_X6_71)⟩, List.forall_mem_cons.mpr ⟨⟨RX6, TX6, 31, rfl, by decide, fun w hw => hts w (iw_X6 w hw), Or.inl (hts _ kf_X6_74)⟩, List.forall_mem_cons.mpr ⟨⟨RX6, TX6, 31, rfl, by decide, fun w hw => hts w (iw_X6 w hw), Or.inl (hts _ kf_X6_77)⟩, List.forall_mem_cons.mpr ⟨⟨RX6, TX6, 31, rfl, by decide, fun w hw => hts w (iw_X6 w hw), Or.inl (hts _ kf_X6_80)⟩, List.forall_mem_cons.mpr ⟨⟨RX6, TX6, 31, rfl, by decide, fun w hw => hts w (iw_X6 w hw), Or.inl (hts _ kf_X6_83)⟩, List.forall_mem_cons.mpr ⟨⟨RX6, TX6, 31, rfl, by decide, fun w hw => hts w (iw_X6 w hw), Or.inl (hts _ kf_X6_87)⟩, List.forall_mem_cons.mpr ⟨⟨RX6, TX6, 31, rfl, by decide, fun w hw => hts w (iw_X6 w hw), Or.inl (hts _ kf_X6_90)⟩, List.forall_mem_cons.mpr ⟨⟨RX6, TX6, 31, rfl, by decide, fun w hw => hts w (iw_X6 w hw), Or.inl (hts _ kf_X6_94)⟩, List.forall_mem_cons.mpr ⟨⟨RX6, TX6, 31, rfl, by decide, fun w hw => hts w (iw_X6 w hw), Or.inl (hts _ kf_X6_125)⟩, List.forall_mem_cons.mpr ⟨⟨RX6, TX6, 31, rfl, by decide, fun w hw => hts w (iw_X6 w hw), Or.inl (hts _ kf_X6_136)⟩, List.forall_mem_cons.mpr ⟨⟨RX6, TX6, 31, rfl, by decide, fun w hw => hts w (iw_X6 w hw), Or.inl (hts _ kf_X6_149)⟩, fun _ q => absurd q List.not_mem_nil⟩⟩⟩⟩⟩⟩⟩⟩⟩⟩⟩⟩⟩⟩⟩⟩⟩⟩⟩⟩⟩⟩⟩⟩⟩⟩⟩⟩⟩⟩⟩, List.forall_mem_cons.mpr ⟨⟨RX6, TX6, 31, ⟨rfl, by decide, fun w hw => hts w (iw_X6 w hw), Or.inl (hts _ kf_X6_83)⟩, rfl, by decide +kernel⟩, List.forall_mem_cons.mpr ⟨⟨RX6, TX6, 31, ⟨rfl, by decide, fun w hw => hts w (iw_X6 w hw), Or.inl (hts _ kf_X6_87)⟩, rfl, by decide +kernel⟩, List.forall_mem_cons.mpr ⟨⟨RX6, TX6, 31, ⟨rfl, by decide, fun w hw => hts w (iw_X6 w hw), Or.inl (hts _ kf_X6_90)⟩, rfl, by decide +kernel⟩, List.forall_mem_cons.mpr ⟨⟨RX6, TX6, 31, ⟨rfl, by decide, fun w hw => hts w (iw_X6 w hw), Or.inl (hts _ kf_X6_94)⟩, rfl, by decide +kernel⟩, List.forall_mem_cons.mpr ⟨⟨RX6, TX6, 31, ⟨rfl, by decide, fun w hw => hts w (iw_X6 w hw), Or.inl (hts _ kf_X6_125)⟩, rfl, by decide +kernel⟩, List.forall_mem_cons.mpr ⟨⟨RX6, TX6, 31, ⟨rfl, by decide, fun w hw => hts w (iw_X6 w hw), Or.inl (hts _ kf_X6_136)⟩, rfl, by decide +kernel⟩, List.forall_mem_cons.mpr ⟨⟨RX6, TX6, 31, ⟨rfl, by decide, fun w hw => hts w (iw_X6 w hw), Or.inl (hts _ kf_X6_149)⟩, rfl, by decide +kernel⟩, fun _ q => absurd q List.not_mem_nil⟩⟩⟩⟩⟩⟩⟩, List.forall_mem_cons.mpr ⟨hts _ kk_X6_93, List.forall_mem_cons.mpr ⟨hts _ kk_X6_98, List.forall_mem_cons.mpr ⟨hts _ kk_X6_107, List.forall_mem_cons.mpr ⟨hts _ kk_X6_170, List.forall_mem_cons.mpr ⟨hts _ kk_X6_177, fun _ q => absurd q List.not_mem_nil⟩⟩⟩⟩⟩⟩
end
section
section
variable {p : Program} {l : Launch} {e : Env} {R : Room} {s : State} {m : MethodId} {args : Array Value} {below : List Frame} {meth : Method} {c : Code} {cells slots : Nat} {Q : State → Prop} {D : va_G} {g : Nat → Nat} {cI cZ : ClassId} {A : Nat → Prop} {R0 : RS}
def L_X0_has : List CE := [(0, .iload_n 1, 1, [], 0), (1, .ifCond .lt 15, 4, [16], 0), (4, .iload_n 1, 5, [], 0), (5, .aload_n 0, 6, [], 0), (6, .getfield 30, 9, [0, 6], 0), (9, .if_icmp .ge 7, 12, [16], 0), (12, .iconst 1, 13, [], 1), (13, .goto 4, 16, [17], 0), (16, .iconst 0, 17, [], 0), (17, .ireturn, 18, [1], 0)]
theorem ok_X0_has : ∀ q ∈ L_X0_has, rok cX0_has 2 1 q = true := by decide +kernel
theorem fk_X0_has : ∀ q ∈ L_X0_has, fck FT_X0 PT_X0 KT_X0 q = true := by decide +kernel
noncomputable def cs_X0_has : List CT := []
noncomputable def m_X0_has : MT := fun As S => brn xT cs_X0_has L_X0_has [] (dsp []) 12 [] 0 (zipN 0 As) [] S
theorem s_X0_has (M : xM p l e R s m args below meth c cells slots Q D xT g cI cZ A 2 cX0_has RX0 1 cs_X0_has L_X0_has R0) {As : List AV} {S : XS} (h : m_X0_has As S = some R0) : xG p l e R s m args below meth c cells slots Q D xT g cI cZ A 2 0 (zipN 0 As) [] S := xa_blk M (fun _ q => absurd q List.not_mem_nil) h
set_option maxRecDepth 20000 in
theorem c_X0_has {l : Launch} {D : va_G} {g : Nat → Nat} {cI cZ : ClassId} {A : Nat → Prop} (hD : ∀ S, va_D A (ww xT g cI cZ S)) : xMet l D xT g cI cZ A yX0_has (wm yX0_has cX0_has 2 1) { frames := 0, cells := 0, slots := 0, locals := 0 } 2 m_X0_has :=
  xa_met (ft := FT_X0) (pt := PT_X0) (kt := KT_X0) (cs := cs_X0_has) (L := L_X0_has) hD (by decide) (by decide) ok_X0_has fk_X0_has fa_X0 (fun p e s m args below meth c Q R0 C0 hts hN => all_get (fun _ q => absurd q List.not_mem_nil)) (fun p e s m args below meth c Q R0 As S M h => s_X0_has M h)
def L_X0_isAt : List CE := [(0, .iconst 0, 1, [], 0), (1, .istore_n 2, 2, [], 0), (2, .iload_n 2, 3, [], 0), (3, .aload_n 0, 4, [], 0), (4, .getfield 30, 7, [0, 6], 0), (7, .if_icmp .ge 21, 10, [28], 0), (10, .aload_n 0, 11, [], 0), (11, .getfield 9, 14, [0, 0], 0), (14, .iload_n 2, 15, [], 0), (15, .iaload, 16, [], 0), (16, .iload_n 1, 17, [], 0), (17, .if_icmp .ne 5, 20, [22], 0), (20, .iconst 1, 21, [], 1), (21, .ireturn, 22, [1], 0), (22, .iinc 2 1, 25, [], 1), (25, .goto (-23), 28, [2], 0), (28, .iconst 0, 29, [], 0), (29, .ireturn, 30, [1], 0)]
theorem ok_X0_isAt : ∀ q ∈ L_X0_isAt, rok cX0_isAt 3 1 q = true := by decide +kernel
theorem fk_X0_isAt : ∀ q ∈ L_X0_isAt, fck FT_X0 PT_X0 KT_X0 q = true := by decide +kernel
noncomputable def cs_X0_isAt : List CT := []
noncomputable def b_X0_isAt_2 : Nat → BT
  | 0 => fun _ _ _ => none
  | n + 1 => fun lv st S => brn xT cs_X0_isAt L_X0_isAt [2] (dsp [(2, [0, 1, 2], b_X0_isAt_2 n)]) 20 [] 2 lv st S
theorem s_X0_isAt_2 (M : xM p l e R s m args below meth c cells slots Q D xT g cI cZ A 3 cX0_isAt RX0 1 cs_X0_isAt L_X0_isAt R0) : ∀ n lv st S, b_X0_isAt_2 n lv st S = some R0 → xG p l e R s m args below meth c cells slots Q D xT g cI cZ A 3 2 lv st S := by
  intro n
  induction n with
  | zero => intro lv st S h; cases h
  | succ n ih => intro lv st S h; exact xa_blk M (List.forall_mem_cons.mpr ⟨fun lv st S h => (ih) lv st S h, fun _ q => absurd q List.not_mem_nil⟩) h
noncomputable def m_X0_isAt : MT := fun As S => brn xT cs_X0_isAt L_X0_isAt [2] (dsp [(2, [0, 1, 2], b_X0_isAt_2 fu)]) 20 [] 0 (zipN 0 As) [] S
theorem s_X0_isAt (M : xM p l e R s m args below meth c cells slots Q D xT g cI cZ A 3 cX0_isAt RX0 1 cs_X0_isAt L_X0_isAt R0) {As : List AV} {S : XS} (h : m_X0_isAt As S = some R0) : xG p l e R s m args below meth c cells slots Q D xT g cI cZ A 3 0 (zipN 0 As) [] S := xa_blk M (List.forall_mem_cons.mpr ⟨fun lv st S h => (s_X0_isAt_2 M fu) lv st S h, fun _ q => absurd q List.not_mem_nil⟩) h
set_option maxRecDepth 20000 in
theorem c_X0_isAt {l : Launch} {D : va_G} {g : Nat → Nat} {cI cZ : ClassId} {A : Nat → Prop} (hD : ∀ S, va_D A (ww xT g cI cZ S)) : xMet l D xT g cI cZ A yX0_isAt (wm yX0_isAt cX0_isAt 3 1) { frames := 0, cells := 0, slots := 0, locals := 0 } 2 m_X0_isAt :=
  xa_met (ft := FT_X0) (pt := PT_X0) (kt := KT_X0) (cs := cs_X0_isAt) (L := L_X0_isAt) hD (by decide) (by decide) ok_X0_isAt fk_X0_isAt fa_X0 (fun p e s m args below meth c Q R0 C0 hts hN => all_get (fun _ q => absurd q List.not_mem_nil)) (fun p e s m args below meth c Q R0 As S M h => s_X0_isAt M h)
def L_X0_add : List CE := [(0, .aload_n 0, 1, [], 0), (1, .getfield 30, 4, [0, 6], 0), (4, .istore 7, 6, [], 0), (6, .aload_n 0, 7, [], 0), (7, .getfield 9, 10, [0, 0], 0), (10, .iload 7, 12, [], 0), (12, .iload_n 1, 13, [], 0), (13, .iastore, 14, [], 0), (14, .aload_n 0, 15, [], 0), (15, .getfield 15, 18, [0, 1], 0), (18, .iload 7, 20, [], 0), (20, .iload_n 2, 21, [], 0), (21, .iastore, 22, [], 0), (22, .aload_n 0, 23, [], 0), (23, .getfield 18, 26, [0, 2], 0), (26, .iload 7, 28, [], 0), (28, .iload_n 3, 29, [], 0), (29, .iastore, 30, [], 0), (30, .aload_n 0, 31, [], 0), (31, .getfield 21, 34, [0, 3], 0), (34, .iload 7, 36, [], 0), (36, .iload 4, 38, [], 0), (38, .iastore, 39, [], 0), (39, .aload_n 0, 40, [], 0), (40, .getfield 24, 43, [0, 4], 0), (43, .iload 7, 45, [], 0), (45, .iload 5, 47, [], 0), (47, .iastore, 48, [], 0), (48, .aload_n 0, 49, [], 0), (49, .getfield 27, 52, [0, 5], 0), (52, .iload 7, 54, [], 0), (54, .iload 6, 56, [], 0), (56, .iastore, 57, [], 0), (57, .aload_n 0, 58, [], 0), (58, .dup, 59, [], 0), (59, .getfield 30, 62, [0, 6], 0), (62, .iconst 1, 63, [], 1), (63, .iadd, 64, [], 0), (64, .putfield 30, 67, [0, 6, 0], 0), (67, .iload 7, 69, [], 0), (69, .ireturn, 70, [0], 0)]
theorem ok_X0_add : ∀ q ∈ L_X0_add, rok cX0_add 8 0 q = true := by decide +kernel
theorem fk_X0_add : ∀ q ∈ L_X0_add, fck FT_X0 PT_X0 KT_X0 q = true := by decide +kernel
noncomputable def cs_X0_add : List CT := []
noncomputable def m_X0_add : MT := fun As S => brn xT cs_X0_add L_X0_add [] (dsp []) 43 [] 0 (zipN 0 As) [] S
theorem s_X0_add (M : xM p l e R s m args below meth c cells slots Q D xT g cI cZ A 8 cX0_add RX0 0 cs_X0_add L_X0_add R0) {As : List AV} {S : XS} (h : m_X0_add As S = some R0) : xG p l e R s m args below meth c cells slots Q D xT g cI cZ A 8 0 (zipN 0 As) [] S := xa_blk M (fun _ q => absurd q List.not_mem_nil) h
set_option maxRecDepth 20000 in
theorem c_X0_add {l : Launch} {D : va_G} {g : Nat → Nat} {cI cZ : ClassId} {A : Nat → Prop} (hD : ∀ S, va_D A (ww xT g cI cZ S)) : xMet l D xT g cI cZ A yX0_add (wm yX0_add cX0_add 8 0) { frames := 0, cells := 0, slots := 0, locals := 0 } 7 m_X0_add :=
  xa_met (ft := FT_X0) (pt := PT_X0) (kt := KT_X0) (cs := cs_X0_add) (L := L_X0_add) hD (by decide) (by decide) ok_X0_add fk_X0_add fa_X0 (fun p e s m args below meth c Q R0 C0 hts hN => all_get (fun _ q => absurd q List.not_mem_nil)) (fun p e s m args below meth c Q R0 As S M h => s_X0_add M h)
def L_X0_next : List CE := [(0, .iconst (-1), 1, [], (-1)), (1, .istore_n 2, 2, [], 0), (2, .iconst 0, 3, [], 0), (3, .istore_n 3, 4, [], 0), (4, .iload_n 3, 5, [], 0), (5, .aload_n 0, 6, [], 0), (6, .getfield 30, 9, [0, 6], 0), (9, .if_icmp .ge 45, 12, [54], 0), (12, .aload_n 0, 13, [], 0), (13, .getfield 9, 16, [0, 0], 0), (16, .iload_n 3, 17, [], 0), (17, .iaload, 18, [], 0), (18, .aload_n 0, 19, [], 0), (19, .getfield 9, 22, [0, 0], 0), (22, .iload_n 1, 23, [], 0), (23, .iaload, 24, [], 0), (24, .if_icmp .le 24, 27, [48], 0), (27, .iload_n 2, 28, [], 0), (28, .ifCond .lt 18, 31, [46], 0), (31, .aload_n 0, 32, [], 0), (32, .getfield 9, 35, [0, 0], 0), (35, .iload_n 3, 36, [], 0), (36, .iaload, 37, [], 0), (37, .aload_n 0, 38, [], 0), (38, .getfield 9, 41, [0, 0], 0), (41, .iload_n 2, 42, [], 0), (42, .iaload, 43, [], 0), (43, .if_icmp .ge 5, 46, [48], 0), (46, .iload_n 3, 47, [], 0), (47, .istore_n 2, 48, [], 0), (48, .iinc 3 1, 51, [], 1), (51, .goto (-47), 54, [4], 0), (54, .iload_n 2, 55, [], 0), (55, .ireturn, 56, [0], 0)]
theorem ok_X0_next : ∀ q ∈ L_X0_next, rok cX0_next 4 0 q = true := by decide +kernel
theorem fk_X0_next : ∀ q ∈ L_X0_next, fck FT_X0 PT_X0 KT_X0 q = true := by decide +kernel
noncomputable def cs_X0_next : List CT := []
noncomputable def b_X0_next_4 : Nat → BT
  | 0 => fun _ _ _ => none
  | n + 1 => fun lv st S => brn xT cs_X0_next L_X0_next [4] (dsp [(4, [0, 1, 2, 3], b_X0_next_4 n)]) 36 [] 4 lv st S
theorem s_X0_next_4 (M : xM p l e R s m args below meth c cells slots Q D xT g cI cZ A 4 cX0_next RX0 0 cs_X0_next L_X0_next R0) : ∀ n lv st S, b_X0_next_4 n lv st S = some R0 → xG p l e R s m args below meth c cells slots Q D xT g cI cZ A 4 4 lv st S := by
  intro n
  induction n with
  | zero => intro lv st S h; cases h
  | succ n ih => intro lv st S h; exact xa_blk M (List.forall_mem_cons.mpr ⟨fun lv st S h => (ih) lv st S h, fun _ q => absurd q List.not_mem_nil⟩) h
noncomputable def m_X0_next : MT := fun As S => brn xT cs_X0_next L_X0_next [4] (dsp [(4, [0, 1, 2, 3], b_X0_next_4 fu)]) 36 [] 0 (zipN 0 As) [] S
theorem s_X0_next (M : xM p l e R s m args below meth c cells slots Q D xT g cI cZ A 4 cX0_next RX0 0 cs_X0_next L_X0_next R0) {As : List AV} {S : XS} (h : m_X0_next As S = some R0) : xG p l e R s m args below meth c cells slots Q D xT g cI cZ A 4 0 (zipN 0 As) [] S := xa_blk M (List.forall_mem_cons.mpr ⟨fun lv st S h => (s_X0_next_4 M fu) lv st S h, fun _ q => absurd q List.not_mem_nil⟩) h
set_option maxRecDepth 20000 in
theorem c_X0_next {l : Launch} {D : va_G} {g : Nat → Nat} {cI cZ : ClassId} {A : Nat → Prop} (hD : ∀ S, va_D A (ww xT g cI cZ S)) : xMet l D xT g cI cZ A yX0_next (wm yX0_next cX0_next 4 0) { frames := 0, cells := 0, slots := 0, locals := 0 } 2 m_X0_next :=
  xa_met (ft := FT_X0) (pt := PT_X0) (kt := KT_X0) (cs := cs_X0_next) (L := L_X0_next) hD (by decide) (by decide) ok_X0_next fk_X0_next fa_X0 (fun p e s m args below meth c Q R0 C0 hts hN => all_get (fun _ q => absurd q List.not_mem_nil)) (fun p e s m args below meth c Q R0 As S M h => s_X0_next M h)
def L_X0_greatestX : List CE := [(0, .iconst 0, 1, [], 0), (1, .istore_n 1, 2, [], 0), (2, .iconst 0, 3, [], 0), (3, .istore_n 2, 4, [], 0), (4, .iload_n 2, 5, [], 0), (5, .aload_n 0, 6, [], 0), (6, .getfield 30, 9, [0, 6], 0), (9, .if_icmp .ge 20, 12, [29], 0), (12, .iload_n 1, 13, [], 0), (13, .aload_n 0, 14, [], 0), (14, .getfield 9, 17, [0, 0], 0), (17, .iload_n 2, 18, [], 0), (18, .iaload, 19, [], 0), (19, .invokestatic 34, 22, [0], 0), (22, .istore_n 1, 23, [], 0), (23, .iinc 2 1, 26, [], 1), (26, .goto (-22), 29, [4], 0), (29, .iload_n 1, 30, [], 0), (30, .ireturn, 31, [0], 0)]
theorem ok_X0_greatestX : ∀ q ∈ L_X0_greatestX, rok cX0_greatestX 3 0 q = true := by decide +kernel
theorem fk_X0_greatestX : ∀ q ∈ L_X0_greatestX, fck FT_X0 PT_X0 KT_X0 q = true := by decide +kernel
noncomputable def cs_X0_greatestX : List CT := [(true, 34, 2, 1, 0, sem_max)]
noncomputable def b_X0_greatestX_4 : Nat → BT
  | 0 => fun _ _ _ => none
  | n + 1 => fun lv st S => brn xT cs_X0_greatestX L_X0_greatestX [4] (dsp [(4, [0, 1, 2], b_X0_greatestX_4 n)]) 21 [] 4 lv st S
theorem s_X0_greatestX_4 (M : xM p l e R s m args below meth c cells slots Q D xT g cI cZ A 3 cX0_greatestX RX0 0 cs_X0_greatestX L_X0_greatestX R0) : ∀ n lv st S, b_X0_greatestX_4 n lv st S = some R0 → xG p l e R s m args below meth c cells slots Q D xT g cI cZ A 3 4 lv st S := by
  intro n
  induction n with
  | zero => intro lv st S h; cases h
  | succ n ih => intro lv st S h; exact xa_blk M (List.forall_mem_cons.mpr ⟨fun lv st S h => (ih) lv st S h, fun _ q => absurd q List.not_mem_nil⟩) h
noncomputable def m_X0_greatestX : MT := fun As S => brn xT cs_X0_greatestX L_X0_greatestX [4] (dsp [(4, [0, 1, 2], b_X0_greatestX_4 fu)]) 21 [] 0 (zipN 0 As) [] S
theorem s_X0_greatestX (M : xM p l e R s m args below meth c cells slots Q D xT g cI cZ A 3 cX0_greatestX RX0 0 cs_X0_greatestX L_X0_greatestX R0) {As : List AV} {S : XS} (h : m_X0_greatestX As S = some R0) : xG p l e R s m args below meth c cells slots Q D xT g cI cZ A 3 0 (zipN 0 As) [] S := xa_blk M (List.forall_mem_cons.mpr ⟨fun lv st S h => (s_X0_greatestX_4 M fu) lv st S h, fun _ q => absurd q List.not_mem_nil⟩) h
set_option maxRecDepth 20000 in
theorem c_X0_greatestX {l : Launch} {D : va_G} {g : Nat → Nat} {cI cZ : ClassId} {A : Nat → Prop} (hD : ∀ S, va_D A (ww xT g cI cZ S)) : xMet l D xT g cI cZ A yX0_greatestX (wm yX0_greatestX cX0_greatestX 3 0) { frames := 1, cells := 0, slots := 0, locals := 21 } 1 m_X0_greatestX :=
  xa_met (ft := FT_X0) (pt := PT_X0) (kt := KT_X0) (cs := cs_X0_greatestX) (L := L_X0_greatestX) hD (by decide) (by decide) ok_X0_greatestX fk_X0_greatestX fa_X0 (fun p e s m args below meth c Q R0 C0 hts hN => all_get (List.forall_mem_cons.mpr ⟨xcf_max C0 (hts _ (List.mem_cons_of_mem _ km_X0_34)) (hts _ (List.mem_cons_of_mem _ km_s)) (hts _ (List.mem_cons_of_mem _ km_n)) (hts _ (List.mem_cons_of_mem _ km_c)) ⟨by decide, by decide⟩ ⟨Nat.zero_le _, Nat.zero_le _⟩, fun _ q => absurd q List.not_mem_nil⟩)) (fun p e s m args below meth c Q R0 As S M h => s_X0_greatestX M h)
def L_X0_moveBehind : List CE := [(0, .iconst 0, 1, [], 0), (1, .istore_n 3, 2, [], 0), (2, .iload_n 3, 3, [], 0), (3, .aload_n 0, 4, [], 0), (4, .getfield 30, 7, [0, 6], 0), (7, .if_icmp .ge 29, 10, [36], 0), (10, .aload_n 0, 11, [], 0), (11, .getfield 9, 14, [0, 0], 0), (14, .iload_n 3, 15, [], 0), (15, .iaload, 16, [], 0), (16, .iload_n 1, 17, [], 0), (17, .if_icmp .le 13, 20, [30], 0), (20, .aload_n 0, 21, [], 0), (21, .getfield 9, 24, [0, 0], 0), (24, .iload_n 3, 25, [], 0), (25, .dup2, 26, [], 0), (26, .iaload, 27, [], 0), (27, .iload_n 2, 28, [], 0), (28, .iadd, 29, [], 0), (29, .iastore, 30, [], 0), (30, .iinc 3 1, 33, [], 1), (33, .goto (-31), 36, [2], 0), (36, .return_, 37, [], 0)]
theorem ok_X0_moveBehind : ∀ q ∈ L_X0_moveBehind, rok cX0_moveBehind 4 2 q = true := by decide +kernel
theorem fk_X0_moveBehind : ∀ q ∈ L_X0_moveBehind, fck FT_X0 PT_X0 KT_X0 q = true := by decide +kernel
noncomputable def cs_X0_moveBehind : List CT := []
noncomputable def b_X0_moveBehind_2 : Nat → BT
  | 0 => fun _ _ _ => none
  | n + 1 => fun lv st S => brn xT cs_X0_moveBehind L_X0_moveBehind [2] (dsp [(2, [0, 1, 2, 3], b_X0_moveBehind_2 n)]) 25 [] 2 lv st S
theorem s_X0_moveBehind_2 (M : xM p l e R s m args below meth c cells slots Q D xT g cI cZ A 4 cX0_moveBehind RX0 2 cs_X0_moveBehind L_X0_moveBehind R0) : ∀ n lv st S, b_X0_moveBehind_2 n lv st S = some R0 → xG p l e R s m args below meth c cells slots Q D xT g cI cZ A 4 2 lv st S := by
  intro n
  induction n with
  | zero => intro lv st S h; cases h
  | succ n ih => intro lv st S h; exact xa_blk M (List.forall_mem_cons.mpr ⟨fun lv st S h => (ih) lv st S h, fun _ q => absurd q List.not_mem_nil⟩) h
noncomputable def m_X0_moveBehind : MT := fun As S => brn xT cs_X0_moveBehind L_X0_moveBehind [2] (dsp [(2, [0, 1, 2, 3], b_X0_moveBehind_2 fu)]) 25 [] 0 (zipN 0 As) [] S
theorem s_X0_moveBehind (M : xM p l e R s m args below meth c cells slots Q D xT g cI cZ A 4 cX0_moveBehind RX0 2 cs_X0_moveBehind L_X0_moveBehind R0) {As : List AV} {S : XS} (h : m_X0_moveBehind As S = some R0) : xG p l e R s m args below meth c cells slots Q D xT g cI cZ A 4 0 (zipN 0 As) [] S := xa_blk M (List.forall_mem_cons.mpr ⟨fun lv st S h => (s_X0_moveBehind_2 M fu) lv st S h, fun _ q => absurd q List.not_mem_nil⟩) h
set_option maxRecDepth 20000 in
theorem c_X0_moveBehind {l : Launch} {D : va_G} {g : Nat → Nat} {cI cZ : ClassId} {A : Nat → Prop} (hD : ∀ S, va_D A (ww xT g cI cZ S)) : xMet l D xT g cI cZ A yX0_moveBehind (wm yX0_moveBehind cX0_moveBehind 4 2) { frames := 0, cells := 0, slots := 0, locals := 0 } 3 m_X0_moveBehind :=
  xa_met (ft := FT_X0) (pt := PT_X0) (kt := KT_X0) (cs := cs_X0_moveBehind) (L := L_X0_moveBehind) hD (by decide) (by decide) ok_X0_moveBehind fk_X0_moveBehind fa_X0 (fun p e s m args below meth c Q R0 C0 hts hN => all_get (fun _ q => absurd q List.not_mem_nil)) (fun p e s m args below meth c Q R0 As S M h => s_X0_moveBehind M h)
def L_X0_haveBothVoices : List CE := [(0, .iconst 0, 1, [], 0), (1, .istore_n 1, 2, [], 0), (2, .iconst 0, 3, [], 0), (3, .istore_n 2, 4, [], 0), (4, .iload_n 2, 5, [], 0), (5, .aload_n 0, 6, [], 0), (6, .getfield 30, 9, [0, 6], 0), (9, .if_icmp .ge 18, 12, [27], 0), (12, .iload_n 1, 13, [], 0), (13, .aload_n 0, 14, [], 0), (14, .getfield 21, 17, [0, 3], 0), (17, .iload_n 2, 18, [], 0), (18, .iaload, 19, [], 0), (19, .iadd, 20, [], 0), (20, .istore_n 1, 21, [], 0), (21, .iinc 2 1, 24, [], 1), (24, .goto (-20), 27, [4], 0), (27, .iload_n 1, 28, [], 0), (28, .ifCond .le 15, 31, [43], 0), (31, .iload_n 1, 32, [], 0), (32, .aload_n 0, 33, [], 0), (33, .getfield 30, 36, [0, 6], 0), (36, .if_icmp .ge 7, 39, [43], 0), (39, .iconst 1, 40, [], 1), (40, .goto 4, 43, [44], 0), (43, .iconst 0, 44, [], 0), (44, .ireturn, 45, [1], 0)]
theorem ok_X0_haveBothVoices : ∀ q ∈ L_X0_haveBothVoices, rok cX0_haveBothVoices 3 1 q = true := by decide +kernel
theorem fk_X0_haveBothVoices : ∀ q ∈ L_X0_haveBothVoices, fck FT_X0 PT_X0 KT_X0 q = true := by decide +kernel
noncomputable def cs_X0_haveBothVoices : List CT := []
noncomputable def b_X0_haveBothVoices_4 : Nat → BT
  | 0 => fun _ _ _ => none
  | n + 1 => fun lv st S => brn xT cs_X0_haveBothVoices L_X0_haveBothVoices [4] (dsp [(4, [0, 1, 2], b_X0_haveBothVoices_4 n)]) 29 [] 4 lv st S
theorem s_X0_haveBothVoices_4 (M : xM p l e R s m args below meth c cells slots Q D xT g cI cZ A 3 cX0_haveBothVoices RX0 1 cs_X0_haveBothVoices L_X0_haveBothVoices R0) : ∀ n lv st S, b_X0_haveBothVoices_4 n lv st S = some R0 → xG p l e R s m args below meth c cells slots Q D xT g cI cZ A 3 4 lv st S := by
  intro n
  induction n with
  | zero => intro lv st S h; cases h
  | succ n ih => intro lv st S h; exact xa_blk M (List.forall_mem_cons.mpr ⟨fun lv st S h => (ih) lv st S h, fun _ q => absurd q List.not_mem_nil⟩) h
noncomputable def m_X0_haveBothVoices : MT := fun As S => brn xT cs_X0_haveBothVoices L_X0_haveBothVoices [4] (dsp [(4, [0, 1, 2], b_X0_haveBothVoices_4 fu)]) 29 [] 0 (zipN 0 As) [] S
theorem s_X0_haveBothVoices (M : xM p l e R s m args below meth c cells slots Q D xT g cI cZ A 3 cX0_haveBothVoices RX0 1 cs_X0_haveBothVoices L_X0_haveBothVoices R0) {As : List AV} {S : XS} (h : m_X0_haveBothVoices As S = some R0) : xG p l e R s m args below meth c cells slots Q D xT g cI cZ A 3 0 (zipN 0 As) [] S := xa_blk M (List.forall_mem_cons.mpr ⟨fun lv st S h => (s_X0_haveBothVoices_4 M fu) lv st S h, fun _ q => absurd q List.not_mem_nil⟩) h
set_option maxRecDepth 20000 in
theorem c_X0_haveBothVoices {l : Launch} {D : va_G} {g : Nat → Nat} {cI cZ : ClassId} {A : Nat → Prop} (hD : ∀ S, va_D A (ww xT g cI cZ S)) : xMet l D xT g cI cZ A yX0_haveBothVoices (wm yX0_haveBothVoices cX0_haveBothVoices 3 1) { frames := 0, cells := 0, slots := 0, locals := 0 } 1 m_X0_haveBothVoices :=
  xa_met (ft := FT_X0) (pt := PT_X0) (kt := KT_X0) (cs := cs_X0_haveBothVoices) (L := L_X0_haveBothVoices) hD (by decide) (by decide) ok_X0_haveBothVoices fk_X0_haveBothVoices fa_X0 (fun p e s m args below meth c Q R0 C0 hts hN => all_get (fun _ q => absurd q List.not_mem_nil)) (fun p e s m args below meth c Q R0 As S M h => s_X0_haveBothVoices M h)
def L_X1_has : List CE := [(0, .iload_n 1, 1, [], 0), (1, .ifCond .lt 13, 4, [14], 0), (4, .iload_n 1, 5, [], 0), (5, .bipush 10, 7, [], 10), (7, .if_icmp .ge 7, 10, [14], 0), (10, .iconst 1, 11, [], 1), (11, .goto 4, 14, [15], 0), (14, .iconst 0, 15, [], 0), (15, .ireturn, 16, [1], 0)]
theorem ok_X1_has : ∀ q ∈ L_X1_has, rok cX1_has 2 1 q = true := by decide +kernel
theorem fk_X1_has : ∀ q ∈ L_X1_has, fck FT_X1 PT_X1 KT_X1 q = true := by decide +kernel
noncomputable def cs_X1_has : List CT := []
noncomputable def m_X1_has : MT := fun As S => brn xT cs_X1_has L_X1_has [] (dsp []) 11 [] 0 (zipN 0 As) [] S
theorem s_X1_has (M : xM p l e R s m args below meth c cells slots Q D xT g cI cZ A 2 cX1_has RX1 1 cs_X1_has L_X1_has R0) {As : List AV} {S : XS} (h : m_X1_has As S = some R0) : xG p l e R s m args below meth c cells slots Q D xT g cI cZ A 2 0 (zipN 0 As) [] S := xa_blk M (fun _ q => absurd q List.not_mem_nil) h
set_option maxRecDepth 20000 in
theorem c_X1_has {l : Launch} {D : va_G} {g : Nat → Nat} {cI cZ : ClassId} {A : Nat → Prop} (hD : ∀ S, va_D A (ww xT g cI cZ S)) : xMet l D xT g cI cZ A yX1_has (wm yX1_has cX1_has 2 1) { frames := 0, cells := 0, slots := 0, locals := 0 } 2 m_X1_has :=
  xa_met (ft := FT_X1) (pt := PT_X1) (kt := KT_X1) (cs := cs_X1_has) (L := L_X1_has) hD (by decide) (by decide) ok_X1_has fk_X1_has fa_X1 (fun p e s m args below meth c Q R0 C0 hts hN => all_get (fun _ q => absurd q List.not_mem_nil)) (fun p e s m args below meth c Q R0 As S M h => s_X1_has M h)
def L_X1_takes : List CE := [(0, .iload_n 1, 1, [], 0), (1, .ifCond .lt 26, 4, [27], 0), (4, .iload_n 1, 5, [], 0), (5, .bipush 6, 7, [], 6), (7, .if_icmp .ge 20, 10, [27], 0), (10, .iload_n 2, 11, [], 0), (11, .ifCond .lt 16, 14, [27], 0), (14, .iload_n 2, 15, [], 0), (15, .getstatic 16, 18, [], 0), (18, .iload_n 1, 19, [], 0), (19, .iaload, 20, [], 0), (20, .if_icmp .gt 7, 23, [27], 0), (23, .iconst 1, 24, [], 1), (24, .goto 4, 27, [28], 0), (27, .iconst 0, 28, [], 0), (28, .ireturn, 29, [1], 0)]
theorem ok_X1_takes : ∀ q ∈ L_X1_takes, rok cX1_takes 3 1 q = true := by decide +kernel
theorem fk_X1_takes : ∀ q ∈ L_X1_takes, fck FT_X1 PT_X1 KT_X1 q = true := by decide +kernel
noncomputable def cs_X1_takes : List CT := []
noncomputable def m_X1_takes : MT := fun As S => brn xT cs_X1_takes L_X1_takes [] (dsp []) 18 [] 0 (zipN 0 As) [] S
theorem s_X1_takes (M : xM p l e R s m args below meth c cells slots Q D xT g cI cZ A 3 cX1_takes RX1 1 cs_X1_takes L_X1_takes R0) {As : List AV} {S : XS} (h : m_X1_takes As S = some R0) : xG p l e R s m args below meth c cells slots Q D xT g cI cZ A 3 0 (zipN 0 As) [] S := xa_blk M (fun _ q => absurd q List.not_mem_nil) h
set_option maxRecDepth 20000 in
theorem c_X1_takes {l : Launch} {D : va_G} {g : Nat → Nat} {cI cZ : ClassId} {A : Nat → Prop} (hD : ∀ S, va_D A (ww xT g cI cZ S)) : xMet l D xT g cI cZ A yX1_takes (wm yX1_takes cX1_takes 3 1) { frames := 0, cells := 0, slots := 0, locals := 0 } 3 m_X1_takes :=
  xa_met (ft := FT_X1) (pt := PT_X1) (kt := KT_X1) (cs := cs_X1_takes) (L := L_X1_takes) hD (by decide) (by decide) ok_X1_takes fk_X1_takes fa_X1 (fun p e s m args below meth c Q R0 C0 hts hN => all_get (fun _ q => absurd q List.not_mem_nil)) (fun p e s m args below meth c Q R0 As S M h => s_X1_takes M h)
def L_X1_get : List CE := [(0, .aload_n 0, 1, [], 0), (1, .getfield 9, 4, [1, 0], 0), (4, .iload_n 1, 5, [], 0), (5, .bipush 6, 7, [], 6), (7, .imul, 8, [], 0), (8, .iload_n 2, 9, [], 0), (9, .iadd, 10, [], 0), (10, .iaload, 11, [], 0), (11, .ireturn, 12, [0], 0)]
theorem ok_X1_get : ∀ q ∈ L_X1_get, rok cX1_get 3 0 q = true := by decide +kernel
theorem fk_X1_get : ∀ q ∈ L_X1_get, fck FT_X1 PT_X1 KT_X1 q = true := by decide +kernel
noncomputable def cs_X1_get : List CT := []
noncomputable def m_X1_get : MT := fun As S => brn xT cs_X1_get L_X1_get [] (dsp []) 11 [] 0 (zipN 0 As) [] S
theorem s_X1_get (M : xM p l e R s m args below meth c cells slots Q D xT g cI cZ A 3 cX1_get RX1 0 cs_X1_get L_X1_get R0) {As : List AV} {S : XS} (h : m_X1_get As S = some R0) : xG p l e R s m args below meth c cells slots Q D xT g cI cZ A 3 0 (zipN 0 As) [] S := xa_blk M (fun _ q => absurd q List.not_mem_nil) h
set_option maxRecDepth 20000 in
theorem c_X1_get {l : Launch} {D : va_G} {g : Nat → Nat} {cI cZ : ClassId} {A : Nat → Prop} (hD : ∀ S, va_D A (ww xT g cI cZ S)) : xMet l D xT g cI cZ A yX1_get (wm yX1_get cX1_get 3 0) { frames := 0, cells := 0, slots := 0, locals := 0 } 3 m_X1_get :=
  xa_met (ft := FT_X1) (pt := PT_X1) (kt := KT_X1) (cs := cs_X1_get) (L := L_X1_get) hD (by decide) (by decide) ok_X1_get fk_X1_get fa_X1 (fun p e s m args below meth c Q R0 C0 hts hN => all_get (fun _ q => absurd q List.not_mem_nil)) (fun p e s m args below meth c Q R0 As S M h => s_X1_get M h)
def L_X1_change : List CE := [(0, .aload_n 0, 1, [], 0), (1, .iload_n 1, 2, [], 0), (2, .iload_n 2, 3, [], 0), (3, .invokevirtual 19, 6, [0], 0), (6, .istore 4, 8, [], 0), (8, .aload_n 0, 9, [], 0), (9, .getfield 9, 12, [1, 0], 0), (12, .iload_n 1, 13, [], 0), (13, .bipush 6, 15, [], 6), (15, .imul, 16, [], 0), (16, .iload_n 2, 17, [], 0), (17, .iadd, 18, [], 0), (18, .iload_n 3, 19, [], 0), (19, .iastore, 20, [], 0), (20, .iload 4, 22, [], 0), (22, .ireturn, 23, [0], 0)]
theorem ok_X1_change : ∀ q ∈ L_X1_change, rok cX1_change 5 0 q = true := by decide +kernel
theorem fk_X1_change : ∀ q ∈ L_X1_change, fck FT_X1 PT_X1 KT_X1 q = true := by decide +kernel
noncomputable def cs_X1_change : List CT := [(false, 19, 3, 1, 1, m_X1_get)]
noncomputable def m_X1_change : MT := fun As S => brn xT cs_X1_change L_X1_change [] (dsp []) 18 [] 0 (zipN 0 As) [] S
theorem s_X1_change (M : xM p l e R s m args below meth c cells slots Q D xT g cI cZ A 5 cX1_change RX1 0 cs_X1_change L_X1_change R0) {As : List AV} {S : XS} (h : m_X1_change As S = some R0) : xG p l e R s m args below meth c cells slots Q D xT g cI cZ A 5 0 (zipN 0 As) [] S := xa_blk M (fun _ q => absurd q List.not_mem_nil) h
set_option maxRecDepth 20000 in
theorem c_X1_change {l : Launch} {D : va_G} {g : Nat → Nat} {cI cZ : ClassId} {A : Nat → Prop} (hD : ∀ S, va_D A (ww xT g cI cZ S)) : xMet l D xT g cI cZ A yX1_change (wm yX1_change cX1_change 5 0) { frames := 1, cells := 0, slots := 0, locals := 22 } 4 m_X1_change :=
  xa_met (ft := FT_X1) (pt := PT_X1) (kt := KT_X1) (cs := cs_X1_change) (L := L_X1_change) hD (by decide) (by decide) ok_X1_change fk_X1_change fa_X1 (fun p e s m args below meth c Q R0 C0 hts hN => all_get (List.forall_mem_cons.mpr ⟨xcf_V (C := RX1) C0 hts hN (c_X1_get hD) (good_V kl_X1_19 ki_X1_get ks_X1_get kn_X1 kc_X1_get) rfl ⟨rfl, rfl⟩ rfl (by decide +kernel) ⟨by decide, by decide⟩ ⟨Nat.zero_le _, Nat.zero_le _⟩, fun _ q => absurd q List.not_mem_nil⟩)) (fun p e s m args below meth c Q R0 As S M h => s_X1_change M h)
def L_X1_liesFromX : List CE := [(0, .aload_n 0, 1, [], 0), (1, .iload_n 1, 2, [], 0), (2, .iconst 2, 3, [], 2), (3, .invokevirtual 19, 6, [0], 0), (6, .iconst 1, 7, [], 1), (7, .if_icmp .ne 7, 10, [14], 0), (10, .iconst 1, 11, [], 1), (11, .goto 4, 14, [15], 0), (14, .iconst 0, 15, [], 0), (15, .ireturn, 16, [1], 0)]
theorem ok_X1_liesFromX : ∀ q ∈ L_X1_liesFromX, rok cX1_liesFromX 2 1 q = true := by decide +kernel
theorem fk_X1_liesFromX : ∀ q ∈ L_X1_liesFromX, fck FT_X1 PT_X1 KT_X1 q = true := by decide +kernel
noncomputable def cs_X1_liesFromX : List CT := [(false, 19, 3, 1, 1, m_X1_get)]
noncomputable def m_X1_liesFromX : MT := fun As S => brn xT cs_X1_liesFromX L_X1_liesFromX [] (dsp []) 12 [] 0 (zipN 0 As) [] S
theorem s_X1_liesFromX (M : xM p l e R s m args below meth c cells slots Q D xT g cI cZ A 2 cX1_liesFromX RX1 1 cs_X1_liesFromX L_X1_liesFromX R0) {As : List AV} {S : XS} (h : m_X1_liesFromX As S = some R0) : xG p l e R s m args below meth c cells slots Q D xT g cI cZ A 2 0 (zipN 0 As) [] S := xa_blk M (fun _ q => absurd q List.not_mem_nil) h
set_option maxRecDepth 20000 in
theorem c_X1_liesFromX {l : Launch} {D : va_G} {g : Nat → Nat} {cI cZ : ClassId} {A : Nat → Prop} (hD : ∀ S, va_D A (ww xT g cI cZ S)) : xMet l D xT g cI cZ A yX1_liesFromX (wm yX1_liesFromX cX1_liesFromX 2 1) { frames := 1, cells := 0, slots := 0, locals := 22 } 2 m_X1_liesFromX :=
  xa_met (ft := FT_X1) (pt := PT_X1) (kt := KT_X1) (cs := cs_X1_liesFromX) (L := L_X1_liesFromX) hD (by decide) (by decide) ok_X1_liesFromX fk_X1_liesFromX fa_X1 (fun p e s m args below meth c Q R0 C0 hts hN => all_get (List.forall_mem_cons.mpr ⟨xcf_V (C := RX1) C0 hts hN (c_X1_get hD) (good_V kl_X1_19 ki_X1_get ks_X1_get kn_X1 kc_X1_get) rfl ⟨rfl, rfl⟩ rfl (by decide +kernel) ⟨by decide, by decide⟩ ⟨Nat.zero_le _, Nat.zero_le _⟩, fun _ q => absurd q List.not_mem_nil⟩)) (fun p e s m args below meth c Q R0 As S M h => s_X1_liesFromX M h)
def L_X1_isInRow : List CE := [(0, .aload_n 0, 1, [], 0), (1, .iload_n 1, 2, [], 0), (2, .iconst 4, 3, [], 4), (3, .invokevirtual 19, 6, [0], 0), (6, .iconst 1, 7, [], 1), (7, .if_icmp .ne 7, 10, [14], 0), (10, .iconst 1, 11, [], 1), (11, .goto 4, 14, [15], 0), (14, .iconst 0, 15, [], 0), (15, .ireturn, 16, [1], 0)]
theorem ok_X1_isInRow : ∀ q ∈ L_X1_isInRow, rok cX1_isInRow 2 1 q = true := by decide +kernel
theorem fk_X1_isInRow : ∀ q ∈ L_X1_isInRow, fck FT_X1 PT_X1 KT_X1 q = true := by decide +kernel
noncomputable def cs_X1_isInRow : List CT := [(false, 19, 3, 1, 1, m_X1_get)]
noncomputable def m_X1_isInRow : MT := fun As S => brn xT cs_X1_isInRow L_X1_isInRow [] (dsp []) 12 [] 0 (zipN 0 As) [] S
theorem s_X1_isInRow (M : xM p l e R s m args below meth c cells slots Q D xT g cI cZ A 2 cX1_isInRow RX1 1 cs_X1_isInRow L_X1_isInRow R0) {As : List AV} {S : XS} (h : m_X1_isInRow As S = some R0) : xG p l e R s m args below meth c cells slots Q D xT g cI cZ A 2 0 (zipN 0 As) [] S := xa_blk M (fun _ q => absurd q List.not_mem_nil) h
set_option maxRecDepth 20000 in
theorem c_X1_isInRow {l : Launch} {D : va_G} {g : Nat → Nat} {cI cZ : ClassId} {A : Nat → Prop} (hD : ∀ S, va_D A (ww xT g cI cZ S)) : xMet l D xT g cI cZ A yX1_isInRow (wm yX1_isInRow cX1_isInRow 2 1) { frames := 1, cells := 0, slots := 0, locals := 22 } 2 m_X1_isInRow :=
  xa_met (ft := FT_X1) (pt := PT_X1) (kt := KT_X1) (cs := cs_X1_isInRow) (L := L_X1_isInRow) hD (by decide) (by decide) ok_X1_isInRow fk_X1_isInRow fa_X1 (fun p e s m args below meth c Q R0 C0 hts hN => all_get (List.forall_mem_cons.mpr ⟨xcf_V (C := RX1) C0 hts hN (c_X1_get hD) (good_V kl_X1_19 ki_X1_get ks_X1_get kn_X1 kc_X1_get) rfl ⟨rfl, rfl⟩ rfl (by decide +kernel) ⟨by decide, by decide⟩ ⟨Nat.zero_le _, Nat.zero_le _⟩, fun _ q => absurd q List.not_mem_nil⟩)) (fun p e s m args below meth c Q R0 As S M h => s_X1_isInRow M h)
def L_X1_rank : List CE := [(0, .aload_n 0, 1, [], 0), (1, .iload_n 1, 2, [], 0), (2, .iconst 5, 3, [], 5), (3, .invokevirtual 19, 6, [0], 0), (6, .getstatic 16, 9, [], 0), (9, .iconst 0, 10, [], 0), (10, .iaload, 11, [], 0), (11, .iconst 1, 12, [], 1), (12, .iadd, 13, [], 0), (13, .imul, 14, [], 0), (14, .aload_n 0, 15, [], 0), (15, .iload_n 1, 16, [], 0), (16, .iconst 0, 17, [], 0), (17, .invokevirtual 19, 20, [0], 0), (20, .iadd, 21, [], 0), (21, .ireturn, 22, [0], 0)]
theorem ok_X1_rank : ∀ q ∈ L_X1_rank, rok cX1_rank 2 0 q = true := by decide +kernel
theorem fk_X1_rank : ∀ q ∈ L_X1_rank, fck FT_X1 PT_X1 KT_X1 q = true := by decide +kernel
noncomputable def cs_X1_rank : List CT := [(false, 19, 3, 1, 1, m_X1_get)]
noncomputable def m_X1_rank : MT := fun As S => brn xT cs_X1_rank L_X1_rank [] (dsp []) 18 [] 0 (zipN 0 As) [] S
theorem s_X1_rank (M : xM p l e R s m args below meth c cells slots Q D xT g cI cZ A 2 cX1_rank RX1 0 cs_X1_rank L_X1_rank R0) {As : List AV} {S : XS} (h : m_X1_rank As S = some R0) : xG p l e R s m args below meth c cells slots Q D xT g cI cZ A 2 0 (zipN 0 As) [] S := xa_blk M (fun _ q => absurd q List.not_mem_nil) h
set_option maxRecDepth 20000 in
theorem c_X1_rank {l : Launch} {D : va_G} {g : Nat → Nat} {cI cZ : ClassId} {A : Nat → Prop} (hD : ∀ S, va_D A (ww xT g cI cZ S)) : xMet l D xT g cI cZ A yX1_rank (wm yX1_rank cX1_rank 2 0) { frames := 1, cells := 0, slots := 0, locals := 22 } 2 m_X1_rank :=
  xa_met (ft := FT_X1) (pt := PT_X1) (kt := KT_X1) (cs := cs_X1_rank) (L := L_X1_rank) hD (by decide) (by decide) ok_X1_rank fk_X1_rank fa_X1 (fun p e s m args below meth c Q R0 C0 hts hN => all_get (List.forall_mem_cons.mpr ⟨xcf_V (C := RX1) C0 hts hN (c_X1_get hD) (good_V kl_X1_19 ki_X1_get ks_X1_get kn_X1 kc_X1_get) rfl ⟨rfl, rfl⟩ rfl (by decide +kernel) ⟨by decide, by decide⟩ ⟨Nat.zero_le _, Nat.zero_le _⟩, fun _ q => absurd q List.not_mem_nil⟩)) (fun p e s m args below meth c Q R0 As S M h => s_X1_rank M h)
def L_X2_has : List CE := [(0, .iload_n 1, 1, [], 0), (1, .ifCond .lt 24, 4, [25], 0), (4, .iload_n 1, 5, [], 0), (5, .aload_n 0, 6, [], 0), (6, .getfield 46, 9, [2, 11], 0), (9, .if_icmp .ge 16, 12, [25], 0), (12, .aload_n 0, 13, [], 0), (13, .getfield 24, 16, [2, 4], 0), (16, .iload_n 1, 17, [], 0), (17, .baload, 18, [], 0), (18, .ifCond .ne 7, 21, [25], 0), (21, .iconst 1, 22, [], 1), (22, .goto 4, 25, [26], 0), (25, .iconst 0, 26, [], 0), (26, .ireturn, 27, [1], 0)]
theorem ok_X2_has : ∀ q ∈ L_X2_has, rok cX2_has 2 1 q = true := by decide +kernel
theorem fk_X2_has : ∀ q ∈ L_X2_has, fck FT_X2 PT_X2 KT_X2 q = true := by decide +kernel
noncomputable def cs_X2_has : List CT := []
noncomputable def m_X2_has : MT := fun As S => brn xT cs_X2_has L_X2_has [] (dsp []) 17 [] 0 (zipN 0 As) [] S
theorem s_X2_has (M : xM p l e R s m args below meth c cells slots Q D xT g cI cZ A 2 cX2_has RX2 1 cs_X2_has L_X2_has R0) {As : List AV} {S : XS} (h : m_X2_has As S = some R0) : xG p l e R s m args below meth c cells slots Q D xT g cI cZ A 2 0 (zipN 0 As) [] S := xa_blk M (fun _ q => absurd q List.not_mem_nil) h
set_option maxRecDepth 20000 in
theorem c_X2_has {l : Launch} {D : va_G} {g : Nat → Nat} {cI cZ : ClassId} {A : Nat → Prop} (hD : ∀ S, va_D A (ww xT g cI cZ S)) : xMet l D xT g cI cZ A yX2_has (wm yX2_has cX2_has 2 1) { frames := 0, cells := 0, slots := 0, locals := 0 } 2 m_X2_has :=
  xa_met (ft := FT_X2) (pt := PT_X2) (kt := KT_X2) (cs := cs_X2_has) (L := L_X2_has) hD (by decide) (by decide) ok_X2_has fk_X2_has fa_X2 (fun p e s m args below meth c Q R0 C0 hts hN => all_get (fun _ q => absurd q List.not_mem_nil)) (fun p e s m args below meth c Q R0 As S M h => s_X2_has M h)
def L_X2_add : List CE := [(0, .aload_n 0, 1, [], 0), (1, .getfield 46, 4, [2, 11], 0), (4, .istore 5, 6, [], 0), (6, .aload_n 0, 7, [], 0), (7, .getfield 9, 10, [2, 0], 0), (10, .iload 5, 12, [], 0), (12, .iload_n 1, 13, [], 0), (13, .iastore, 14, [], 0), (14, .aload_n 0, 15, [], 0), (15, .getfield 15, 18, [2, 1], 0), (18, .iload 5, 20, [], 0), (20, .iload_n 2, 21, [], 0), (21, .iastore, 22, [], 0), (22, .aload_n 0, 23, [], 0), (23, .getfield 18, 26, [2, 2], 0), (26, .iload 5, 28, [], 0), (28, .iload_n 3, 29, [], 0), (29, .iastore, 30, [], 0), (30, .aload_n 0, 31, [], 0), (31, .getfield 21, 34, [2, 3], 0), (34, .iload 5, 36, [], 0), (36, .iload 4, 38, [], 0), (38, .iastore, 39, [], 0), (39, .aload_n 0, 40, [], 0), (40, .dup, 41, [], 0), (41, .getfield 46, 44, [2, 11], 0), (44, .iconst 1, 45, [], 1), (45, .iadd, 46, [], 0), (46, .putfield 46, 49, [2, 11, 0], 0), (49, .iload 5, 51, [], 0), (51, .ireturn, 52, [0], 0)]
theorem ok_X2_add : ∀ q ∈ L_X2_add, rok cX2_add 6 0 q = true := by decide +kernel
theorem fk_X2_add : ∀ q ∈ L_X2_add, fck FT_X2 PT_X2 KT_X2 q = true := by decide +kernel
noncomputable def cs_X2_add : List CT := []
noncomputable def m_X2_add : MT := fun As S => brn xT cs_X2_add L_X2_add [] (dsp []) 33 [] 0 (zipN 0 As) [] S
theorem s_X2_add (M : xM p l e R s m args below meth c cells slots Q D xT g cI cZ A 6 cX2_add RX2 0 cs_X2_add L_X2_add R0) {As : List AV} {S : XS} (h : m_X2_add As S = some R0) : xG p l e R s m args below meth c cells slots Q D xT g cI cZ A 6 0 (zipN 0 As) [] S := xa_blk M (fun _ q => absurd q List.not_mem_nil) h
set_option maxRecDepth 20000 in
theorem c_X2_add {l : Launch} {D : va_G} {g : Nat → Nat} {cI cZ : ClassId} {A : Nat → Prop} (hD : ∀ S, va_D A (ww xT g cI cZ S)) : xMet l D xT g cI cZ A yX2_add (wm yX2_add cX2_add 6 0) { frames := 0, cells := 0, slots := 0, locals := 0 } 5 m_X2_add :=
  xa_met (ft := FT_X2) (pt := PT_X2) (kt := KT_X2) (cs := cs_X2_add) (L := L_X2_add) hD (by decide) (by decide) ok_X2_add fk_X2_add fa_X2 (fun p e s m args below meth c Q R0 C0 hts hN => all_get (fun _ q => absurd q List.not_mem_nil)) (fun p e s m args below meth c Q R0 As S M h => s_X2_add M h)
def L_X2_countThere : List CE := [(0, .iconst 0, 1, [], 0), (1, .istore_n 1, 2, [], 0), (2, .iconst 0, 3, [], 0), (3, .istore_n 2, 4, [], 0), (4, .iload_n 2, 5, [], 0), (5, .aload_n 0, 6, [], 0), (6, .getfield 46, 9, [2, 11], 0), (9, .if_icmp .ge 26, 12, [35], 0), (12, .iload_n 1, 13, [], 0), (13, .aload_n 0, 14, [], 0), (14, .getfield 24, 17, [2, 4], 0), (17, .iload_n 2, 18, [], 0), (18, .baload, 19, [], 0), (19, .ifCond .eq 7, 22, [26], 0), (22, .iconst 0, 23, [], 0), (23, .goto 4, 26, [27], 0), (26, .iconst 1, 27, [], 1), (27, .iadd, 28, [], 0), (28, .istore_n 1, 29, [], 0), (29, .iinc 2 1, 32, [], 1), (32, .goto (-28), 35, [4], 0), (35, .iload_n 1, 36, [], 0), (36, .ireturn, 37, [0], 0)]
theorem ok_X2_countThere : ∀ q ∈ L_X2_countThere, rok cX2_countThere 3 0 q = true := by decide +kernel
theorem fk_X2_countThere : ∀ q ∈ L_X2_countThere, fck FT_X2 PT_X2 KT_X2 q = true := by decide +kernel
noncomputable def cs_X2_countThere : List CT := []
noncomputable def b_X2_countThere_4 : Nat → BT
  | 0 => fun _ _ _ => none
  | n + 1 => fun lv st S => brn xT cs_X2_countThere L_X2_countThere [4] (dsp [(4, [0, 1, 2], b_X2_countThere_4 n)]) 25 [] 4 lv st S
theorem s_X2_countThere_4 (M : xM p l e R s m args below meth c cells slots Q D xT g cI cZ A 3 cX2_countThere RX2 0 cs_X2_countThere L_X2_countThere R0) : ∀ n lv st S, b_X2_countThere_4 n lv st S = some R0 → xG p l e R s m args below meth c cells slots Q D xT g cI cZ A 3 4 lv st S := by
  intro n
  induction n with
  | zero => intro lv st S h; cases h
  | succ n ih => intro lv st S h; exact xa_blk M (List.forall_mem_cons.mpr ⟨fun lv st S h => (ih) lv st S h, fun _ q => absurd q List.not_mem_nil⟩) h
noncomputable def m_X2_countThere : MT := fun As S => brn xT cs_X2_countThere L_X2_countThere [4] (dsp [(4, [0, 1, 2], b_X2_countThere_4 fu)]) 25 [] 0 (zipN 0 As) [] S
theorem s_X2_countThere (M : xM p l e R s m args below meth c cells slots Q D xT g cI cZ A 3 cX2_countThere RX2 0 cs_X2_countThere L_X2_countThere R0) {As : List AV} {S : XS} (h : m_X2_countThere As S = some R0) : xG p l e R s m args below meth c cells slots Q D xT g cI cZ A 3 0 (zipN 0 As) [] S := xa_blk M (List.forall_mem_cons.mpr ⟨fun lv st S h => (s_X2_countThere_4 M fu) lv st S h, fun _ q => absurd q List.not_mem_nil⟩) h
set_option maxRecDepth 20000 in
theorem c_X2_countThere {l : Launch} {D : va_G} {g : Nat → Nat} {cI cZ : ClassId} {A : Nat → Prop} (hD : ∀ S, va_D A (ww xT g cI cZ S)) : xMet l D xT g cI cZ A yX2_countThere (wm yX2_countThere cX2_countThere 3 0) { frames := 0, cells := 0, slots := 0, locals := 0 } 1 m_X2_countThere :=
  xa_met (ft := FT_X2) (pt := PT_X2) (kt := KT_X2) (cs := cs_X2_countThere) (L := L_X2_countThere) hD (by decide) (by decide) ok_X2_countThere fk_X2_countThere fa_X2 (fun p e s m args below meth c Q R0 C0 hts hN => all_get (fun _ q => absurd q List.not_mem_nil)) (fun p e s m args below meth c Q R0 As S M h => s_X2_countThere M h)
def L_X2_countAt : List CE := [(0, .iconst 0, 1, [], 0), (1, .istore_n 2, 2, [], 0), (2, .iconst 0, 3, [], 0), (3, .istore_n 3, 4, [], 0), (4, .iload_n 3, 5, [], 0), (5, .aload_n 0, 6, [], 0), (6, .getfield 46, 9, [2, 11], 0), (9, .if_icmp .ge 36, 12, [45], 0), (12, .iload_n 2, 13, [], 0), (13, .aload_n 0, 14, [], 0), (14, .getfield 24, 17, [2, 4], 0), (17, .iload_n 3, 18, [], 0), (18, .baload, 19, [], 0), (19, .ifCond .ne 17, 22, [36], 0), (22, .aload_n 0, 23, [], 0), (23, .getfield 9, 26, [2, 0], 0), (26, .iload_n 3, 27, [], 0), (27, .iaload, 28, [], 0), (28, .iload_n 1, 29, [], 0), (29, .if_icmp .ne 7, 32, [36], 0), (32, .iconst 1, 33, [], 1), (33, .goto 4, 36, [37], 0), (36, .iconst 0, 37, [], 0), (37, .iadd, 38, [], 0), (38, .istore_n 2, 39, [], 0), (39, .iinc 3 1, 42, [], 1), (42, .goto (-38), 45, [4], 0), (45, .iload_n 2, 46, [], 0), (46, .ireturn, 47, [0], 0)]
theorem ok_X2_countAt : ∀ q ∈ L_X2_countAt, rok cX2_countAt 4 0 q = true := by decide +kernel
theorem fk_X2_countAt : ∀ q ∈ L_X2_countAt, fck FT_X2 PT_X2 KT_X2 q = true := by decide +kernel
noncomputable def cs_X2_countAt : List CT := []
noncomputable def b_X2_countAt_4 : Nat → BT
  | 0 => fun _ _ _ => none
  | n + 1 => fun lv st S => brn xT cs_X2_countAt L_X2_countAt [4] (dsp [(4, [0, 1, 2, 3], b_X2_countAt_4 n)]) 31 [] 4 lv st S
theorem s_X2_countAt_4 (M : xM p l e R s m args below meth c cells slots Q D xT g cI cZ A 4 cX2_countAt RX2 0 cs_X2_countAt L_X2_countAt R0) : ∀ n lv st S, b_X2_countAt_4 n lv st S = some R0 → xG p l e R s m args below meth c cells slots Q D xT g cI cZ A 4 4 lv st S := by
  intro n
  induction n with
  | zero => intro lv st S h; cases h
  | succ n ih => intro lv st S h; exact xa_blk M (List.forall_mem_cons.mpr ⟨fun lv st S h => (ih) lv st S h, fun _ q => absurd q List.not_mem_nil⟩) h
noncomputable def m_X2_countAt : MT := fun As S => brn xT cs_X2_countAt L_X2_countAt [4] (dsp [(4, [0, 1, 2, 3], b_X2_countAt_4 fu)]) 31 [] 0 (zipN 0 As) [] S
theorem s_X2_countAt (M : xM p l e R s m args below meth c cells slots Q D xT g cI cZ A 4 cX2_countAt RX2 0 cs_X2_countAt L_X2_countAt R0) {As : List AV} {S : XS} (h : m_X2_countAt As S = some R0) : xG p l e R s m args below meth c cells slots Q D xT g cI cZ A 4 0 (zipN 0 As) [] S := xa_blk M (List.forall_mem_cons.mpr ⟨fun lv st S h => (s_X2_countAt_4 M fu) lv st S h, fun _ q => absurd q List.not_mem_nil⟩) h
set_option maxRecDepth 20000 in
theorem c_X2_countAt {l : Launch} {D : va_G} {g : Nat → Nat} {cI cZ : ClassId} {A : Nat → Prop} (hD : ∀ S, va_D A (ww xT g cI cZ S)) : xMet l D xT g cI cZ A yX2_countAt (wm yX2_countAt cX2_countAt 4 0) { frames := 0, cells := 0, slots := 0, locals := 0 } 2 m_X2_countAt :=
  xa_met (ft := FT_X2) (pt := PT_X2) (kt := KT_X2) (cs := cs_X2_countAt) (L := L_X2_countAt) hD (by decide) (by decide) ok_X2_countAt fk_X2_countAt fa_X2 (fun p e s m args below meth c Q R0 C0 hts hN => all_get (fun _ q => absurd q List.not_mem_nil)) (fun p e s m args below meth c Q R0 As S M h => s_X2_countAt M h)
def L_X2_isOn : List CE := [(0, .aload_n 0, 1, [], 0), (1, .getfield 24, 4, [2, 4], 0), (4, .iload_n 1, 5, [], 0), (5, .baload, 6, [], 0), (6, .ifCond .ne 27, 9, [33], 0), (9, .aload_n 0, 10, [], 0), (10, .getfield 9, 13, [2, 0], 0), (13, .iload_n 1, 14, [], 0), (14, .iaload, 15, [], 0), (15, .iload_n 2, 16, [], 0), (16, .if_icmp .ne 17, 19, [33], 0), (19, .aload_n 0, 20, [], 0), (20, .getfield 31, 23, [2, 6], 0), (23, .iload_n 1, 24, [], 0), (24, .iaload, 25, [], 0), (25, .iload_n 3, 26, [], 0), (26, .if_icmp .ne 7, 29, [33], 0), (29, .iconst 1, 30, [], 1), (30, .goto 4, 33, [34], 0), (33, .iconst 0, 34, [], 0), (34, .ireturn, 35, [1], 0)]
theorem ok_X2_isOn : ∀ q ∈ L_X2_isOn, rok cX2_isOn 4 1 q = true := by decide +kernel
theorem fk_X2_isOn : ∀ q ∈ L_X2_isOn, fck FT_X2 PT_X2 KT_X2 q = true := by decide +kernel
noncomputable def cs_X2_isOn : List CT := []
noncomputable def m_X2_isOn : MT := fun As S => brn xT cs_X2_isOn L_X2_isOn [] (dsp []) 23 [] 0 (zipN 0 As) [] S
theorem s_X2_isOn (M : xM p l e R s m args below meth c cells slots Q D xT g cI cZ A 4 cX2_isOn RX2 1 cs_X2_isOn L_X2_isOn R0) {As : List AV} {S : XS} (h : m_X2_isOn As S = some R0) : xG p l e R s m args below meth c cells slots Q D xT g cI cZ A 4 0 (zipN 0 As) [] S := xa_blk M (fun _ q => absurd q List.not_mem_nil) h
set_option maxRecDepth 20000 in
theorem c_X2_isOn {l : Launch} {D : va_G} {g : Nat → Nat} {cI cZ : ClassId} {A : Nat → Prop} (hD : ∀ S, va_D A (ww xT g cI cZ S)) : xMet l D xT g cI cZ A yX2_isOn (wm yX2_isOn cX2_isOn 4 1) { frames := 0, cells := 0, slots := 0, locals := 0 } 4 m_X2_isOn :=
  xa_met (ft := FT_X2) (pt := PT_X2) (kt := KT_X2) (cs := cs_X2_isOn) (L := L_X2_isOn) hD (by decide) (by decide) ok_X2_isOn fk_X2_isOn fa_X2 (fun p e s m args below meth c Q R0 C0 hts hN => all_get (fun _ q => absurd q List.not_mem_nil)) (fun p e s m args below meth c Q R0 As S M h => s_X2_isOn M h)
def L_X2_isOf : List CE := [(0, .aload_n 0, 1, [], 0), (1, .getfield 15, 4, [2, 1], 0), (4, .iload_n 1, 5, [], 0), (5, .iaload, 6, [], 0), (6, .iload_n 2, 7, [], 0), (7, .if_icmp .ne 17, 10, [24], 0), (10, .aload_n 0, 11, [], 0), (11, .getfield 31, 14, [2, 6], 0), (14, .iload_n 1, 15, [], 0), (15, .iaload, 16, [], 0), (16, .iload_n 3, 17, [], 0), (17, .if_icmp .ne 7, 20, [24], 0), (20, .iconst 1, 21, [], 1), (21, .goto 4, 24, [25], 0), (24, .iconst 0, 25, [], 0), (25, .ireturn, 26, [1], 0)]
theorem ok_X2_isOf : ∀ q ∈ L_X2_isOf, rok cX2_isOf 4 1 q = true := by decide +kernel
theorem fk_X2_isOf : ∀ q ∈ L_X2_isOf, fck FT_X2 PT_X2 KT_X2 q = true := by decide +kernel
noncomputable def cs_X2_isOf : List CT := []
noncomputable def m_X2_isOf : MT := fun As S => brn xT cs_X2_isOf L_X2_isOf [] (dsp []) 18 [] 0 (zipN 0 As) [] S
theorem s_X2_isOf (M : xM p l e R s m args below meth c cells slots Q D xT g cI cZ A 4 cX2_isOf RX2 1 cs_X2_isOf L_X2_isOf R0) {As : List AV} {S : XS} (h : m_X2_isOf As S = some R0) : xG p l e R s m args below meth c cells slots Q D xT g cI cZ A 4 0 (zipN 0 As) [] S := xa_blk M (fun _ q => absurd q List.not_mem_nil) h
set_option maxRecDepth 20000 in
theorem c_X2_isOf {l : Launch} {D : va_G} {g : Nat → Nat} {cI cZ : ClassId} {A : Nat → Prop} (hD : ∀ S, va_D A (ww xT g cI cZ S)) : xMet l D xT g cI cZ A yX2_isOf (wm yX2_isOf cX2_isOf 4 1) { frames := 0, cells := 0, slots := 0, locals := 0 } 4 m_X2_isOf :=
  xa_met (ft := FT_X2) (pt := PT_X2) (kt := KT_X2) (cs := cs_X2_isOf) (L := L_X2_isOf) hD (by decide) (by decide) ok_X2_isOf fk_X2_isOf fa_X2 (fun p e s m args below meth c Q R0 C0 hts hN => all_get (fun _ q => absurd q List.not_mem_nil)) (fun p e s m args below meth c Q R0 As S M h => s_X2_isOf M h)
def L_X2_behind : List CE := [(0, .aload_n 0, 1, [], 0), (1, .getfield 28, 4, [2, 5], 0), (4, .iload_n 1, 5, [], 0), (5, .iaload, 6, [], 0), (6, .aload_n 0, 7, [], 0), (7, .getfield 18, 10, [2, 2], 0), (10, .iload_n 1, 11, [], 0), (11, .iaload, 12, [], 0), (12, .iadd, 13, [], 0), (13, .ireturn, 14, [0], 0)]
theorem ok_X2_behind : ∀ q ∈ L_X2_behind, rok cX2_behind 2 0 q = true := by decide +kernel
theorem fk_X2_behind : ∀ q ∈ L_X2_behind, fck FT_X2 PT_X2 KT_X2 q = true := by decide +kernel
noncomputable def cs_X2_behind : List CT := []
noncomputable def m_X2_behind : MT := fun As S => brn xT cs_X2_behind L_X2_behind [] (dsp []) 12 [] 0 (zipN 0 As) [] S
theorem s_X2_behind (M : xM p l e R s m args below meth c cells slots Q D xT g cI cZ A 2 cX2_behind RX2 0 cs_X2_behind L_X2_behind R0) {As : List AV} {S : XS} (h : m_X2_behind As S = some R0) : xG p l e R s m args below meth c cells slots Q D xT g cI cZ A 2 0 (zipN 0 As) [] S := xa_blk M (fun _ q => absurd q List.not_mem_nil) h
set_option maxRecDepth 20000 in
theorem c_X2_behind {l : Launch} {D : va_G} {g : Nat → Nat} {cI cZ : ClassId} {A : Nat → Prop} (hD : ∀ S, va_D A (ww xT g cI cZ S)) : xMet l D xT g cI cZ A yX2_behind (wm yX2_behind cX2_behind 2 0) { frames := 0, cells := 0, slots := 0, locals := 0 } 2 m_X2_behind :=
  xa_met (ft := FT_X2) (pt := PT_X2) (kt := KT_X2) (cs := cs_X2_behind) (L := L_X2_behind) hD (by decide) (by decide) ok_X2_behind fk_X2_behind fa_X2 (fun p e s m args below meth c Q R0 C0 hts hN => all_get (fun _ q => absurd q List.not_mem_nil)) (fun p e s m args below meth c Q R0 As S M h => s_X2_behind M h)
def L_X2_shareX : List CE := [(0, .aload_n 0, 1, [], 0), (1, .getfield 28, 4, [2, 5], 0), (4, .iload_n 1, 5, [], 0), (5, .iaload, 6, [], 0), (6, .aload_n 0, 7, [], 0), (7, .iload_n 2, 8, [], 0), (8, .invokevirtual 50, 11, [0], 0), (11, .if_icmp .ge 21, 14, [32], 0), (14, .aload_n 0, 15, [], 0), (15, .getfield 28, 18, [2, 5], 0), (18, .iload_n 2, 19, [], 0), (19, .iaload, 20, [], 0), (20, .aload_n 0, 21, [], 0), (21, .iload_n 1, 22, [], 0), (22, .invokevirtual 50, 25, [0], 0), (25, .if_icmp .ge 7, 28, [32], 0), (28, .iconst 1, 29, [], 1), (29, .goto 4, 32, [33], 0), (32, .iconst 0, 33, [], 0), (33, .ireturn, 34, [1], 0)]
theorem ok_X2_shareX : ∀ q ∈ L_X2_shareX, rok cX2_shareX 3 1 q = true := by decide +kernel
theorem fk_X2_shareX : ∀ q ∈ L_X2_shareX, fck FT_X2 PT_X2 KT_X2 q = true := by decide +kernel
noncomputable def cs_X2_shareX : List CT := [(false, 50, 2, 1, 2, m_X2_behind)]
noncomputable def m_X2_shareX : MT := fun As S => brn xT cs_X2_shareX L_X2_shareX [] (dsp []) 22 [] 0 (zipN 0 As) [] S
theorem s_X2_shareX (M : xM p l e R s m args below meth c cells slots Q D xT g cI cZ A 3 cX2_shareX RX2 1 cs_X2_shareX L_X2_shareX R0) {As : List AV} {S : XS} (h : m_X2_shareX As S = some R0) : xG p l e R s m args below meth c cells slots Q D xT g cI cZ A 3 0 (zipN 0 As) [] S := xa_blk M (fun _ q => absurd q List.not_mem_nil) h
set_option maxRecDepth 20000 in
theorem c_X2_shareX {l : Launch} {D : va_G} {g : Nat → Nat} {cI cZ : ClassId} {A : Nat → Prop} (hD : ∀ S, va_D A (ww xT g cI cZ S)) : xMet l D xT g cI cZ A yX2_shareX (wm yX2_shareX cX2_shareX 3 1) { frames := 1, cells := 0, slots := 0, locals := 21 } 3 m_X2_shareX :=
  xa_met (ft := FT_X2) (pt := PT_X2) (kt := KT_X2) (cs := cs_X2_shareX) (L := L_X2_shareX) hD (by decide) (by decide) ok_X2_shareX fk_X2_shareX fa_X2 (fun p e s m args below meth c Q R0 C0 hts hN => all_get (List.forall_mem_cons.mpr ⟨xcf_V (C := RX2) C0 hts hN (c_X2_behind hD) (good_V kl_X2_50 ki_X2_behind ks_X2_behind kn_X2 kc_X2_behind) rfl ⟨rfl, rfl⟩ rfl (by decide +kernel) ⟨by decide, by decide⟩ ⟨Nat.zero_le _, Nat.zero_le _⟩, fun _ q => absurd q List.not_mem_nil⟩)) (fun p e s m args below meth c Q R0 As S M h => s_X2_shareX M h)
def L_X2_countNearer : List CE := [(0, .iconst 0, 1, [], 0), (1, .istore_n 2, 2, [], 0), (2, .iconst 0, 3, [], 0), (3, .istore_n 3, 4, [], 0), (4, .iload_n 3, 5, [], 0), (5, .aload_n 0, 6, [], 0), (6, .getfield 46, 9, [2, 11], 0), (9, .if_icmp .ge 84, 12, [93], 0), (12, .aload_n 0, 13, [], 0), (13, .getfield 34, 16, [2, 7], 0), (16, .iload_n 3, 17, [], 0), (17, .iaload, 18, [], 0), (18, .aload_n 0, 19, [], 0), (19, .getfield 34, 22, [2, 7], 0), (22, .iload_n 1, 23, [], 0), (23, .iaload, 24, [], 0), (24, .if_icmp .lt 23, 27, [47], 0), (27, .aload_n 0, 28, [], 0), (28, .getfield 34, 31, [2, 7], 0), (31, .iload_n 3, 32, [], 0), (32, .iaload, 33, [], 0), (33, .aload_n 0, 34, [], 0), (34, .getfield 34, 37, [2, 7], 0), (37, .iload_n 1, 38, [], 0), (38, .iaload, 39, [], 0), (39, .if_icmp .ne 12, 42, [51], 0), (42, .iload_n 3, 43, [], 0), (43, .iload_n 1, 44, [], 0), (44, .if_icmp .ge 7, 47, [51], 0), (47, .iconst 1, 48, [], 1), (48, .goto 4, 51, [52], 0), (51, .iconst 0, 52, [], 0), (52, .istore 4, 54, [], 0), (54, .iload_n 2, 55, [], 0), (55, .iload 4, 57, [], 0), (57, .ifCond .eq 27, 60, [84], 0), (60, .aload_n 0, 61, [], 0), (61, .iload_n 3, 62, [], 0), (62, .aload_n 0, 63, [], 0), (63, .getfield 9, 66, [2, 0], 0), (66, .iload_n 1, 67, [], 0), (67, .iaload, 68, [], 0), (68, .aload_n 0, 69, [], 0), (69, .getfield 31, 72, [2, 6], 0), (72, .iload_n 1, 73, [], 0), (73, .iaload, 74, [], 0), (74, .invokevirtual 54, 77, [0], 0), (77, .ifCond .eq 7, 80, [84], 0), (80, .iconst 1, 81, [], 1), (81, .goto 4, 84, [85], 0), (84, .iconst 0, 85, [], 0), (85, .iadd, 86, [], 0), (86, .istore_n 2, 87, [], 0), (87, .iinc 3 1, 90, [], 1), (90, .goto (-86), 93, [4], 0), (93, .iload_n 2, 94, [], 0), (94, .ireturn, 95, [0], 0)]
theorem ok_X2_countNearer : ∀ q ∈ L_X2_countNearer, rok cX2_countNearer 5 0 q = true := by decide +kernel
theorem fk_X2_countNearer : ∀ q ∈ L_X2_countNearer, fck FT_X2 PT_X2 KT_X2 q = true := by decide +kernel
noncomputable def cs_X2_countNearer : List CT := [(false, 54, 4, 1, 2, m_X2_isOn)]
noncomputable def b_X2_countNearer_52 (k4 : BT) : BT := fun lv st S => brn xT cs_X2_countNearer L_X2_countNearer [4, 52] (dsp [(4, [0, 1, 2, 3], k4)]) 59 [] 52 lv st S
theorem s_X2_countNearer_52 (M : xM p l e R s m args below meth c cells slots Q D xT g cI cZ A 5 cX2_countNearer RX2 0 cs_X2_countNearer L_X2_countNearer R0) {k4 : BT} (hk4 : ∀ lv st S, k4 lv st S = some R0 → xG p l e R s m args below meth c cells slots Q D xT g cI cZ A 5 4 lv st S) : ∀ lv st S, b_X2_countNearer_52 k4 lv st S = some R0 → xG p l e R s m args below meth c cells slots Q D xT g cI cZ A 5 52 lv st S := fun lv st S h => xa_blk M (List.forall_mem_cons.mpr ⟨fun lv st S h => (hk4) lv st S h, fun _ q => absurd q List.not_mem_nil⟩) h
noncomputable def b_X2_countNearer_4 : Nat → BT
  | 0 => fun _ _ _ => none
  | n + 1 => fun lv st S => brn xT cs_X2_countNearer L_X2_countNearer [4, 52] (dsp [(52, [0, 1, 2, 3], b_X2_countNearer_52 (b_X2_countNearer_4 n))]) 59 [] 4 lv st S
theorem s_X2_countNearer_4 (M : xM p l e R s m args below meth c cells slots Q D xT g cI cZ A 5 cX2_countNearer RX2 0 cs_X2_countNearer L_X2_countNearer R0) : ∀ n lv st S, b_X2_countNearer_4 n lv st S = some R0 → xG p l e R s m args below meth c cells slots Q D xT g cI cZ A 5 4 lv st S := by
  intro n
  induction n with
  | zero => intro lv st S h; cases h
  | succ n ih => intro lv st S h; exact xa_blk M (List.forall_mem_cons.mpr ⟨fun lv st S h => (s_X2_countNearer_52 M ih) lv st S h, fun _ q => absurd q List.not_mem_nil⟩) h
noncomputable def m_X2_countNearer : MT := fun As S => brn xT cs_X2_countNearer L_X2_countNearer [4, 52] (dsp [(4, [0, 1, 2, 3], b_X2_countNearer_4 fu)]) 59 [] 0 (zipN 0 As) [] S
theorem s_X2_countNearer (M : xM p l e R s m args below meth c cells slots Q D xT g cI cZ A 5 cX2_countNearer RX2 0 cs_X2_countNearer L_X2_countNearer R0) {As : List AV} {S : XS} (h : m_X2_countNearer As S = some R0) : xG p l e R s m args below meth c cells slots Q D xT g cI cZ A 5 0 (zipN 0 As) [] S := xa_blk M (List.forall_mem_cons.mpr ⟨fun lv st S h => (s_X2_countNearer_4 M fu) lv st S h, fun _ q => absurd q List.not_mem_nil⟩) h
set_option maxRecDepth 20000 in
theorem c_X2_countNearer {l : Launch} {D : va_G} {g : Nat → Nat} {cI cZ : ClassId} {A : Nat → Prop} (hD : ∀ S, va_D A (ww xT g cI cZ S)) : xMet l D xT g cI cZ A yX2_countNearer (wm yX2_countNearer cX2_countNearer 5 0) { frames := 1, cells := 0, slots := 0, locals := 23 } 2 m_X2_countNearer :=
  xa_met (ft := FT_X2) (pt := PT_X2) (kt := KT_X2) (cs := cs_X2_countNearer) (L := L_X2_countNearer) hD (by decide) (by decide) ok_X2_countNearer fk_X2_countNearer fa_X2 (fun p e s m args below meth c Q R0 C0 hts hN => all_get (List.forall_mem_cons.mpr ⟨xcf_V (C := RX2) C0 hts hN (c_X2_isOn hD) (good_V kl_X2_54 ki_X2_isOn ks_X2_isOn kn_X2 kc_X2_isOn) rfl ⟨rfl, rfl⟩ rfl (by decide +kernel) ⟨by decide, by decide⟩ ⟨Nat.zero_le _, Nat.zero_le _⟩, fun _ q => absurd q List.not_mem_nil⟩)) (fun p e s m args below meth c Q R0 As S M h => s_X2_countNearer M h)
def L_X3_clear : List CE := [(0, .aload_n 0, 1, [], 0), (1, .iconst 0, 2, [], 0), (2, .putfield 26, 5, [3, 4, 0], 0), (5, .aload_n 0, 6, [], 0), (6, .iconst 0, 7, [], 0), (7, .putfield 30, 10, [3, 5, 0], 0), (10, .iconst 0, 11, [], 0), (11, .istore_n 1, 12, [], 0), (12, .iload_n 1, 13, [], 0), (13, .bipush 10, 15, [], 10), (15, .if_icmp .ge 17, 18, [32], 0), (18, .aload_n 0, 19, [], 0), (19, .getfield 23, 22, [3, 3], 0), (22, .iload_n 1, 23, [], 0), (23, .ldc 33, 25, [], (-100003)), (25, .iastore, 26, [], 0), (26, .iinc 1 1, 29, [], 1), (29, .goto (-17), 32, [12], 0), (32, .return_, 33, [], 0)]
theorem ok_X3_clear : ∀ q ∈ L_X3_clear, rok cX3_clear 2 2 q = true := by decide +kernel
theorem fk_X3_clear : ∀ q ∈ L_X3_clear, fck FT_X3 PT_X3 KT_X3 q = true := by decide +kernel
noncomputable def cs_X3_clear : List CT := []
noncomputable def b_X3_clear_12 : Nat → BT
  | 0 => fun _ _ _ => none
  | n + 1 => fun lv st S => brn xT cs_X3_clear L_X3_clear [12] (dsp [(12, [0, 1], b_X3_clear_12 n)]) 21 [] 12 lv st S
theorem s_X3_clear_12 (M : xM p l e R s m args below meth c cells slots Q D xT g cI cZ A 2 cX3_clear RX3 2 cs_X3_clear L_X3_clear R0) : ∀ n lv st S, b_X3_clear_12 n lv st S = some R0 → xG p l e R s m args below meth c cells slots Q D xT g cI cZ A 2 12 lv st S := by
  intro n
  induction n with
  | zero => intro lv st S h; cases h
  | succ n ih => intro lv st S h; exact xa_blk M (List.forall_mem_cons.mpr ⟨fun lv st S h => (ih) lv st S h, fun _ q => absurd q List.not_mem_nil⟩) h
noncomputable def m_X3_clear : MT := fun As S => brn xT cs_X3_clear L_X3_clear [12] (dsp [(12, [0, 1], b_X3_clear_12 fu)]) 21 [] 0 (zipN 0 As) [] S
theorem s_X3_clear (M : xM p l e R s m args below meth c cells slots Q D xT g cI cZ A 2 cX3_clear RX3 2 cs_X3_clear L_X3_clear R0) {As : List AV} {S : XS} (h : m_X3_clear As S = some R0) : xG p l e R s m args below meth c cells slots Q D xT g cI cZ A 2 0 (zipN 0 As) [] S := xa_blk M (List.forall_mem_cons.mpr ⟨fun lv st S h => (s_X3_clear_12 M fu) lv st S h, fun _ q => absurd q List.not_mem_nil⟩) h
set_option maxRecDepth 20000 in
theorem c_X3_clear {l : Launch} {D : va_G} {g : Nat → Nat} {cI cZ : ClassId} {A : Nat → Prop} (hD : ∀ S, va_D A (ww xT g cI cZ S)) : xMet l D xT g cI cZ A yX3_clear (wm yX3_clear cX3_clear 2 2) { frames := 0, cells := 0, slots := 0, locals := 0 } 1 m_X3_clear :=
  xa_met (ft := FT_X3) (pt := PT_X3) (kt := KT_X3) (cs := cs_X3_clear) (L := L_X3_clear) hD (by decide) (by decide) ok_X3_clear fk_X3_clear fa_X3 (fun p e s m args below meth c Q R0 C0 hts hN => all_get (fun _ q => absurd q List.not_mem_nil)) (fun p e s m args below meth c Q R0 As S M h => s_X3_clear M h)
def L_X3_cover : List CE := [(0, .iload_n 3, 1, [], 0), (1, .bipush 18, 3, [], 18), (3, .if_icmp .le 53, 6, [56], 0), (6, .aload_n 0, 7, [], 0), (7, .getfield 26, 10, [3, 4], 0), (10, .sipush 170, 13, [], 170), (13, .if_icmp .ge 43, 16, [56], 0), (16, .aload_n 0, 17, [], 0), (17, .getfield 11, 20, [3, 0], 0), (20, .aload_n 0, 21, [], 0), (21, .getfield 26, 24, [3, 4], 0), (24, .iload_n 1, 25, [], 0), (25, .iastore, 26, [], 0), (26, .aload_n 0, 27, [], 0), (27, .getfield 15, 30, [3, 1], 0), (30, .aload_n 0, 31, [], 0), (31, .getfield 26, 34, [3, 4], 0), (34, .iload_n 2, 35, [], 0), (35, .iastore, 36, [], 0), (36, .aload_n 0, 37, [], 0), (37, .getfield 18, 40, [3, 2], 0), (40, .aload_n 0, 41, [], 0), (41, .getfield 26, 44, [3, 4], 0), (44, .iload_n 3, 45, [], 0), (45, .iastore, 46, [], 0), (46, .aload_n 0, 47, [], 0), (47, .dup, 48, [], 0), (48, .getfield 26, 51, [3, 4], 0), (51, .iconst 1, 52, [], 1), (52, .iadd, 53, [], 0), (53, .putfield 26, 56, [3, 4, 0], 0), (56, .return_, 57, [], 0)]
theorem ok_X3_cover : ∀ q ∈ L_X3_cover, rok cX3_cover 4 2 q = true := by decide +kernel
theorem fk_X3_cover : ∀ q ∈ L_X3_cover, fck FT_X3 PT_X3 KT_X3 q = true := by decide +kernel
noncomputable def cs_X3_cover : List CT := []
noncomputable def m_X3_cover : MT := fun As S => brn xT cs_X3_cover L_X3_cover [] (dsp []) 34 [] 0 (zipN 0 As) [] S
theorem s_X3_cover (M : xM p l e R s m args below meth c cells slots Q D xT g cI cZ A 4 cX3_cover RX3 2 cs_X3_cover L_X3_cover R0) {As : List AV} {S : XS} (h : m_X3_cover As S = some R0) : xG p l e R s m args below meth c cells slots Q D xT g cI cZ A 4 0 (zipN 0 As) [] S := xa_blk M (fun _ q => absurd q List.not_mem_nil) h
set_option maxRecDepth 20000 in
theorem c_X3_cover {l : Launch} {D : va_G} {g : Nat → Nat} {cI cZ : ClassId} {A : Nat → Prop} (hD : ∀ S, va_D A (ww xT g cI cZ S)) : xMet l D xT g cI cZ A yX3_cover (wm yX3_cover cX3_cover 4 2) { frames := 0, cells := 0, slots := 0, locals := 0 } 4 m_X3_cover :=
  xa_met (ft := FT_X3) (pt := PT_X3) (kt := KT_X3) (cs := cs_X3_cover) (L := L_X3_cover) hD (by decide) (by decide) ok_X3_cover fk_X3_cover fa_X3 (fun p e s m args below meth c Q R0 C0 hts hN => all_get (fun _ q => absurd q List.not_mem_nil)) (fun p e s m args below meth c Q R0 As S M h => s_X3_cover M h)
def L_X3_greatest : List CE := [(0, .bipush 18, 2, [], 18), (2, .istore_n 3, 3, [], 0), (3, .iconst 0, 4, [], 0), (4, .istore 4, 6, [], 0), (6, .iload 4, 8, [], 0), (8, .aload_n 0, 9, [], 0), (9, .getfield 26, 12, [3, 4], 0), (12, .if_icmp .ge 43, 15, [55], 0), (15, .aload_n 0, 16, [], 0), (16, .getfield 11, 19, [3, 0], 0), (19, .iload 4, 21, [], 0), (21, .iaload, 22, [], 0), (22, .iload_n 2, 23, [], 0), (23, .if_icmp .gt 26, 26, [49], 0), (26, .aload_n 0, 27, [], 0), (27, .getfield 15, 30, [3, 1], 0), (30, .iload 4, 32, [], 0), (32, .iaload, 33, [], 0), (33, .iload_n 1, 34, [], 0), (34, .if_icmp .lt 15, 37, [49], 0), (37, .iload_n 3, 38, [], 0), (38, .aload_n 0, 39, [], 0), (39, .getfield 18, 42, [3, 2], 0), (42, .iload 4, 44, [], 0), (44, .iaload, 45, [], 0), (45, .invokestatic 34, 48, [0], 0), (48, .istore_n 3, 49, [], 0), (49, .iinc 4 1, 52, [], 1), (52, .goto (-46), 55, [6], 0), (55, .iload_n 3, 56, [], 0), (56, .ireturn, 57, [0], 0)]
theorem ok_X3_greatest : ∀ q ∈ L_X3_greatest, rok cX3_greatest 5 0 q = true := by decide +kernel
theorem fk_X3_greatest : ∀ q ∈ L_X3_greatest, fck FT_X3 PT_X3 KT_X3 q = true := by decide +kernel
noncomputable def cs_X3_greatest : List CT := [(true, 34, 2, 1, 0, sem_max)]
noncomputable def b_X3_greatest_6 : Nat → BT
  | 0 => fun _ _ _ => none
  | n + 1 => fun lv st S => brn xT cs_X3_greatest L_X3_greatest [6] (dsp [(6, [0, 1, 2, 3, 4], b_X3_greatest_6 n)]) 33 [] 6 lv st S
theorem s_X3_greatest_6 (M : xM p l e R s m args below meth c cells slots Q D xT g cI cZ A 5 cX3_greatest RX3 0 cs_X3_greatest L_X3_greatest R0) : ∀ n lv st S, b_X3_greatest_6 n lv st S = some R0 → xG p l e R s m args below meth c cells slots Q D xT g cI cZ A 5 6 lv st S := by
  intro n
  induction n with
  | zero => intro lv st S h; cases h
  | succ n ih => intro lv st S h; exact xa_blk M (List.forall_mem_cons.mpr ⟨fun lv st S h => (ih) lv st S h, fun _ q => absurd q List.not_mem_nil⟩) h
noncomputable def m_X3_greatest : MT := fun As S => brn xT cs_X3_greatest L_X3_greatest [6] (dsp [(6, [0, 1, 2, 3, 4], b_X3_greatest_6 fu)]) 33 [] 0 (zipN 0 As) [] S
theorem s_X3_greatest (M : xM p l e R s m args below meth c cells slots Q D xT g cI cZ A 5 cX3_greatest RX3 0 cs_X3_greatest L_X3_greatest R0) {As : List AV} {S : XS} (h : m_X3_greatest As S = some R0) : xG p l e R s m args below meth c cells slots Q D xT g cI cZ A 5 0 (zipN 0 As) [] S := xa_blk M (List.forall_mem_cons.mpr ⟨fun lv st S h => (s_X3_greatest_6 M fu) lv st S h, fun _ q => absurd q List.not_mem_nil⟩) h
set_option maxRecDepth 20000 in
theorem c_X3_greatest {l : Launch} {D : va_G} {g : Nat → Nat} {cI cZ : ClassId} {A : Nat → Prop} (hD : ∀ S, va_D A (ww xT g cI cZ S)) : xMet l D xT g cI cZ A yX3_greatest (wm yX3_greatest cX3_greatest 5 0) { frames := 1, cells := 0, slots := 0, locals := 21 } 3 m_X3_greatest :=
  xa_met (ft := FT_X3) (pt := PT_X3) (kt := KT_X3) (cs := cs_X3_greatest) (L := L_X3_greatest) hD (by decide) (by decide) ok_X3_greatest fk_X3_greatest fa_X3 (fun p e s m args below meth c Q R0 C0 hts hN => all_get (List.forall_mem_cons.mpr ⟨xcf_max C0 (hts _ (List.mem_cons_of_mem _ km_X3_34)) (hts _ (List.mem_cons_of_mem _ km_s)) (hts _ (List.mem_cons_of_mem _ km_n)) (hts _ (List.mem_cons_of_mem _ km_c)) ⟨by decide, by decide⟩ ⟨Nat.zero_le _, Nat.zero_le _⟩, fun _ q => absurd q List.not_mem_nil⟩)) (fun p e s m args below meth c Q R0 As S M h => s_X3_greatest M h)
def L_X3_reachOut : List CE := [(0, .aload_n 0, 1, [], 0), (1, .aload_n 0, 2, [], 0), (2, .getfield 30, 5, [3, 5], 0), (5, .iload_n 1, 6, [], 0), (6, .invokestatic 34, 9, [0], 0), (9, .putfield 30, 12, [3, 5, 0], 0), (12, .return_, 13, [], 0)]
theorem ok_X3_reachOut : ∀ q ∈ L_X3_reachOut, rok cX3_reachOut 2 2 q = true := by decide +kernel
theorem fk_X3_reachOut : ∀ q ∈ L_X3_reachOut, fck FT_X3 PT_X3 KT_X3 q = true := by decide +kernel
noncomputable def cs_X3_reachOut : List CT := [(true, 34, 2, 1, 0, sem_max)]
noncomputable def m_X3_reachOut : MT := fun As S => brn xT cs_X3_reachOut L_X3_reachOut [] (dsp []) 9 [] 0 (zipN 0 As) [] S
theorem s_X3_reachOut (M : xM p l e R s m args below meth c cells slots Q D xT g cI cZ A 2 cX3_reachOut RX3 2 cs_X3_reachOut L_X3_reachOut R0) {As : List AV} {S : XS} (h : m_X3_reachOut As S = some R0) : xG p l e R s m args below meth c cells slots Q D xT g cI cZ A 2 0 (zipN 0 As) [] S := xa_blk M (fun _ q => absurd q List.not_mem_nil) h
set_option maxRecDepth 20000 in
theorem c_X3_reachOut {l : Launch} {D : va_G} {g : Nat → Nat} {cI cZ : ClassId} {A : Nat → Prop} (hD : ∀ S, va_D A (ww xT g cI cZ S)) : xMet l D xT g cI cZ A yX3_reachOut (wm yX3_reachOut cX3_reachOut 2 2) { frames := 1, cells := 0, slots := 0, locals := 21 } 2 m_X3_reachOut :=
  xa_met (ft := FT_X3) (pt := PT_X3) (kt := KT_X3) (cs := cs_X3_reachOut) (L := L_X3_reachOut) hD (by decide) (by decide) ok_X3_reachOut fk_X3_reachOut fa_X3 (fun p e s m args below meth c Q R0 C0 hts hN => all_get (List.forall_mem_cons.mpr ⟨xcf_max C0 (hts _ (List.mem_cons_of_mem _ km_X3_34)) (hts _ (List.mem_cons_of_mem _ km_s)) (hts _ (List.mem_cons_of_mem _ km_n)) (hts _ (List.mem_cons_of_mem _ km_c)) ⟨by decide, by decide⟩ ⟨Nat.zero_le _, Nat.zero_le _⟩, fun _ q => absurd q List.not_mem_nil⟩)) (fun p e s m args below meth c Q R0 As S M h => s_X3_reachOut M h)
def L_X4_has : List CE := [(0, .iload_n 1, 1, [], 0), (1, .ifCond .lt 15, 4, [16], 0), (4, .iload_n 1, 5, [], 0), (5, .aload_n 0, 6, [], 0), (6, .getfield 30, 9, [4, 6], 0), (9, .if_icmp .ge 7, 12, [16], 0), (12, .iconst 1, 13, [], 1), (13, .goto 4, 16, [17], 0), (16, .iconst 0, 17, [], 0), (17, .ireturn, 18, [1], 0)]
theorem ok_X4_has : ∀ q ∈ L_X4_has, rok cX4_has 2 1 q = true := by decide +kernel
theorem fk_X4_has : ∀ q ∈ L_X4_has, fck FT_X4 PT_X4 KT_X4 q = true := by decide +kernel
noncomputable def cs_X4_has : List CT := []
noncomputable def m_X4_has : MT := fun As S => brn xT cs_X4_has L_X4_has [] (dsp []) 12 [] 0 (zipN 0 As) [] S
theorem s_X4_has (M : xM p l e R s m args below meth c cells slots Q D xT g cI cZ A 2 cX4_has RX4 1 cs_X4_has L_X4_has R0) {As : List AV} {S : XS} (h : m_X4_has As S = some R0) : xG p l e R s m args below meth c cells slots Q D xT g cI cZ A 2 0 (zipN 0 As) [] S := xa_blk M (fun _ q => absurd q List.not_mem_nil) h
set_option maxRecDepth 20000 in
theorem c_X4_has {l : Launch} {D : va_G} {g : Nat → Nat} {cI cZ : ClassId} {A : Nat → Prop} (hD : ∀ S, va_D A (ww xT g cI cZ S)) : xMet l D xT g cI cZ A yX4_has (wm yX4_has cX4_has 2 1) { frames := 0, cells := 0, slots := 0, locals := 0 } 2 m_X4_has :=
  xa_met (ft := FT_X4) (pt := PT_X4) (kt := KT_X4) (cs := cs_X4_has) (L := L_X4_has) hD (by decide) (by decide) ok_X4_has fk_X4_has fa_X4 (fun p e s m args below meth c Q R0 C0 hts hN => all_get (fun _ q => absurd q List.not_mem_nil)) (fun p e s m args below meth c Q R0 As S M h => s_X4_has M h)
def L_X4_add : List CE := [(0, .aload_n 0, 1, [], 0), (1, .getfield 30, 4, [4, 6], 0), (4, .istore 5, 6, [], 0), (6, .aload_n 0, 7, [], 0), (7, .getfield 9, 10, [4, 0], 0), (10, .iload 5, 12, [], 0), (12, .iload_n 1, 13, [], 0), (13, .iastore, 14, [], 0), (14, .aload_n 0, 15, [], 0), (15, .getfield 15, 18, [4, 1], 0), (18, .iload 5, 20, [], 0), (20, .iload_n 2, 21, [], 0), (21, .iastore, 22, [], 0), (22, .aload_n 0, 23, [], 0), (23, .getfield 18, 26, [4, 2], 0), (26, .iload 5, 28, [], 0), (28, .iload_n 3, 29, [], 0), (29, .iastore, 30, [], 0), (30, .aload_n 0, 31, [], 0), (31, .getfield 21, 34, [4, 3], 0), (34, .iload 5, 36, [], 0), (36, .iload 4, 38, [], 0), (38, .iastore, 39, [], 0), (39, .aload_n 0, 40, [], 0), (40, .dup, 41, [], 0), (41, .getfield 30, 44, [4, 6], 0), (44, .iconst 1, 45, [], 1), (45, .iadd, 46, [], 0), (46, .putfield 30, 49, [4, 6, 0], 0), (49, .iload 5, 51, [], 0), (51, .ireturn, 52, [0], 0)]
theorem ok_X4_add : ∀ q ∈ L_X4_add, rok cX4_add 6 0 q = true := by decide +kernel
theorem fk_X4_add : ∀ q ∈ L_X4_add, fck FT_X4 PT_X4 KT_X4 q = true := by decide +kernel
noncomputable def cs_X4_add : List CT := []
noncomputable def m_X4_add : MT := fun As S => brn xT cs_X4_add L_X4_add [] (dsp []) 33 [] 0 (zipN 0 As) [] S
theorem s_X4_add (M : xM p l e R s m args below meth c cells slots Q D xT g cI cZ A 6 cX4_add RX4 0 cs_X4_add L_X4_add R0) {As : List AV} {S : XS} (h : m_X4_add As S = some R0) : xG p l e R s m args below meth c cells slots Q D xT g cI cZ A 6 0 (zipN 0 As) [] S := xa_blk M (fun _ q => absurd q List.not_mem_nil) h
set_option maxRecDepth 20000 in
theorem c_X4_add {l : Launch} {D : va_G} {g : Nat → Nat} {cI cZ : ClassId} {A : Nat → Prop} (hD : ∀ S, va_D A (ww xT g cI cZ S)) : xMet l D xT g cI cZ A yX4_add (wm yX4_add cX4_add 6 0) { frames := 0, cells := 0, slots := 0, locals := 0 } 5 m_X4_add :=
  xa_met (ft := FT_X4) (pt := PT_X4) (kt := KT_X4) (cs := cs_X4_add) (L := L_X4_add) hD (by decide) (by decide) ok_X4_add fk_X4_add fa_X4 (fun p e s m args below meth c Q R0 C0 hts hN => all_get (fun _ q => absurd q List.not_mem_nil)) (fun p e s m args below meth c Q R0 As S M h => s_X4_add M h)
end
end
section
set_option maxRecDepth 100000 in
theorem u_X0_has (S : XS) (a1 : Int32) : m_X0_has [.inr 1, .inl a1] S = (if a1 < 0 then (some (S, some (some (.inl 0)))) else (if S 1 6 ≤ a1 then (some (S, some (some (.inl 0)))) else (some (S, some (some (.inl 1)))))) := rfl
set_option maxRecDepth 100000 in
theorem v_X0_isAt (f2 : BT) (S : XS) (a1 : Int32) : brn xT cs_X0_isAt L_X0_isAt [2] (dsp [(2, [0, 1, 2], f2)]) 20 [] 0 [(0, .inr 1), (1, .inl a1)] [] S = (f2 [(0, .inr 1), (1, .inl a1), (2, .inl 0)] [] S) := rfl
theorem u_X0_isAt (S : XS) (a1 : Int32) : m_X0_isAt [.inr 1, .inl a1] S = (b_X0_isAt_2 fu [(0, .inr 1), (1, .inl a1), (2, .inl 0)] [] S) := v_X0_isAt _ S a1
set_option maxRecDepth 100000 in
theorem v_X0_isAt_2 (f2 : BT) (S : XS) (a1 a2 : Int32) : brn xT cs_X0_isAt L_X0_isAt [2] (dsp [(2, [0, 1, 2], f2)]) 20 [] 2 [(0, .inr 1), (1, .inl a1), (2, .inl a2)] [] S = (if S 1 6 ≤ a2 then (some (S, some (some (.inl 0)))) else (gA a2 40 (if S 7 a2.toNatClampNeg = a1 then (some (S, some (some (.inl 1)))) else (f2 [(0, .inr 1), (1, .inl a1), (2, .inl (a2 + 1))] [] S)))) := rfl
theorem u_X0_isAt_2 (n : Nat) (S : XS) (a1 a2 : Int32) : b_X0_isAt_2 (n + 1) [(0, .inr 1), (1, .inl a1), (2, .inl a2)] [] S = (if S 1 6 ≤ a2 then (some (S, some (some (.inl 0)))) else (gA a2 40 (if S 7 a2.toNatClampNeg = a1 then (some (S, some (some (.inl 1)))) else (b_X0_isAt_2 n [(0, .inr 1), (1, .inl a1), (2, .inl (a2 + 1))] [] S)))) := v_X0_isAt_2 _ S a1 a2
set_option maxRecDepth 100000 in
theorem u_X0_add (S : XS) (a1 a2 a3 a4 a5 a6 : Int32) : m_X0_add [.inr 1, .inl a1, .inl a2, .inl a3, .inl a4, .inl a5, .inl a6] S = (gA (S 1 6) 40 (gA (S 1 6) 40 (gA (S 1 6) 40 (gA (S 1 6) 40 (gA (S 1 6) 40 (gA (S 1 6) 40 (some (up2 (up2 (up2 (up2 (up2 (up2 (up2 S 7 (S 1 6).toNatClampNeg a1) 8 (S 1 6).toNatClampNeg a2) 9 (S 1 6).toNatClampNeg a3) 10 (S 1 6).toNatClampNeg a4) 11 (S 1 6).toNatClampNeg a5) 12 (S 1 6).toNatClampNeg a6) 1 6 (((up2 (up2 (up2 (up2 (up2 (up2 S 7 (S 1 6).toNatClampNeg a1) 8 (S 1 6).toNatClampNeg a2) 9 (S 1 6).toNatClampNeg a3) 10 (S 1 6).toNatClampNeg a4) 11 (S 1 6).toNatClampNeg a5) 12 (S 1 6).toNatClampNeg a6) 1 6) + 1), some (some (.inl (S 1 6))))))))))) := rfl
set_option maxRecDepth 100000 in
theorem v_X0_next (f4 : BT) (S : XS) (a1 : Int32) : brn xT cs_X0_next L_X0_next [4] (dsp [(4, [0, 1, 2, 3], f4)]) 36 [] 0 [(0, .inr 1), (1, .inl a1)] [] S = (f4 [(0, .inr 1), (1, .inl a1), (2, .inl (-1)), (3, .inl 0)] [] S) := rfl
theorem u_X0_next (S : XS) (a1 : Int32) : m_X0_next [.inr 1, .inl a1] S = (b_X0_next_4 fu [(0, .inr 1), (1, .inl a1), (2, .inl (-1)), (3, .inl 0)] [] S) := v_X0_next _ S a1
set_option maxRecDepth 100000 in
theorem v_X0_next_4 (f4 : BT) (S : XS) (a1 a2 a3 : Int32) : brn xT cs_X0_next L_X0_next [4] (dsp [(4, [0, 1, 2, 3], f4)]) 36 [] 4 [(0, .inr 1), (1, .inl a1), (2, .inl a2), (3, .inl a3)] [] S = (if S 1 6 ≤ a3 then (some (S, some (some (.inl a2)))) else (gA a3 40 (gA a1 40 (if S 7 a3.toNatClampNeg ≤ S 7 a1.toNatClampNeg then (f4 [(0, .inr 1), (1, .inl a1), (2, .inl a2), (3, .inl (a3 + 1))] [] S) else (if a2 < 0 then (f4 [(0, .inr 1), (1, .inl a1), (2, .inl a3), (3, .inl (a3 + 1))] [] S) else (gA a3 40 (gA a2 40 (if S 7 a2.toNatClampNeg ≤ S 7 a3.toNatClampNeg then (f4 [(0, .inr 1), (1, .inl a1), (2, .inl a2), (3, .inl (a3 + 1))] [] S) else (f4 [(0, .inr 1), (1, .inl a1), (2, .inl a3), (3, .inl (a3 + 1))] [] S))))))))) := rfl
theorem u_X0_next_4 (n : Nat) (S : XS) (a1 a2 a3 : Int32) : b_X0_next_4 (n + 1) [(0, .inr 1), (1, .inl a1), (2, .inl a2), (3, .inl a3)] [] S = (if S 1 6 ≤ a3 then (some (S, some (some (.inl a2)))) else (gA a3 40 (gA a1 40 (if S 7 a3.toNatClampNeg ≤ S 7 a1.toNatClampNeg then (b_X0_next_4 n [(0, .inr 1), (1, .inl a1), (2, .inl a2), (3, .inl (a3 + 1))] [] S) else (if a2 < 0 then (b_X0_next_4 n [(0, .inr 1), (1, .inl a1), (2, .inl a3), (3, .inl (a3 + 1))] [] S) else (gA a3 40 (gA a2 40 (if S 7 a2.toNatClampNeg ≤ S 7 a3.toNatClampNeg then (b_X0_next_4 n [(0, .inr 1), (1, .inl a1), (2, .inl a2), (3, .inl (a3 + 1))] [] S) else (b_X0_next_4 n [(0, .inr 1), (1, .inl a1), (2, .inl a3), (3, .inl (a3 + 1))] [] S))))))))) := v_X0_next_4 _ S a1 a2 a3
set_option maxRecDepth 100000 in
theorem v_X0_greatestX (f4 : BT) (S : XS) : brn xT cs_X0_greatestX L_X0_greatestX [4] (dsp [(4, [0, 1, 2], f4)]) 21 [] 0 [(0, .inr 1)] [] S = (f4 [(0, .inr 1), (1, .inl 0), (2, .inl 0)] [] S) := rfl
theorem u_X0_greatestX (S : XS) : m_X0_greatestX [.inr 1] S = (b_X0_greatestX_4 fu [(0, .inr 1), (1, .inl 0), (2, .inl 0)] [] S) := v_X0_greatestX _ S
set_option maxRecDepth 100000 in
theorem v_X0_greatestX_4 (f4 : BT) (S : XS) (a1 a2 : Int32) : brn xT cs_X0_greatestX L_X0_greatestX [4] (dsp [(4, [0, 1, 2], f4)]) 21 [] 4 [(0, .inr 1), (1, .inl a1), (2, .inl a2)] [] S = (if S 1 6 ≤ a2 then (some (S, some (some (.inl a1)))) else (gA a2 40 (f4 [(0, .inr 1), (1, .inl (if a1 < S 7 a2.toNatClampNeg then S 7 a2.toNatClampNeg else a1)), (2, .inl (a2 + 1))] [] S))) := rfl
theorem u_X0_greatestX_4 (n : Nat) (S : XS) (a1 a2 : Int32) : b_X0_greatestX_4 (n + 1) [(0, .inr 1), (1, .inl a1), (2, .inl a2)] [] S = (if S 1 6 ≤ a2 then (some (S, some (some (.inl a1)))) else (gA a2 40 (b_X0_greatestX_4 n [(0, .inr 1), (1, .inl (if a1 < S 7 a2.toNatClampNeg then S 7 a2.toNatClampNeg else a1)), (2, .inl (a2 + 1))] [] S))) := v_X0_greatestX_4 _ S a1 a2
set_option maxRecDepth 100000 in
theorem v_X0_moveBehind (f2 : BT) (S : XS) (a1 a2 : Int32) : brn xT cs_X0_moveBehind L_X0_moveBehind [2] (dsp [(2, [0, 1, 2, 3], f2)]) 25 [] 0 [(0, .inr 1), (1, .inl a1), (2, .inl a2)] [] S = (f2 [(0, .inr 1), (1, .inl a1), (2, .inl a2), (3, .inl 0)] [] S) := rfl
theorem u_X0_moveBehind (S : XS) (a1 a2 : Int32) : m_X0_moveBehind [.inr 1, .inl a1, .inl a2] S = (b_X0_moveBehind_2 fu [(0, .inr 1), (1, .inl a1), (2, .inl a2), (3, .inl 0)] [] S) := v_X0_moveBehind _ S a1 a2
set_option maxRecDepth 100000 in
theorem v_X0_moveBehind_2 (f2 : BT) (S : XS) (a1 a2 a3 : Int32) : brn xT cs_X0_moveBehind L_X0_moveBehind [2] (dsp [(2, [0, 1, 2, 3], f2)]) 25 [] 2 [(0, .inr 1), (1, .inl a1), (2, .inl a2), (3, .inl a3)] [] S = (if S 1 6 ≤ a3 then (some (S, some none)) else (gA a3 40 (if S 7 a3.toNatClampNeg ≤ a1 then (f2 [(0, .inr 1), (1, .inl a1), (2, .inl a2), (3, .inl (a3 + 1))] [] S) else (gA a3 40 (gA a3 40 (f2 [(0, .inr 1), (1, .inl a1), (2, .inl a2), (3, .inl (a3 + 1))] [] (up2 S 7 a3.toNatClampNeg ((S 7 a3.toNatClampNeg) + a2)))))))) := rfl
theorem u_X0_moveBehind_2 (n : Nat) (S : XS) (a1 a2 a3 : Int32) : b_X0_moveBehind_2 (n + 1) [(0, .inr 1), (1, .inl a1), (2, .inl a2), (3, .inl a3)] [] S = (if S 1 6 ≤ a3 then (some (S, some none)) else (gA a3 40 (if S 7 a3.toNatClampNeg ≤ a1 then (b_X0_moveBehind_2 n [(0, .inr 1), (1, .inl a1), (2, .inl a2), (3, .inl (a3 + 1))] [] S) else (gA a3 40 (gA a3 40 (b_X0_moveBehind_2 n [(0, .inr 1), (1, .inl a1), (2, .inl a2), (3, .inl (a3 + 1))] [] (up2 S 7 a3.toNatClampNeg ((S 7 a3.toNatClampNeg) + a2)))))))) := v_X0_moveBehind_2 _ S a1 a2 a3
set_option maxRecDepth 100000 in
theorem v_X0_haveBothVoices (f4 : BT) (S : XS) : brn xT cs_X0_haveBothVoices L_X0_haveBothVoices [4] (dsp [(4, [0, 1, 2], f4)]) 29 [] 0 [(0, .inr 1)] [] S = (f4 [(0, .inr 1), (1, .inl 0), (2, .inl 0)] [] S) := rfl
theorem u_X0_haveBothVoices (S : XS) : m_X0_haveBothVoices [.inr 1] S = (b_X0_haveBothVoices_4 fu [(0, .inr 1), (1, .inl 0), (2, .inl 0)] [] S) := v_X0_haveBothVoices _ S
set_option maxRecDepth 100000 in
theorem v_X0_haveBothVoices_4 (f4 : BT) (S : XS) (a1 a2 : Int32) : brn xT cs_X0_haveBothVoices L_X0_haveBothVoices [4] (dsp [(4, [0, 1, 2], f4)]) 29 [] 4 [(0, .inr 1), (1, .inl a1), (2, .inl a2)] [] S = (if S 1 6 ≤ a2 then (if a1 ≤ 0 then (some (S, some (some (.inl 0)))) else (if S 1 6 ≤ a1 then (some (S, some (some (.inl 0)))) else (some (S, some (some (.inl 1)))))) else (gA a2 40 (f4 [(0, .inr 1), (1, .inl (a1 + (S 10 a2.toNatClampNeg))), (2, .inl (a2 + 1))] [] S))) := rfl
theorem u_X0_haveBothVoices_4 (n : Nat) (S : XS) (a1 a2 : Int32) : b_X0_haveBothVoices_4 (n + 1) [(0, .inr 1), (1, .inl a1), (2, .inl a2)] [] S = (if S 1 6 ≤ a2 then (if a1 ≤ 0 then (some (S, some (some (.inl 0)))) else (if S 1 6 ≤ a1 then (some (S, some (some (.inl 0)))) else (some (S, some (some (.inl 1)))))) else (gA a2 40 (b_X0_haveBothVoices_4 n [(0, .inr 1), (1, .inl (a1 + (S 10 a2.toNatClampNeg))), (2, .inl (a2 + 1))] [] S))) := v_X0_haveBothVoices_4 _ S a1 a2
set_option maxRecDepth 100000 in
theorem u_X1_has (S : XS) (a1 : Int32) : m_X1_has [.inr 2, .inl a1] S = (if a1 < 0 then (some (S, some (some (.inl 0)))) else (if 10 ≤ a1 then (some (S, some (some (.inl 0)))) else (some (S, some (some (.inl 1)))))) := rfl
set_option maxRecDepth 100000 in
theorem u_X1_takes (S : XS) (a1 a2 : Int32) : m_X1_takes [.inr 2, .inl a1, .inl a2] S = (if a1 < 0 then (some (S, some (some (.inl 0)))) else (if 6 ≤ a1 then (some (S, some (some (.inl 0)))) else (if a2 < 0 then (some (S, some (some (.inl 0)))) else (gA a1 6 (if mostf a1.toNatClampNeg < a2 then (some (S, some (some (.inl 0)))) else (some (S, some (some (.inl 1))))))))) := rfl
set_option maxRecDepth 100000 in
theorem u_X1_get (S : XS) (a1 a2 : Int32) : m_X1_get [.inr 2, .inl a1, .inl a2] S = (gA ((a1 * 6) + a2) 60 (some (S, some (some (.inl (S 13 ((a1 * 6) + a2).toNatClampNeg)))))) := rfl
set_option maxRecDepth 100000 in
theorem u_X1_change (S : XS) (a1 a2 a3 : Int32) : m_X1_change [.inr 2, .inl a1, .inl a2, .inl a3] S = (cli (m_X1_get [.inr 2, .inl a1, .inl a2] S) (fun S1 r1 => gA ((a1 * 6) + a2) 60 (some (up2 S1 13 ((a1 * 6) + a2).toNatClampNeg a3, some (some (.inl r1)))))) := rfl
set_option maxRecDepth 100000 in
theorem u_X1_liesFromX (S : XS) (a1 : Int32) : m_X1_liesFromX [.inr 2, .inl a1] S = (cli (m_X1_get [.inr 2, .inl a1, .inl 2] S) (fun S1 r1 => if r1 = 1 then (some (S1, some (some (.inl 1)))) else (some (S1, some (some (.inl 0)))))) := rfl
set_option maxRecDepth 100000 in
theorem u_X1_isInRow (S : XS) (a1 : Int32) : m_X1_isInRow [.inr 2, .inl a1] S = (cli (m_X1_get [.inr 2, .inl a1, .inl 4] S) (fun S1 r1 => if r1 = 1 then (some (S1, some (some (.inl 1)))) else (some (S1, some (some (.inl 0)))))) := rfl
set_option maxRecDepth 100000 in
theorem u_X1_rank (S : XS) (a1 : Int32) : m_X1_rank [.inr 2, .inl a1] S = (cli (m_X1_get [.inr 2, .inl a1, .inl 5] S) (fun S1 r1 => gA 0 6 (cli (m_X1_get [.inr 2, .inl a1, .inl 0] S1) (fun S2 r2 => some (S2, some (some (.inl ((r1 * ((mostf (0 : Int32).toNatClampNeg) + 1)) + r2)))))))) := rfl
set_option maxRecDepth 100000 in
theorem u_X2_has (S : XS) (a1 : Int32) : m_X2_has [.inr 3, .inl a1] S = (if a1 < 0 then (some (S, some (some (.inl 0)))) else (if S 3 11 ≤ a1 then (some (S, some (some (.inl 0)))) else (gA a1 80 (if S 18 a1.toNatClampNeg = 0 then (some (S, some (some (.inl 1)))) else (some (S, some (some (.inl 0)))))))) := rfl
set_option maxRecDepth 100000 in
theorem u_X2_add (S : XS) (a1 a2 a3 a4 : Int32) : m_X2_add [.inr 3, .inl a1, .inl a2, .inl a3, .inl a4] S = (gA (S 3 11) 80 (gA (S 3 11) 80 (gA (S 3 11) 80 (gA (S 3 11) 80 (some (up2 (up2 (up2 (up2 (up2 S 14 (S 3 11).toNatClampNeg a1) 15 (S 3 11).toNatClampNeg a2) 16 (S 3 11).toNatClampNeg a3) 17 (S 3 11).toNatClampNeg a4) 3 11 (((up2 (up2 (up2 (up2 S 14 (S 3 11).toNatClampNeg a1) 15 (S 3 11).toNatClampNeg a2) 16 (S 3 11).toNatClampNeg a3) 17 (S 3 11).toNatClampNeg a4) 3 11) + 1), some (some (.inl (S 3 11))))))))) := rfl
set_option maxRecDepth 100000 in
theorem v_X2_countThere (f4 : BT) (S : XS) : brn xT cs_X2_countThere L_X2_countThere [4] (dsp [(4, [0, 1, 2], f4)]) 25 [] 0 [(0, .inr 3)] [] S = (f4 [(0, .inr 3), (1, .inl 0), (2, .inl 0)] [] S) := rfl
theorem u_X2_countThere (S : XS) : m_X2_countThere [.inr 3] S = (b_X2_countThere_4 fu [(0, .inr 3), (1, .inl 0), (2, .inl 0)] [] S) := v_X2_countThere _ S
set_option maxRecDepth 100000 in
theorem v_X2_countThere_4 (f4 : BT) (S : XS) (a1 a2 : Int32) : brn xT cs_X2_countThere L_X2_countThere [4] (dsp [(4, [0, 1, 2], f4)]) 25 [] 4 [(0, .inr 3), (1, .inl a1), (2, .inl a2)] [] S = (if S 3 11 ≤ a2 then (some (S, some (some (.inl a1)))) else (gA a2 80 (if S 18 a2.toNatClampNeg = 0 then (f4 [(0, .inr 3), (1, .inl (a1 + 1)), (2, .inl (a2 + 1))] [] S) else (f4 [(0, .inr 3), (1, .inl (a1 + 0)), (2, .inl (a2 + 1))] [] S)))) := rfl
theorem u_X2_countThere_4 (n : Nat) (S : XS) (a1 a2 : Int32) : b_X2_countThere_4 (n + 1) [(0, .inr 3), (1, .inl a1), (2, .inl a2)] [] S = (if S 3 11 ≤ a2 then (some (S, some (some (.inl a1)))) else (gA a2 80 (if S 18 a2.toNatClampNeg = 0 then (b_X2_countThere_4 n [(0, .inr 3), (1, .inl (a1 + 1)), (2, .inl (a2 + 1))] [] S) else (b_X2_countThere_4 n [(0, .inr 3), (1, .inl (a1 + 0)), (2, .inl (a2 + 1))] [] S)))) := v_X2_countThere_4 _ S a1 a2
set_option maxRecDepth 100000 in
theorem v_X2_countAt (f4 : BT) (S : XS) (a1 : Int32) : brn xT cs_X2_countAt L_X2_countAt [4] (dsp [(4, [0, 1, 2, 3], f4)]) 31 [] 0 [(0, .inr 3), (1, .inl a1)] [] S = (f4 [(0, .inr 3), (1, .inl a1), (2, .inl 0), (3, .inl 0)] [] S) := rfl
theorem u_X2_countAt (S : XS) (a1 : Int32) : m_X2_countAt [.inr 3, .inl a1] S = (b_X2_countAt_4 fu [(0, .inr 3), (1, .inl a1), (2, .inl 0), (3, .inl 0)] [] S) := v_X2_countAt _ S a1
set_option maxRecDepth 100000 in
theorem v_X2_countAt_4 (f4 : BT) (S : XS) (a1 a2 a3 : Int32) : brn xT cs_X2_countAt L_X2_countAt [4] (dsp [(4, [0, 1, 2, 3], f4)]) 31 [] 4 [(0, .inr 3), (1, .inl a1), (2, .inl a2), (3, .inl a3)] [] S = (if S 3 11 ≤ a3 then (some (S, some (some (.inl a2)))) else (gA a3 80 (if S 18 a3.toNatClampNeg = 0 then (gA a3 80 (if S 14 a3.toNatClampNeg = a1 then (f4 [(0, .inr 3), (1, .inl a1), (2, .inl (a2 + 1)), (3, .inl (a3 + 1))] [] S) else (f4 [(0, .inr 3), (1, .inl a1), (2, .inl (a2 + 0)), (3, .inl (a3 + 1))] [] S))) else (f4 [(0, .inr 3), (1, .inl a1), (2, .inl (a2 + 0)), (3, .inl (a3 + 1))] [] S)))) := rfl
theorem u_X2_countAt_4 (n : Nat) (S : XS) (a1 a2 a3 : Int32) : b_X2_countAt_4 (n + 1) [(0, .inr 3), (1, .inl a1), (2, .inl a2), (3, .inl a3)] [] S = (if S 3 11 ≤ a3 then (some (S, some (some (.inl a2)))) else (gA a3 80 (if S 18 a3.toNatClampNeg = 0 then (gA a3 80 (if S 14 a3.toNatClampNeg = a1 then (b_X2_countAt_4 n [(0, .inr 3), (1, .inl a1), (2, .inl (a2 + 1)), (3, .inl (a3 + 1))] [] S) else (b_X2_countAt_4 n [(0, .inr 3), (1, .inl a1), (2, .inl (a2 + 0)), (3, .inl (a3 + 1))] [] S))) else (b_X2_countAt_4 n [(0, .inr 3), (1, .inl a1), (2, .inl (a2 + 0)), (3, .inl (a3 + 1))] [] S)))) := v_X2_countAt_4 _ S a1 a2 a3
set_option maxRecDepth 100000 in
theorem u_X2_isOn (S : XS) (a1 a2 a3 : Int32) : m_X2_isOn [.inr 3, .inl a1, .inl a2, .inl a3] S = (gA a1 80 (if S 18 a1.toNatClampNeg = 0 then (gA a1 80 (if S 14 a1.toNatClampNeg = a2 then (gA a1 80 (if S 20 a1.toNatClampNeg = a3 then (some (S, some (some (.inl 1)))) else (some (S, some (some (.inl 0)))))) else (some (S, some (some (.inl 0)))))) else (some (S, some (some (.inl 0)))))) := rfl
set_option maxRecDepth 100000 in
theorem u_X2_isOf (S : XS) (a1 a2 a3 : Int32) : m_X2_isOf [.inr 3, .inl a1, .inl a2, .inl a3] S = (gA a1 80 (if S 15 a1.toNatClampNeg = a2 then (gA a1 80 (if S 20 a1.toNatClampNeg = a3 then (some (S, some (some (.inl 1)))) else (some (S, some (some (.inl 0)))))) else (some (S, some (some (.inl 0)))))) := rfl
set_option maxRecDepth 100000 in
theorem u_X2_behind (S : XS) (a1 : Int32) : m_X2_behind [.inr 3, .inl a1] S = (gA a1 80 (gA a1 80 (some (S, some (some (.inl ((S 19 a1.toNatClampNeg) + (S 16 a1.toNatClampNeg)))))))) := rfl
set_option maxRecDepth 100000 in
theorem u_X2_shareX (S : XS) (a1 a2 : Int32) : m_X2_shareX [.inr 3, .inl a1, .inl a2] S = (gA a1 80 (cli (m_X2_behind [.inr 3, .inl a2] S) (fun S1 r1 => if r1 ≤ S 19 a1.toNatClampNeg then (some (S1, some (some (.inl 0)))) else (gA a2 80 (cli (m_X2_behind [.inr 3, .inl a1] S1) (fun S2 r2 => if r2 ≤ S1 19 a2.toNatClampNeg then (some (S2, some (some (.inl 0)))) else (some (S2, some (some (.inl 1)))))))))) := rfl
set_option maxRecDepth 100000 in
theorem v_X2_countNearer (f4 : BT) (S : XS) (a1 : Int32) : brn xT cs_X2_countNearer L_X2_countNearer [4, 52] (dsp [(4, [0, 1, 2, 3], f4)]) 59 [] 0 [(0, .inr 3), (1, .inl a1)] [] S = (f4 [(0, .inr 3), (1, .inl a1), (2, .inl 0), (3, .inl 0)] [] S) := rfl
theorem u_X2_countNearer (S : XS) (a1 : Int32) : m_X2_countNearer [.inr 3, .inl a1] S = (b_X2_countNearer_4 fu [(0, .inr 3), (1, .inl a1), (2, .inl 0), (3, .inl 0)] [] S) := v_X2_countNearer _ S a1
set_option maxRecDepth 100000 in
theorem v_X2_countNearer_4 (f52 : BT) (S : XS) (a1 a2 a3 : Int32) : brn xT cs_X2_countNearer L_X2_countNearer [4, 52] (dsp [(52, [0, 1, 2, 3], f52)]) 59 [] 4 [(0, .inr 3), (1, .inl a1), (2, .inl a2), (3, .inl a3)] [] S = (if S 3 11 ≤ a3 then (some (S, some (some (.inl a2)))) else (gA a3 80 (gA a1 80 (if S 21 a3.toNatClampNeg < S 21 a1.toNatClampNeg then (f52 [(0, .inr 3), (1, .inl a1), (2, .inl a2), (3, .inl a3)] [.inl 1] S) else (gA a3 80 (gA a1 80 (if S 21 a3.toNatClampNeg = S 21 a1.toNatClampNeg then (if a1 ≤ a3 then (f52 [(0, .inr 3), (1, .inl a1), (2, .inl a2), (3, .inl a3)] [.inl 0] S) else (f52 [(0, .inr 3), (1, .inl a1), (2, .inl a2), (3, .inl a3)] [.inl 1] S)) else (f52 [(0, .inr 3), (1, .inl a1), (2, .inl a2), (3, .inl a3)] [.inl 0] S)))))))) := rfl
theorem u_X2_countNearer_4 (n : Nat) (S : XS) (a1 a2 a3 : Int32) : b_X2_countNearer_4 (n + 1) [(0, .inr 3), (1, .inl a1), (2, .inl a2), (3, .inl a3)] [] S = (if S 3 11 ≤ a3 then (some (S, some (some (.inl a2)))) else (gA a3 80 (gA a1 80 (if S 21 a3.toNatClampNeg < S 21 a1.toNatClampNeg then (b_X2_countNearer_52 (b_X2_countNearer_4 n) [(0, .inr 3), (1, .inl a1), (2, .inl a2), (3, .inl a3)] [.inl 1] S) else (gA a3 80 (gA a1 80 (if S 21 a3.toNatClampNeg = S 21 a1.toNatClampNeg then (if a1 ≤ a3 then (b_X2_countNearer_52 (b_X2_countNearer_4 n) [(0, .inr 3), (1, .inl a1), (2, .inl a2), (3, .inl a3)] [.inl 0] S) else (b_X2_countNearer_52 (b_X2_countNearer_4 n) [(0, .inr 3), (1, .inl a1), (2, .inl a2), (3, .inl a3)] [.inl 1] S)) else (b_X2_countNearer_52 (b_X2_countNearer_4 n) [(0, .inr 3), (1, .inl a1), (2, .inl a2), (3, .inl a3)] [.inl 0] S)))))))) := v_X2_countNearer_4 _ S a1 a2 a3
set_option maxRecDepth 100000 in
theorem v_X2_countNearer_52 (f4 : BT) (S : XS) (a1 a2 a3 t0 : Int32) : brn xT cs_X2_countNearer L_X2_countNearer [4, 52] (dsp [(4, [0, 1, 2, 3], f4)]) 59 [] 52 [(0, .inr 3), (1, .inl a1), (2, .inl a2), (3, .inl a3)] [.inl t0] S = (if t0 = 0 then (f4 [(0, .inr 3), (1, .inl a1), (2, .inl (a2 + 0)), (3, .inl (a3 + 1))] [] S) else (gA a1 80 (gA a1 80 (cli (m_X2_isOn [.inr 3, .inl a3, .inl (S 14 a1.toNatClampNeg), .inl (S 20 a1.toNatClampNeg)] S) (fun S1 r1 => if r1 = 0 then (f4 [(0, .inr 3), (1, .inl a1), (2, .inl (a2 + 0)), (3, .inl (a3 + 1))] [] S1) else (f4 [(0, .inr 3), (1, .inl a1), (2, .inl (a2 + 1)), (3, .inl (a3 + 1))] [] S1)))))) := rfl
theorem u_X2_countNearer_52 (k4 : BT) (S : XS) (a1 a2 a3 t0 : Int32) : b_X2_countNearer_52 k4 [(0, .inr 3), (1, .inl a1), (2, .inl a2), (3, .inl a3)] [.inl t0] S = (if t0 = 0 then (k4 [(0, .inr 3), (1, .inl a1), (2, .inl (a2 + 0)), (3, .inl (a3 + 1))] [] S) else (gA a1 80 (gA a1 80 (cli (m_X2_isOn [.inr 3, .inl a3, .inl (S 14 a1.toNatClampNeg), .inl (S 20 a1.toNatClampNeg)] S) (fun S1 r1 => if r1 = 0 then (k4 [(0, .inr 3), (1, .inl a1), (2, .inl (a2 + 0)), (3, .inl (a3 + 1))] [] S1) else (k4 [(0, .inr 3), (1, .inl a1), (2, .inl (a2 + 1)), (3, .inl (a3 + 1))] [] S1)))))) := v_X2_countNearer_52 _ S a1 a2 a3 t0
set_option maxRecDepth 100000 in
theorem v_X3_clear_5 (f12 : BT) (S : XS) : brn xT cs_X3_clear L_X3_clear [12] (dsp [(12, [0, 1], f12)]) 21 [] 0 [(0, .inr 5)] [] S = (f12 [(0, .inr 5), (1, .inl 0)] [] (up2 (up2 S 5 4 0) 5 5 0)) := rfl
theorem u_X3_clear_5 (S : XS) : m_X3_clear [.inr 5] S = (b_X3_clear_12 fu [(0, .inr 5), (1, .inl 0)] [] (up2 (up2 S 5 4 0) 5 5 0)) := v_X3_clear_5 _ S
set_option maxRecDepth 100000 in
theorem v_X3_clear_5_12 (f12 : BT) (S : XS) (a1 : Int32) : brn xT cs_X3_clear L_X3_clear [12] (dsp [(12, [0, 1], f12)]) 21 [] 12 [(0, .inr 5), (1, .inl a1)] [] S = (if 10 ≤ a1 then (some (S, some none)) else (gA a1 10 (f12 [(0, .inr 5), (1, .inl (a1 + 1))] [] (up2 S 34 a1.toNatClampNeg (-100003))))) := rfl
theorem u_X3_clear_5_12 (n : Nat) (S : XS) (a1 : Int32) : b_X3_clear_12 (n + 1) [(0, .inr 5), (1, .inl a1)] [] S = (if 10 ≤ a1 then (some (S, some none)) else (gA a1 10 (b_X3_clear_12 n [(0, .inr 5), (1, .inl (a1 + 1))] [] (up2 S 34 a1.toNatClampNeg (-100003))))) := v_X3_clear_5_12 _ S a1
set_option maxRecDepth 100000 in
theorem v_X3_clear_6 (f12 : BT) (S : XS) : brn xT cs_X3_clear L_X3_clear [12] (dsp [(12, [0, 1], f12)]) 21 [] 0 [(0, .inr 6)] [] S = (f12 [(0, .inr 6), (1, .inl 0)] [] (up2 (up2 S 6 4 0) 6 5 0)) := rfl
theorem u_X3_clear_6 (S : XS) : m_X3_clear [.inr 6] S = (b_X3_clear_12 fu [(0, .inr 6), (1, .inl 0)] [] (up2 (up2 S 6 4 0) 6 5 0)) := v_X3_clear_6 _ S
set_option maxRecDepth 100000 in
theorem v_X3_clear_6_12 (f12 : BT) (S : XS) (a1 : Int32) : brn xT cs_X3_clear L_X3_clear [12] (dsp [(12, [0, 1], f12)]) 21 [] 12 [(0, .inr 6), (1, .inl a1)] [] S = (if 10 ≤ a1 then (some (S, some none)) else (gA a1 10 (f12 [(0, .inr 6), (1, .inl (a1 + 1))] [] (up2 S 38 a1.toNatClampNeg (-100003))))) := rfl
theorem u_X3_clear_6_12 (n : Nat) (S : XS) (a1 : Int32) : b_X3_clear_12 (n + 1) [(0, .inr 6), (1, .inl a1)] [] S = (if 10 ≤ a1 then (some (S, some none)) else (gA a1 10 (b_X3_clear_12 n [(0, .inr 6), (1, .inl (a1 + 1))] [] (up2 S 38 a1.toNatClampNeg (-100003))))) := v_X3_clear_6_12 _ S a1
set_option maxRecDepth 100000 in
theorem u_X3_cover_5 (S : XS) (a1 a2 a3 : Int32) : m_X3_cover [.inr 5, .inl a1, .inl a2, .inl a3] S = (if a3 ≤ 18 then (some (S, some none)) else (if 170 ≤ S 5 4 then (some (S, some none)) else (gA (S 5 4) 170 (gA ((up2 S 31 (S 5 4).toNatClampNeg a1) 5 4) 170 (gA ((up2 (up2 S 31 (S 5 4).toNatClampNeg a1) 32 ((up2 S 31 (S 5 4).toNatClampNeg a1) 5 4).toNatClampNeg a2) 5 4) 170 (some (up2 (up2 (up2 (up2 S 31 (S 5 4).toNatClampNeg a1) 32 ((up2 S 31 (S 5 4).toNatClampNeg a1) 5 4).toNatClampNeg a2) 33 ((up2 (up2 S 31 (S 5 4).toNatClampNeg a1) 32 ((up2 S 31 (S 5 4).toNatClampNeg a1) 5 4).toNatClampNeg a2) 5 4).toNatClampNeg a3) 5 4 (((up2 (up2 (up2 S 31 (S 5 4).toNatClampNeg a1) 32 ((up2 S 31 (S 5 4).toNatClampNeg a1) 5 4).toNatClampNeg a2) 33 ((up2 (up2 S 31 (S 5 4).toNatClampNeg a1) 32 ((up2 S 31 (S 5 4).toNatClampNeg a1) 5 4).toNatClampNeg a2) 5 4).toNatClampNeg a3) 5 4) + 1), some none))))))) := rfl
set_option maxRecDepth 100000 in
theorem u_X3_cover_6 (S : XS) (a1 a2 a3 : Int32) : m_X3_cover [.inr 6, .inl a1, .inl a2, .inl a3] S = (if a3 ≤ 18 then (some (S, some none)) else (if 170 ≤ S 6 4 then (some (S, some none)) else (gA (S 6 4) 170 (gA ((up2 S 35 (S 6 4).toNatClampNeg a1) 6 4) 170 (gA ((up2 (up2 S 35 (S 6 4).toNatClampNeg a1) 36 ((up2 S 35 (S 6 4).toNatClampNeg a1) 6 4).toNatClampNeg a2) 6 4) 170 (some (up2 (up2 (up2 (up2 S 35 (S 6 4).toNatClampNeg a1) 36 ((up2 S 35 (S 6 4).toNatClampNeg a1) 6 4).toNatClampNeg a2) 37 ((up2 (up2 S 35 (S 6 4).toNatClampNeg a1) 36 ((up2 S 35 (S 6 4).toNatClampNeg a1) 6 4).toNatClampNeg a2) 6 4).toNatClampNeg a3) 6 4 (((up2 (up2 (up2 S 35 (S 6 4).toNatClampNeg a1) 36 ((up2 S 35 (S 6 4).toNatClampNeg a1) 6 4).toNatClampNeg a2) 37 ((up2 (up2 S 35 (S 6 4).toNatClampNeg a1) 36 ((up2 S 35 (S 6 4).toNatClampNeg a1) 6 4).toNatClampNeg a2) 6 4).toNatClampNeg a3) 6 4) + 1), some none))))))) := rfl
set_option maxRecDepth 100000 in
theorem v_X3_greatest_5 (f6 : BT) (S : XS) (a1 a2 : Int32) : brn xT cs_X3_greatest L_X3_greatest [6] (dsp [(6, [0, 1, 2, 3, 4], f6)]) 33 [] 0 [(0, .inr 5), (1, .inl a1), (2, .inl a2)] [] S = (f6 [(0, .inr 5), (1, .inl a1), (2, .inl a2), (3, .inl 18), (4, .inl 0)] [] S) := rfl
theorem u_X3_greatest_5 (S : XS) (a1 a2 : Int32) : m_X3_greatest [.inr 5, .inl a1, .inl a2] S = (b_X3_greatest_6 fu [(0, .inr 5), (1, .inl a1), (2, .inl a2), (3, .inl 18), (4, .inl 0)] [] S) := v_X3_greatest_5 _ S a1 a2
set_option maxRecDepth 100000 in
theorem v_X3_greatest_5_6 (f6 : BT) (S : XS) (a1 a2 a3 a4 : Int32) : brn xT cs_X3_greatest L_X3_greatest [6] (dsp [(6, [0, 1, 2, 3, 4], f6)]) 33 [] 6 [(0, .inr 5), (1, .inl a1), (2, .inl a2), (3, .inl a3), (4, .inl a4)] [] S = (if S 5 4 ≤ a4 then (some (S, some (some (.inl a3)))) else (gA a4 170 (if a2 < S 31 a4.toNatClampNeg then (f6 [(0, .inr 5), (1, .inl a1), (2, .inl a2), (3, .inl a3), (4, .inl (a4 + 1))] [] S) else (gA a4 170 (if S 32 a4.toNatClampNeg < a1 then (f6 [(0, .inr 5), (1, .inl a1), (2, .inl a2), (3, .inl a3), (4, .inl (a4 + 1))] [] S) else (gA a4 170 (f6 [(0, .inr 5), (1, .inl a1), (2, .inl a2), (3, .inl (if a3 < S 33 a4.toNatClampNeg then S 33 a4.toNatClampNeg else a3)), (4, .inl (a4 + 1))] [] S))))))) := rfl
theorem u_X3_greatest_5_6 (n : Nat) (S : XS) (a1 a2 a3 a4 : Int32) : b_X3_greatest_6 (n + 1) [(0, .inr 5), (1, .inl a1), (2, .inl a2), (3, .inl a3), (4, .inl a4)] [] S = (if S 5 4 ≤ a4 then (some (S, some (some (.inl a3)))) else (gA a4 170 (if a2 < S 31 a4.toNatClampNeg then (b_X3_greatest_6 n [(0, .inr 5), (1, .inl a1), (2, .inl a2), (3, .inl a3), (4, .inl (a4 + 1))] [] S) else (gA a4 170 (if S 32 a4.toNatClampNeg < a1 then (b_X3_greatest_6 n [(0, .inr 5), (1, .inl a1), (2, .inl a2), (3, .inl a3), (4, .inl (a4 + 1))] [] S) else (gA a4 170 (b_X3_greatest_6 n [(0, .inr 5), (1, .inl a1), (2, .inl a2), (3, .inl (if a3 < S 33 a4.toNatClampNeg then S 33 a4.toNatClampNeg else a3)), (4, .inl (a4 + 1))] [] S))))))) := v_X3_greatest_5_6 _ S a1 a2 a3 a4
set_option maxRecDepth 100000 in
theorem v_X3_greatest_6 (f6 : BT) (S : XS) (a1 a2 : Int32) : brn xT cs_X3_greatest L_X3_greatest [6] (dsp [(6, [0, 1, 2, 3, 4], f6)]) 33 [] 0 [(0, .inr 6), (1, .inl a1), (2, .inl a2)] [] S = (f6 [(0, .inr 6), (1, .inl a1), (2, .inl a2), (3, .inl 18), (4, .inl 0)] [] S) := rfl
theorem u_X3_greatest_6 (S : XS) (a1 a2 : Int32) : m_X3_greatest [.inr 6, .inl a1, .inl a2] S = (b_X3_greatest_6 fu [(0, .inr 6), (1, .inl a1), (2, .inl a2), (3, .inl 18), (4, .inl 0)] [] S) := v_X3_greatest_6 _ S a1 a2
set_option maxRecDepth 100000 in
theorem v_X3_greatest_6_6 (f6 : BT) (S : XS) (a1 a2 a3 a4 : Int32) : brn xT cs_X3_greatest L_X3_greatest [6] (dsp [(6, [0, 1, 2, 3, 4], f6)]) 33 [] 6 [(0, .inr 6), (1, .inl a1), (2, .inl a2), (3, .inl a3), (4, .inl a4)] [] S = (if S 6 4 ≤ a4 then (some (S, some (some (.inl a3)))) else (gA a4 170 (if a2 < S 35 a4.toNatClampNeg then (f6 [(0, .inr 6), (1, .inl a1), (2, .inl a2), (3, .inl a3), (4, .inl (a4 + 1))] [] S) else (gA a4 170 (if S 36 a4.toNatClampNeg < a1 then (f6 [(0, .inr 6), (1, .inl a1), (2, .inl a2), (3, .inl a3), (4, .inl (a4 + 1))] [] S) else (gA a4 170 (f6 [(0, .inr 6), (1, .inl a1), (2, .inl a2), (3, .inl (if a3 < S 37 a4.toNatClampNeg then S 37 a4.toNatClampNeg else a3)), (4, .inl (a4 + 1))] [] S))))))) := rfl
theorem u_X3_greatest_6_6 (n : Nat) (S : XS) (a1 a2 a3 a4 : Int32) : b_X3_greatest_6 (n + 1) [(0, .inr 6), (1, .inl a1), (2, .inl a2), (3, .inl a3), (4, .inl a4)] [] S = (if S 6 4 ≤ a4 then (some (S, some (some (.inl a3)))) else (gA a4 170 (if a2 < S 35 a4.toNatClampNeg then (b_X3_greatest_6 n [(0, .inr 6), (1, .inl a1), (2, .inl a2), (3, .inl a3), (4, .inl (a4 + 1))] [] S) else (gA a4 170 (if S 36 a4.toNatClampNeg < a1 then (b_X3_greatest_6 n [(0, .inr 6), (1, .inl a1), (2, .inl a2), (3, .inl a3), (4, .inl (a4 + 1))] [] S) else (gA a4 170 (b_X3_greatest_6 n [(0, .inr 6), (1, .inl a1), (2, .inl a2), (3, .inl (if a3 < S 37 a4.toNatClampNeg then S 37 a4.toNatClampNeg else a3)), (4, .inl (a4 + 1))] [] S))))))) := v_X3_greatest_6_6 _ S a1 a2 a3 a4
set_option maxRecDepth 100000 in
theorem u_X3_reachOut_5 (S : XS) (a1 : Int32) : m_X3_reachOut [.inr 5, .inl a1] S = (some (up2 S 5 5 (if S 5 5 < a1 then a1 else S 5 5), some none)) := rfl
set_option maxRecDepth 100000 in
theorem u_X3_reachOut_6 (S : XS) (a1 : Int32) : m_X3_reachOut [.inr 6, .inl a1] S = (some (up2 S 6 5 (if S 6 5 < a1 then a1 else S 6 5), some none)) := rfl
set_option maxRecDepth 100000 in
theorem u_X4_has (S : XS) (a1 : Int32) : m_X4_has [.inr 4, .inl a1] S = (if a1 < 0 then (some (S, some (some (.inl 0)))) else (if S 4 6 ≤ a1 then (some (S, some (some (.inl 0)))) else (some (S, some (some (.inl 1)))))) := rfl
set_option maxRecDepth 100000 in
theorem u_X4_add (S : XS) (a1 a2 a3 a4 : Int32) : m_X4_add [.inr 4, .inl a1, .inl a2, .inl a3, .inl a4] S = (gA (S 4 6) 10 (gA (S 4 6) 10 (gA (S 4 6) 10 (gA (S 4 6) 10 (some (up2 (up2 (up2 (up2 (up2 S 25 (S 4 6).toNatClampNeg a1) 26 (S 4 6).toNatClampNeg a2) 27 (S 4 6).toNatClampNeg a3) 28 (S 4 6).toNatClampNeg a4) 4 6 (((up2 (up2 (up2 (up2 S 25 (S 4 6).toNatClampNeg a1) 26 (S 4 6).toNatClampNeg a2) 27 (S 4 6).toNatClampNeg a3) 28 (S 4 6).toNatClampNeg a4) 4 6) + 1), some (some (.inl (S 4 6))))))))) := rfl
end
