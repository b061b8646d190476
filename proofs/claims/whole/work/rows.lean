section
def vx_no (w : Cond) : Bool := decide (w ≠ .isRef (.static Bundle.tN "UNASSIGNED_STACK" Bundle.steD)) && decide (w ≠ .isRef (.static Bundle.tN "SUPPRESSED_SENTINEL" Bundle.listD)) && decide (w ≠ .laysStatic Bundle.tN "UNASSIGNED_STACK" Bundle.steD) && decide (w ≠ .laysStatic Bundle.tN "SUPPRESSED_SENTINEL" Bundle.listD)
def vx_at0 (own : String) (ic : Nat) (X : String) (names : List String) : List Cond := (Bundle.ownAtoms0 own ic X names).filter vx_no
def vx_atS (own : String) (ic : Nat) (X : String) (names : List String) : List Cond := (Bundle.ownAtoms own ic X names).filter vx_no
def vx_ot (w : Cond) : Bool := w.onTables || goodWord w
end
section
-- ===== PART A: goes FIRST, ahead of the names: the tables' words, and 'selects' of the private methods out of them =====
/-- a private method of a class that the tables say can be made, by its rows of tables_1 -/
def lw_okq (q : MethodName × Nat) : Prop := (q.1.cls ≠ "java/lang/invoke/MethodHandle" ∧ q.1.cls ≠ "java/lang/invoke/VarHandle") ∧ Cond.instantiable q.1.cls q.2 ∈ tables_1 ∧ Cond.privateMethod q.1 ∈ tables_1 ∧ Cond.instanceMethod q.1 ∈ tables_1
theorem lw_p0 : lw_okq (⟨"StackMarks", "addItem", "(IIIIII)I"⟩, 10) := ⟨⟨by decide +kernel, by decide +kernel⟩, List.mem_of_getElem? (i := 14) (by decide +kernel), List.mem_of_getElem? (i := 230) (by decide +kernel), List.mem_of_getElem? (i := 231) (by decide +kernel)⟩
theorem lw_p1 : lw_okq (⟨"StackMarks$Items", "isAt", "(I)Z"⟩, 7) := ⟨⟨by decide +kernel, by decide +kernel⟩, List.mem_of_getElem? (i := 22) (by decide +kernel), List.mem_of_getElem? (i := 235) (by decide +kernel), List.mem_of_getElem? (i := 236) (by decide +kernel)⟩
theorem lw_p2 : lw_okq (⟨"StackMarks$Items", "add", "(IIIIII)I"⟩, 7) := ⟨⟨by decide +kernel, by decide +kernel⟩, List.mem_of_getElem? (i := 22) (by decide +kernel), List.mem_of_getElem? (i := 240) (by decide +kernel), List.mem_of_getElem? (i := 241) (by decide +kernel)⟩
theorem lw_p3 : lw_okq (⟨"StackMarks$Items", "has", "(I)Z"⟩, 7) := ⟨⟨by decide +kernel, by decide +kernel⟩, List.mem_of_getElem? (i := 22) (by decide +kernel), List.mem_of_getElem? (i := 252) (by decide +kernel), List.mem_of_getElem? (i := 253) (by decide +kernel)⟩
theorem lw_p4 : lw_okq (⟨"StackMarks$Kinds", "has", "(I)Z"⟩, 1) := ⟨⟨by decide +kernel, by decide +kernel⟩, List.mem_of_getElem? (i := 58) (by decide +kernel), List.mem_of_getElem? (i := 260) (by decide +kernel), List.mem_of_getElem? (i := 261) (by decide +kernel)⟩
theorem lw_p5 : lw_okq (⟨"StackMarks$Kinds", "takes", "(II)Z"⟩, 1) := ⟨⟨by decide +kernel, by decide +kernel⟩, List.mem_of_getElem? (i := 58) (by decide +kernel), List.mem_of_getElem? (i := 264) (by decide +kernel), List.mem_of_getElem? (i := 265) (by decide +kernel)⟩
theorem lw_p6 : lw_okq (⟨"StackMarks$Kinds", "change", "(III)I"⟩, 1) := ⟨⟨by decide +kernel, by decide +kernel⟩, List.mem_of_getElem? (i := 58) (by decide +kernel), List.mem_of_getElem? (i := 270) (by decide +kernel), List.mem_of_getElem? (i := 271) (by decide +kernel)⟩
theorem lw_p7 : lw_okq (⟨"StackMarks$Kinds", "get", "(II)I"⟩, 1) := ⟨⟨by decide +kernel, by decide +kernel⟩, List.mem_of_getElem? (i := 58) (by decide +kernel), List.mem_of_getElem? (i := 274) (by decide +kernel), List.mem_of_getElem? (i := 275) (by decide +kernel)⟩
theorem lw_p8 : lw_okq (⟨"StackMarks$Marks", "add", "(IIII)I"⟩, 12) := ⟨⟨by decide +kernel, by decide +kernel⟩, List.mem_of_getElem? (i := 70) (by decide +kernel), List.mem_of_getElem? (i := 282) (by decide +kernel), List.mem_of_getElem? (i := 283) (by decide +kernel)⟩
theorem lw_p9 : lw_okq (⟨"StackMarks$Marks", "has", "(I)Z"⟩, 12) := ⟨⟨by decide +kernel, by decide +kernel⟩, List.mem_of_getElem? (i := 70) (by decide +kernel), List.mem_of_getElem? (i := 290) (by decide +kernel), List.mem_of_getElem? (i := 291) (by decide +kernel)⟩
theorem lw_p10 : lw_okq (⟨"StackMarks$Slurs", "add", "(IIII)I"⟩, 7) := ⟨⟨by decide +kernel, by decide +kernel⟩, List.mem_of_getElem? (i := 126) (by decide +kernel), List.mem_of_getElem? (i := 301) (by decide +kernel), List.mem_of_getElem? (i := 302) (by decide +kernel)⟩
theorem lw_p11 : lw_okq (⟨"StackMarks$Outline", "clear", "()V"⟩, 6) := ⟨⟨by decide +kernel, by decide +kernel⟩, List.mem_of_getElem? (i := 161) (by decide +kernel), List.mem_of_getElem? (i := 309) (by decide +kernel), List.mem_of_getElem? (i := 310) (by decide +kernel)⟩
theorem lw_p12 : lw_okq (⟨"StackMarks", "coverItems", "()V"⟩, 10) := ⟨⟨by decide +kernel, by decide +kernel⟩, List.mem_of_getElem? (i := 14) (by decide +kernel), List.mem_of_getElem? (i := 314) (by decide +kernel), List.mem_of_getElem? (i := 315) (by decide +kernel)⟩
theorem lw_p13 : lw_okq (⟨"StackMarks", "coverHeads", "(III)V"⟩, 10) := ⟨⟨by decide +kernel, by decide +kernel⟩, List.mem_of_getElem? (i := 14) (by decide +kernel), List.mem_of_getElem? (i := 318) (by decide +kernel), List.mem_of_getElem? (i := 319) (by decide +kernel)⟩
theorem lw_p14 : lw_okq (⟨"StackMarks$Outline", "cover", "(III)V"⟩, 6) := ⟨⟨by decide +kernel, by decide +kernel⟩, List.mem_of_getElem? (i := 161) (by decide +kernel), List.mem_of_getElem? (i := 322) (by decide +kernel), List.mem_of_getElem? (i := 323) (by decide +kernel)⟩
theorem lw_p15 : lw_okq (⟨"StackMarks", "coverStem", "(I)V"⟩, 10) := ⟨⟨by decide +kernel, by decide +kernel⟩, List.mem_of_getElem? (i := 14) (by decide +kernel), List.mem_of_getElem? (i := 326) (by decide +kernel), List.mem_of_getElem? (i := 327) (by decide +kernel)⟩
def lw_privs_1 : List (MethodName × Nat) := [(⟨"StackMarks", "addItem", "(IIIIII)I"⟩, 10), (⟨"StackMarks$Items", "isAt", "(I)Z"⟩, 7), (⟨"StackMarks$Items", "add", "(IIIIII)I"⟩, 7), (⟨"StackMarks$Items", "has", "(I)Z"⟩, 7), (⟨"StackMarks$Kinds", "has", "(I)Z"⟩, 1), (⟨"StackMarks$Kinds", "takes", "(II)Z"⟩, 1), (⟨"StackMarks$Kinds", "change", "(III)I"⟩, 1), (⟨"StackMarks$Kinds", "get", "(II)I"⟩, 1), (⟨"StackMarks$Marks", "add", "(IIII)I"⟩, 12), (⟨"StackMarks$Marks", "has", "(I)Z"⟩, 12), (⟨"StackMarks$Slurs", "add", "(IIII)I"⟩, 7), (⟨"StackMarks$Outline", "clear", "()V"⟩, 6), (⟨"StackMarks", "coverItems", "()V"⟩, 10), (⟨"StackMarks", "coverHeads", "(III)V"⟩, 10), (⟨"StackMarks$Outline", "cover", "(III)V"⟩, 6), (⟨"StackMarks", "coverStem", "(I)V"⟩, 10)]
theorem lw_r1 : ∀ q ∈ lw_privs_1, lw_okq q := List.forall_mem_cons.mpr ⟨lw_p0, List.forall_mem_cons.mpr ⟨lw_p1, List.forall_mem_cons.mpr ⟨lw_p2, List.forall_mem_cons.mpr ⟨lw_p3, List.forall_mem_cons.mpr ⟨lw_p4, List.forall_mem_cons.mpr ⟨lw_p5, List.forall_mem_cons.mpr ⟨lw_p6, List.forall_mem_cons.mpr ⟨lw_p7, List.forall_mem_cons.mpr ⟨lw_p8, List.forall_mem_cons.mpr ⟨lw_p9, List.forall_mem_cons.mpr ⟨lw_p10, List.forall_mem_cons.mpr ⟨lw_p11, List.forall_mem_cons.mpr ⟨lw_p12, List.forall_mem_cons.mpr ⟨lw_p13, List.forall_mem_cons.mpr ⟨lw_p14, List.forall_mem_cons.mpr ⟨lw_p15, fun _ h => absurd h List.not_mem_nil⟩⟩⟩⟩⟩⟩⟩⟩⟩⟩⟩⟩⟩⟩⟩⟩
theorem lw_p16 : lw_okq (⟨"StackMarks", "laySlurs", "()V"⟩, 10) := ⟨⟨by decide +kernel, by decide +kernel⟩, List.mem_of_getElem? (i := 14) (by decide +kernel), List.mem_of_getElem? (i := 330) (by decide +kernel), List.mem_of_getElem? (i := 331) (by decide +kernel)⟩
theorem lw_p17 : lw_okq (⟨"StackMarks", "outline", "(I)LStackMarks$Outline;"⟩, 10) := ⟨⟨by decide +kernel, by decide +kernel⟩, List.mem_of_getElem? (i := 14) (by decide +kernel), List.mem_of_getElem? (i := 334) (by decide +kernel), List.mem_of_getElem? (i := 335) (by decide +kernel)⟩
theorem lw_p18 : lw_okq (⟨"StackMarks$Outline", "greatest", "(II)I"⟩, 6) := ⟨⟨by decide +kernel, by decide +kernel⟩, List.mem_of_getElem? (i := 161) (by decide +kernel), List.mem_of_getElem? (i := 338) (by decide +kernel), List.mem_of_getElem? (i := 339) (by decide +kernel)⟩
theorem lw_p19 : lw_okq (⟨"StackMarks$Outline", "reachOut", "(I)V"⟩, 6) := ⟨⟨by decide +kernel, by decide +kernel⟩, List.mem_of_getElem? (i := 161) (by decide +kernel), List.mem_of_getElem? (i := 345) (by decide +kernel), List.mem_of_getElem? (i := 346) (by decide +kernel)⟩
theorem lw_p20 : lw_okq (⟨"StackMarks", "queueMarks", "()V"⟩, 10) := ⟨⟨by decide +kernel, by decide +kernel⟩, List.mem_of_getElem? (i := 14) (by decide +kernel), List.mem_of_getElem? (i := 349) (by decide +kernel), List.mem_of_getElem? (i := 350) (by decide +kernel)⟩
theorem lw_p21 : lw_okq (⟨"StackMarks$Items", "haveBothVoices", "()Z"⟩, 7) := ⟨⟨by decide +kernel, by decide +kernel⟩, List.mem_of_getElem? (i := 22) (by decide +kernel), List.mem_of_getElem? (i := 353) (by decide +kernel), List.mem_of_getElem? (i := 354) (by decide +kernel)⟩
theorem lw_p22 : lw_okq (⟨"StackMarks", "leftEdge", "(I)I"⟩, 10) := ⟨⟨by decide +kernel, by decide +kernel⟩, List.mem_of_getElem? (i := 14) (by decide +kernel), List.mem_of_getElem? (i := 357) (by decide +kernel), List.mem_of_getElem? (i := 358) (by decide +kernel)⟩
theorem lw_p23 : lw_okq (⟨"StackMarks$Kinds", "liesFromX", "(I)Z"⟩, 1) := ⟨⟨by decide +kernel, by decide +kernel⟩, List.mem_of_getElem? (i := 58) (by decide +kernel), List.mem_of_getElem? (i := 361) (by decide +kernel), List.mem_of_getElem? (i := 362) (by decide +kernel)⟩
theorem lw_p24 : lw_okq (⟨"StackMarks", "chooseSide", "(IZ)I"⟩, 10) := ⟨⟨by decide +kernel, by decide +kernel⟩, List.mem_of_getElem? (i := 14) (by decide +kernel), List.mem_of_getElem? (i := 365) (by decide +kernel), List.mem_of_getElem? (i := 366) (by decide +kernel)⟩
theorem lw_p25 : lw_okq (⟨"StackMarks", "queueMark", "(I)V"⟩, 10) := ⟨⟨by decide +kernel, by decide +kernel⟩, List.mem_of_getElem? (i := 14) (by decide +kernel), List.mem_of_getElem? (i := 370) (by decide +kernel), List.mem_of_getElem? (i := 371) (by decide +kernel)⟩
theorem lw_p26 : lw_okq (⟨"StackMarks", "rank", "(I)I"⟩, 10) := ⟨⟨by decide +kernel, by decide +kernel⟩, List.mem_of_getElem? (i := 14) (by decide +kernel), List.mem_of_getElem? (i := 374) (by decide +kernel), List.mem_of_getElem? (i := 375) (by decide +kernel)⟩
theorem lw_p27 : lw_okq (⟨"StackMarks$Kinds", "rank", "(I)I"⟩, 1) := ⟨⟨by decide +kernel, by decide +kernel⟩, List.mem_of_getElem? (i := 58) (by decide +kernel), List.mem_of_getElem? (i := 378) (by decide +kernel), List.mem_of_getElem? (i := 379) (by decide +kernel)⟩
theorem lw_p28 : lw_okq (⟨"StackMarks", "layMarks", "()I"⟩, 10) := ⟨⟨by decide +kernel, by decide +kernel⟩, List.mem_of_getElem? (i := 14) (by decide +kernel), List.mem_of_getElem? (i := 383) (by decide +kernel), List.mem_of_getElem? (i := 384) (by decide +kernel)⟩
theorem lw_p29 : lw_okq (⟨"StackMarks$Kinds", "isInRow", "(I)Z"⟩, 1) := ⟨⟨by decide +kernel, by decide +kernel⟩, List.mem_of_getElem? (i := 58) (by decide +kernel), List.mem_of_getElem? (i := 387) (by decide +kernel), List.mem_of_getElem? (i := 388) (by decide +kernel)⟩
theorem lw_p30 : lw_okq (⟨"StackMarks", "innerAlone", "(I)I"⟩, 10) := ⟨⟨by decide +kernel, by decide +kernel⟩, List.mem_of_getElem? (i := 14) (by decide +kernel), List.mem_of_getElem? (i := 391) (by decide +kernel), List.mem_of_getElem? (i := 392) (by decide +kernel)⟩
theorem lw_p31 : lw_okq (⟨"StackMarks$Marks", "behind", "(I)I"⟩, 12) := ⟨⟨by decide +kernel, by decide +kernel⟩, List.mem_of_getElem? (i := 70) (by decide +kernel), List.mem_of_getElem? (i := 395) (by decide +kernel), List.mem_of_getElem? (i := 396) (by decide +kernel)⟩
def lw_privs_2 : List (MethodName × Nat) := [(⟨"StackMarks", "laySlurs", "()V"⟩, 10), (⟨"StackMarks", "outline", "(I)LStackMarks$Outline;"⟩, 10), (⟨"StackMarks$Outline", "greatest", "(II)I"⟩, 6), (⟨"StackMarks$Outline", "reachOut", "(I)V"⟩, 6), (⟨"StackMarks", "queueMarks", "()V"⟩, 10), (⟨"StackMarks$Items", "haveBothVoices", "()Z"⟩, 7), (⟨"StackMarks", "leftEdge", "(I)I"⟩, 10), (⟨"StackMarks$Kinds", "liesFromX", "(I)Z"⟩, 1), (⟨"StackMarks", "chooseSide", "(IZ)I"⟩, 10), (⟨"StackMarks", "queueMark", "(I)V"⟩, 10), (⟨"StackMarks", "rank", "(I)I"⟩, 10), (⟨"StackMarks$Kinds", "rank", "(I)I"⟩, 1), (⟨"StackMarks", "layMarks", "()I"⟩, 10), (⟨"StackMarks$Kinds", "isInRow", "(I)Z"⟩, 1), (⟨"StackMarks", "innerAlone", "(I)I"⟩, 10), (⟨"StackMarks$Marks", "behind", "(I)I"⟩, 12)]
theorem lw_r2 : ∀ q ∈ lw_privs_2, lw_okq q := List.forall_mem_cons.mpr ⟨lw_p16, List.forall_mem_cons.mpr ⟨lw_p17, List.forall_mem_cons.mpr ⟨lw_p18, List.forall_mem_cons.mpr ⟨lw_p19, List.forall_mem_cons.mpr ⟨lw_p20, List.forall_mem_cons.mpr ⟨lw_p21, List.forall_mem_cons.mpr ⟨lw_p22, List.forall_mem_cons.mpr ⟨lw_p23, List.forall_mem_cons.mpr ⟨lw_p24, List.forall_mem_cons.mpr ⟨lw_p25, List.forall_mem_cons.mpr ⟨lw_p26, List.forall_mem_cons.mpr ⟨lw_p27, List.forall_mem_cons.mpr ⟨lw_p28, List.forall_mem_cons.mpr ⟨lw_p29, List.forall_mem_cons.mpr ⟨lw_p30, List.forall_mem_cons.mpr ⟨lw_p31, fun _ h => absurd h List.not_mem_nil⟩⟩⟩⟩⟩⟩⟩⟩⟩⟩⟩⟩⟩⟩⟩⟩
theorem lw_p32 : lw_okq (⟨"StackMarks", "layAt", "(II)V"⟩, 10) := ⟨⟨by decide +kernel, by decide +kernel⟩, List.mem_of_getElem? (i := 14) (by decide +kernel), List.mem_of_getElem? (i := 399) (by decide +kernel), List.mem_of_getElem? (i := 400) (by decide +kernel)⟩
theorem lw_p33 : lw_okq (⟨"StackMarks", "layRow", "(II)I"⟩, 10) := ⟨⟨by decide +kernel, by decide +kernel⟩, List.mem_of_getElem? (i := 14) (by decide +kernel), List.mem_of_getElem? (i := 403) (by decide +kernel), List.mem_of_getElem? (i := 404) (by decide +kernel)⟩
theorem lw_p34 : lw_okq (⟨"StackMarks", "fillRow", "(II)I"⟩, 10) := ⟨⟨by decide +kernel, by decide +kernel⟩, List.mem_of_getElem? (i := 14) (by decide +kernel), List.mem_of_getElem? (i := 407) (by decide +kernel), List.mem_of_getElem? (i := 408) (by decide +kernel)⟩
theorem lw_p35 : lw_okq (⟨"StackMarks$Marks", "isOf", "(III)Z"⟩, 12) := ⟨⟨by decide +kernel, by decide +kernel⟩, List.mem_of_getElem? (i := 70) (by decide +kernel), List.mem_of_getElem? (i := 412) (by decide +kernel), List.mem_of_getElem? (i := 413) (by decide +kernel)⟩
theorem lw_p36 : lw_okq (⟨"StackMarks", "isFreeInRow", "(I)Z"⟩, 10) := ⟨⟨by decide +kernel, by decide +kernel⟩, List.mem_of_getElem? (i := 14) (by decide +kernel), List.mem_of_getElem? (i := 416) (by decide +kernel), List.mem_of_getElem? (i := 417) (by decide +kernel)⟩
theorem lw_p37 : lw_okq (⟨"StackMarks$Marks", "shareX", "(II)Z"⟩, 12) := ⟨⟨by decide +kernel, by decide +kernel⟩, List.mem_of_getElem? (i := 70) (by decide +kernel), List.mem_of_getElem? (i := 420) (by decide +kernel), List.mem_of_getElem? (i := 421) (by decide +kernel)⟩
theorem lw_p38 : lw_okq (⟨"StackMarks", "layRowMarks", "(III)V"⟩, 10) := ⟨⟨by decide +kernel, by decide +kernel⟩, List.mem_of_getElem? (i := 14) (by decide +kernel), List.mem_of_getElem? (i := 426) (by decide +kernel), List.mem_of_getElem? (i := 427) (by decide +kernel)⟩
theorem lw_p39 : lw_okq (⟨"StackMarks", "layLate", "(II)I"⟩, 10) := ⟨⟨by decide +kernel, by decide +kernel⟩, List.mem_of_getElem? (i := 14) (by decide +kernel), List.mem_of_getElem? (i := 430) (by decide +kernel), List.mem_of_getElem? (i := 431) (by decide +kernel)⟩
theorem lw_p40 : lw_okq (⟨"StackMarks", "lackOf", "(I)I"⟩, 10) := ⟨⟨by decide +kernel, by decide +kernel⟩, List.mem_of_getElem? (i := 14) (by decide +kernel), List.mem_of_getElem? (i := 438) (by decide +kernel), List.mem_of_getElem? (i := 439) (by decide +kernel)⟩
theorem lw_p41 : lw_okq (⟨"StackMarks$Items", "next", "(I)I"⟩, 7) := ⟨⟨by decide +kernel, by decide +kernel⟩, List.mem_of_getElem? (i := 22) (by decide +kernel), List.mem_of_getElem? (i := 442) (by decide +kernel), List.mem_of_getElem? (i := 443) (by decide +kernel)⟩
theorem lw_p42 : lw_okq (⟨"StackMarks$Items", "greatestX", "()I"⟩, 7) := ⟨⟨by decide +kernel, by decide +kernel⟩, List.mem_of_getElem? (i := 22) (by decide +kernel), List.mem_of_getElem? (i := 450) (by decide +kernel), List.mem_of_getElem? (i := 451) (by decide +kernel)⟩
theorem lw_p43 : lw_okq (⟨"StackMarks$Items", "moveBehind", "(II)V"⟩, 7) := ⟨⟨by decide +kernel, by decide +kernel⟩, List.mem_of_getElem? (i := 22) (by decide +kernel), List.mem_of_getElem? (i := 455) (by decide +kernel), List.mem_of_getElem? (i := 456) (by decide +kernel)⟩
theorem lw_p44 : lw_okq (⟨"StackMarks$Marks", "countAt", "(I)I"⟩, 12) := ⟨⟨by decide +kernel, by decide +kernel⟩, List.mem_of_getElem? (i := 70) (by decide +kernel), List.mem_of_getElem? (i := 463) (by decide +kernel), List.mem_of_getElem? (i := 464) (by decide +kernel)⟩
theorem lw_p45 : lw_okq (⟨"StackMarks", "demandPlaces", "()V"⟩, 10) := ⟨⟨by decide +kernel, by decide +kernel⟩, List.mem_of_getElem? (i := 14) (by decide +kernel), List.mem_of_getElem? (i := 475) (by decide +kernel), List.mem_of_getElem? (i := 476) (by decide +kernel)⟩
theorem lw_p46 : lw_okq (⟨"java/lang/Throwable", "fillInStackTrace", "(I)Ljava/lang/Throwable;"⟩, 6) := ⟨⟨by decide +kernel, by decide +kernel⟩, List.mem_of_getElem? (i := 515) (by decide +kernel), List.mem_of_getElem? (i := 513) (by decide +kernel), List.mem_of_getElem? (i := 514) (by decide +kernel)⟩
theorem lw_p47 : lw_okq (⟨"StackMarks$Slurs", "has", "(I)Z"⟩, 7) := ⟨⟨by decide +kernel, by decide +kernel⟩, List.mem_of_getElem? (i := 126) (by decide +kernel), List.mem_of_getElem? (i := 552) (by decide +kernel), List.mem_of_getElem? (i := 553) (by decide +kernel)⟩
def lw_privs_3 : List (MethodName × Nat) := [(⟨"StackMarks", "layAt", "(II)V"⟩, 10), (⟨"StackMarks", "layRow", "(II)I"⟩, 10), (⟨"StackMarks", "fillRow", "(II)I"⟩, 10), (⟨"StackMarks$Marks", "isOf", "(III)Z"⟩, 12), (⟨"StackMarks", "isFreeInRow", "(I)Z"⟩, 10), (⟨"StackMarks$Marks", "shareX", "(II)Z"⟩, 12), (⟨"StackMarks", "layRowMarks", "(III)V"⟩, 10), (⟨"StackMarks", "layLate", "(II)I"⟩, 10), (⟨"StackMarks", "lackOf", "(I)I"⟩, 10), (⟨"StackMarks$Items", "next", "(I)I"⟩, 7), (⟨"StackMarks$Items", "greatestX", "()I"⟩, 7), (⟨"StackMarks$Items", "moveBehind", "(II)V"⟩, 7), (⟨"StackMarks$Marks", "countAt", "(I)I"⟩, 12), (⟨"StackMarks", "demandPlaces", "()V"⟩, 10), (⟨"java/lang/Throwable", "fillInStackTrace", "(I)Ljava/lang/Throwable;"⟩, 6), (⟨"StackMarks$Slurs", "has", "(I)Z"⟩, 7)]
theorem lw_r3 : ∀ q ∈ lw_privs_3, lw_okq q := List.forall_mem_cons.mpr ⟨lw_p32, List.forall_mem_cons.mpr ⟨lw_p33, List.forall_mem_cons.mpr ⟨lw_p34, List.forall_mem_cons.mpr ⟨lw_p35, List.forall_mem_cons.mpr ⟨lw_p36, List.forall_mem_cons.mpr ⟨lw_p37, List.forall_mem_cons.mpr ⟨lw_p38, List.forall_mem_cons.mpr ⟨lw_p39, List.forall_mem_cons.mpr ⟨lw_p40, List.forall_mem_cons.mpr ⟨lw_p41, List.forall_mem_cons.mpr ⟨lw_p42, List.forall_mem_cons.mpr ⟨lw_p43, List.forall_mem_cons.mpr ⟨lw_p44, List.forall_mem_cons.mpr ⟨lw_p45, List.forall_mem_cons.mpr ⟨lw_p46, List.forall_mem_cons.mpr ⟨lw_p47, fun _ h => absurd h List.not_mem_nil⟩⟩⟩⟩⟩⟩⟩⟩⟩⟩⟩⟩⟩⟩⟩⟩
theorem lw_p48 : lw_okq (⟨"StackMarks$Marks", "isOn", "(III)Z"⟩, 12) := ⟨⟨by decide +kernel, by decide +kernel⟩, List.mem_of_getElem? (i := 70) (by decide +kernel), List.mem_of_getElem? (i := 578) (by decide +kernel), List.mem_of_getElem? (i := 579) (by decide +kernel)⟩
theorem lw_p49 : lw_okq (⟨"StackMarks$Marks", "countNearer", "(I)I"⟩, 12) := ⟨⟨by decide +kernel, by decide +kernel⟩, List.mem_of_getElem? (i := 70) (by decide +kernel), List.mem_of_getElem? (i := 582) (by decide +kernel), List.mem_of_getElem? (i := 583) (by decide +kernel)⟩
theorem lw_p50 : lw_okq (⟨"StackMarks$Marks", "countThere", "()I"⟩, 12) := ⟨⟨by decide +kernel, by decide +kernel⟩, List.mem_of_getElem? (i := 70) (by decide +kernel), List.mem_of_getElem? (i := 601) (by decide +kernel), List.mem_of_getElem? (i := 602) (by decide +kernel)⟩
theorem lw_p51 : lw_okq (⟨"StackMarks", "outermost", "(I)I"⟩, 10) := ⟨⟨by decide +kernel, by decide +kernel⟩, List.mem_of_getElem? (i := 14) (by decide +kernel), List.mem_of_getElem? (i := 605) (by decide +kernel), List.mem_of_getElem? (i := 606) (by decide +kernel)⟩
theorem lw_p52 : lw_okq (⟨"StackMarksModel", "isTaken", "(I)Z"⟩, 31) := ⟨⟨by decide +kernel, by decide +kernel⟩, List.mem_of_getElem? (i := 609) (by decide +kernel), List.mem_of_getElem? (i := 721) (by decide +kernel), List.mem_of_getElem? (i := 722) (by decide +kernel)⟩
theorem lw_p53 : lw_okq (⟨"StackMarksModel", "come", "(IIIIIZ)I"⟩, 31) := ⟨⟨by decide +kernel, by decide +kernel⟩, List.mem_of_getElem? (i := 609) (by decide +kernel), List.mem_of_getElem? (i := 726) (by decide +kernel), List.mem_of_getElem? (i := 727) (by decide +kernel)⟩
theorem lw_p54 : lw_okq (⟨"StackMarksModel", "isItem", "(I)Z"⟩, 31) := ⟨⟨by decide +kernel, by decide +kernel⟩, List.mem_of_getElem? (i := 609) (by decide +kernel), List.mem_of_getElem? (i := 739) (by decide +kernel), List.mem_of_getElem? (i := 740) (by decide +kernel)⟩
theorem lw_p55 : lw_okq (⟨"StackMarksModel", "isMark", "(I)Z"⟩, 31) := ⟨⟨by decide +kernel, by decide +kernel⟩, List.mem_of_getElem? (i := 609) (by decide +kernel), List.mem_of_getElem? (i := 758) (by decide +kernel), List.mem_of_getElem? (i := 759) (by decide +kernel)⟩
theorem lw_p56 : lw_okq (⟨"StackMarksModel", "greatest", "(III)I"⟩, 31) := ⟨⟨by decide +kernel, by decide +kernel⟩, List.mem_of_getElem? (i := 609) (by decide +kernel), List.mem_of_getElem? (i := 773) (by decide +kernel), List.mem_of_getElem? (i := 774) (by decide +kernel)⟩
theorem lw_p57 : lw_okq (⟨"StackMarksModel", "sideOf", "(I)I"⟩, 31) := ⟨⟨by decide +kernel, by decide +kernel⟩, List.mem_of_getElem? (i := 609) (by decide +kernel), List.mem_of_getElem? (i := 780) (by decide +kernel), List.mem_of_getElem? (i := 781) (by decide +kernel)⟩
theorem lw_p58 : lw_okq (⟨"StackMarksModel", "areBoth", "()Z"⟩, 31) := ⟨⟨by decide +kernel, by decide +kernel⟩, List.mem_of_getElem? (i := 609) (by decide +kernel), List.mem_of_getElem? (i := 784) (by decide +kernel), List.mem_of_getElem? (i := 785) (by decide +kernel)⟩
theorem lw_p59 : lw_okq (⟨"StackMarksModel", "left", "(I)I"⟩, 31) := ⟨⟨by decide +kernel, by decide +kernel⟩, List.mem_of_getElem? (i := 609) (by decide +kernel), List.mem_of_getElem? (i := 788) (by decide +kernel), List.mem_of_getElem? (i := 789) (by decide +kernel)⟩
theorem lw_p60 : lw_okq (⟨"StackMarksModel", "isAhead", "(II)Z"⟩, 31) := ⟨⟨by decide +kernel, by decide +kernel⟩, List.mem_of_getElem? (i := 609) (by decide +kernel), List.mem_of_getElem? (i := 793) (by decide +kernel), List.mem_of_getElem? (i := 794) (by decide +kernel)⟩
theorem lw_p61 : lw_okq (⟨"StackMarksModel", "lieRow", "(II)I"⟩, 31) := ⟨⟨by decide +kernel, by decide +kernel⟩, List.mem_of_getElem? (i := 609) (by decide +kernel), List.mem_of_getElem? (i := 797) (by decide +kernel), List.mem_of_getElem? (i := 798) (by decide +kernel)⟩
theorem lw_p62 : lw_okq (⟨"StackMarksModel", "gather", "(II)I"⟩, 31) := ⟨⟨by decide +kernel, by decide +kernel⟩, List.mem_of_getElem? (i := 609) (by decide +kernel), List.mem_of_getElem? (i := 801) (by decide +kernel), List.mem_of_getElem? (i := 802) (by decide +kernel)⟩
theorem lw_p63 : lw_okq (⟨"StackMarksModel", "cover", "(II)Z"⟩, 31) := ⟨⟨by decide +kernel, by decide +kernel⟩, List.mem_of_getElem? (i := 609) (by decide +kernel), List.mem_of_getElem? (i := 805) (by decide +kernel), List.mem_of_getElem? (i := 806) (by decide +kernel)⟩
def lw_privs_4 : List (MethodName × Nat) := [(⟨"StackMarks$Marks", "isOn", "(III)Z"⟩, 12), (⟨"StackMarks$Marks", "countNearer", "(I)I"⟩, 12), (⟨"StackMarks$Marks", "countThere", "()I"⟩, 12), (⟨"StackMarks", "outermost", "(I)I"⟩, 10), (⟨"StackMarksModel", "isTaken", "(I)Z"⟩, 31), (⟨"StackMarksModel", "come", "(IIIIIZ)I"⟩, 31), (⟨"StackMarksModel", "isItem", "(I)Z"⟩, 31), (⟨"StackMarksModel", "isMark", "(I)Z"⟩, 31), (⟨"StackMarksModel", "greatest", "(III)I"⟩, 31), (⟨"StackMarksModel", "sideOf", "(I)I"⟩, 31), (⟨"StackMarksModel", "areBoth", "()Z"⟩, 31), (⟨"StackMarksModel", "left", "(I)I"⟩, 31), (⟨"StackMarksModel", "isAhead", "(II)Z"⟩, 31), (⟨"StackMarksModel", "lieRow", "(II)I"⟩, 31), (⟨"StackMarksModel", "gather", "(II)I"⟩, 31), (⟨"StackMarksModel", "cover", "(II)Z"⟩, 31)]
theorem lw_r4 : ∀ q ∈ lw_privs_4, lw_okq q := List.forall_mem_cons.mpr ⟨lw_p48, List.forall_mem_cons.mpr ⟨lw_p49, List.forall_mem_cons.mpr ⟨lw_p50, List.forall_mem_cons.mpr ⟨lw_p51, List.forall_mem_cons.mpr ⟨lw_p52, List.forall_mem_cons.mpr ⟨lw_p53, List.forall_mem_cons.mpr ⟨lw_p54, List.forall_mem_cons.mpr ⟨lw_p55, List.forall_mem_cons.mpr ⟨lw_p56, List.forall_mem_cons.mpr ⟨lw_p57, List.forall_mem_cons.mpr ⟨lw_p58, List.forall_mem_cons.mpr ⟨lw_p59, List.forall_mem_cons.mpr ⟨lw_p60, List.forall_mem_cons.mpr ⟨lw_p61, List.forall_mem_cons.mpr ⟨lw_p62, List.forall_mem_cons.mpr ⟨lw_p63, fun _ h => absurd h List.not_mem_nil⟩⟩⟩⟩⟩⟩⟩⟩⟩⟩⟩⟩⟩⟩⟩⟩
theorem lw_p64 : lw_okq (⟨"StackMarksModel", "own", "(I)I"⟩, 31) := ⟨⟨by decide +kernel, by decide +kernel⟩, List.mem_of_getElem? (i := 609) (by decide +kernel), List.mem_of_getElem? (i := 809) (by decide +kernel), List.mem_of_getElem? (i := 810) (by decide +kernel)⟩
theorem lw_p65 : lw_okq (⟨"StackMarksModel", "lie", "(IIZ)V"⟩, 31) := ⟨⟨by decide +kernel, by decide +kernel⟩, List.mem_of_getElem? (i := 609) (by decide +kernel), List.mem_of_getElem? (i := 813) (by decide +kernel), List.mem_of_getElem? (i := 814) (by decide +kernel)⟩
theorem lw_p66 : lw_okq (⟨"StackMarksModel", "throwsNow", "()Z"⟩, 31) := ⟨⟨by decide +kernel, by decide +kernel⟩, List.mem_of_getElem? (i := 609) (by decide +kernel), List.mem_of_getElem? (i := 821) (by decide +kernel), List.mem_of_getElem? (i := 822) (by decide +kernel)⟩
theorem lw_p67 : lw_okq (⟨"StackMarksModel", "lacks", "(I)I"⟩, 31) := ⟨⟨by decide +kernel, by decide +kernel⟩, List.mem_of_getElem? (i := 609) (by decide +kernel), List.mem_of_getElem? (i := 850) (by decide +kernel), List.mem_of_getElem? (i := 851) (by decide +kernel)⟩
theorem lw_p68 : lw_okq (⟨"StackMarksModel", "nextOf", "(I)I"⟩, 31) := ⟨⟨by decide +kernel, by decide +kernel⟩, List.mem_of_getElem? (i := 609) (by decide +kernel), List.mem_of_getElem? (i := 854) (by decide +kernel), List.mem_of_getElem? (i := 855) (by decide +kernel)⟩
theorem lw_p69 : lw_okq (⟨"StackMarksModel", "marksOf", "(I)I"⟩, 31) := ⟨⟨by decide +kernel, by decide +kernel⟩, List.mem_of_getElem? (i := 609) (by decide +kernel), List.mem_of_getElem? (i := 866) (by decide +kernel), List.mem_of_getElem? (i := 867) (by decide +kernel)⟩
theorem lw_p70 : lw_okq (⟨"StackMarksModel", "outermost", "(I)I"⟩, 31) := ⟨⟨by decide +kernel, by decide +kernel⟩, List.mem_of_getElem? (i := 609) (by decide +kernel), List.mem_of_getElem? (i := 874) (by decide +kernel), List.mem_of_getElem? (i := 875) (by decide +kernel)⟩
def lw_privs_5 : List (MethodName × Nat) := [(⟨"StackMarksModel", "own", "(I)I"⟩, 31), (⟨"StackMarksModel", "lie", "(IIZ)V"⟩, 31), (⟨"StackMarksModel", "throwsNow", "()Z"⟩, 31), (⟨"StackMarksModel", "lacks", "(I)I"⟩, 31), (⟨"StackMarksModel", "nextOf", "(I)I"⟩, 31), (⟨"StackMarksModel", "marksOf", "(I)I"⟩, 31), (⟨"StackMarksModel", "outermost", "(I)I"⟩, 31)]
theorem lw_r5 : ∀ q ∈ lw_privs_5, lw_okq q := List.forall_mem_cons.mpr ⟨lw_p64, List.forall_mem_cons.mpr ⟨lw_p65, List.forall_mem_cons.mpr ⟨lw_p66, List.forall_mem_cons.mpr ⟨lw_p67, List.forall_mem_cons.mpr ⟨lw_p68, List.forall_mem_cons.mpr ⟨lw_p69, List.forall_mem_cons.mpr ⟨lw_p70, fun _ h => absurd h List.not_mem_nil⟩⟩⟩⟩⟩⟩⟩
def lw_privs : List (MethodName × Nat) := lw_privs_1 ++ (lw_privs_2 ++ (lw_privs_3 ++ (lw_privs_4 ++ (lw_privs_5))))
def lw_tbl : List Cond := k2_sels lw_privs ++ tables_1
theorem lw_privs_ok : ∀ q ∈ lw_privs, lw_okq q := by
  show ∀ q ∈ lw_privs_1 ++ (lw_privs_2 ++ (lw_privs_3 ++ (lw_privs_4 ++ (lw_privs_5)))), lw_okq q
  exact List.forall_mem_append.mpr ⟨lw_r1, List.forall_mem_append.mpr ⟨lw_r2, List.forall_mem_append.mpr ⟨lw_r3, List.forall_mem_append.mpr ⟨lw_r4, lw_r5⟩⟩⟩⟩
/-! ===== BEGIN printed: names, fields, word lists, decode rows ===== -/
def RX0 : String := "StackMarks$Items"
def TX0 : u_T := fun k => match k with
  | 0 => ("StackMarks$Items", "x", "[I", true)
  | 1 => ("StackMarks$Items", "low", "[I", true)
  | 2 => ("StackMarks$Items", "high", "[I", true)
  | 3 => ("StackMarks$Items", "voice", "[I", true)
  | 4 => ("StackMarks$Items", "stem", "[I", true)
  | 5 => ("StackMarks$Items", "rest", "[I", true)
  | _ => ("StackMarks$Items", "count", "I", false)
def tyX0 : Nat → FieldType := fun k => match k with
  | 0 => .array .int
  | 1 => .array .int
  | 2 => .array .int
  | 3 => .array .int
  | 4 => .array .int
  | 5 => .array .int
  | _ => .int
abbrev wsX00 : List Cond := u_ws RX0 TX0 7
theorem nmX0 : ∀ a, a < 7 → ∀ b, b < 7 → a ≠ b → (TX0 a).2.1 ≠ (TX0 b).2.1 := by decide +kernel
theorem tyX0_ok : ∀ k, k < 7 → parseFieldDescriptor (TX0 k).2.2.1 = some (tyX0 k) := by decide +kernel
abbrev cX0_init : ByteArray := prog_2_method_1_code
def yX0_init : MethodName := ⟨RX0, "<init>", "()V"⟩
abbrev cX0_has : ByteArray := prog_2_method_2_code
def yX0_has : MethodName := ⟨RX0, "has", "(I)Z"⟩
abbrev cX0_isAt : ByteArray := prog_2_method_3_code
def yX0_isAt : MethodName := ⟨RX0, "isAt", "(I)Z"⟩
abbrev cX0_add : ByteArray := prog_2_method_4_code
def yX0_add : MethodName := ⟨RX0, "add", "(IIIIII)I"⟩
abbrev cX0_next : ByteArray := prog_2_method_5_code
def yX0_next : MethodName := ⟨RX0, "next", "(I)I"⟩
abbrev cX0_greatestX : ByteArray := prog_2_method_6_code
def yX0_greatestX : MethodName := ⟨RX0, "greatestX", "()I"⟩
abbrev cX0_moveBehind : ByteArray := prog_2_method_7_code
def yX0_moveBehind : MethodName := ⟨RX0, "moveBehind", "(II)V"⟩
abbrev cX0_haveBothVoices : ByteArray := prog_2_method_8_code
def yX0_haveBothVoices : MethodName := ⟨RX0, "haveBothVoices", "()Z"⟩
def RX1 : String := "StackMarks$Kinds"
def TX1 : u_T := fun k => match k with
  | _ => ("StackMarks$Kinds", "settings", "[I", true)
def tyX1 : Nat → FieldType := fun k => match k with
  | _ => .array .int
abbrev wsX10 : List Cond := u_ws RX1 TX1 1
theorem nmX1 : ∀ a, a < 1 → ∀ b, b < 1 → a ≠ b → (TX1 a).2.1 ≠ (TX1 b).2.1 := by decide +kernel
theorem tyX1_ok : ∀ k, k < 1 → parseFieldDescriptor (TX1 k).2.2.1 = some (tyX1 k) := by decide +kernel
abbrev cX1_init : ByteArray := prog_3_method_1_code
def yX1_init : MethodName := ⟨RX1, "<init>", "()V"⟩
abbrev cX1_has : ByteArray := prog_3_method_2_code
def yX1_has : MethodName := ⟨RX1, "has", "(I)Z"⟩
abbrev cX1_takes : ByteArray := prog_3_method_3_code
def yX1_takes : MethodName := ⟨RX1, "takes", "(II)Z"⟩
abbrev cX1_get : ByteArray := prog_3_method_4_code
def yX1_get : MethodName := ⟨RX1, "get", "(II)I"⟩
abbrev cX1_change : ByteArray := prog_3_method_5_code
def yX1_change : MethodName := ⟨RX1, "change", "(III)I"⟩
abbrev cX1_liesFromX : ByteArray := prog_3_method_6_code
def yX1_liesFromX : MethodName := ⟨RX1, "liesFromX", "(I)Z"⟩
abbrev cX1_isInRow : ByteArray := prog_3_method_7_code
def yX1_isInRow : MethodName := ⟨RX1, "isInRow", "(I)Z"⟩
abbrev cX1_rank : ByteArray := prog_3_method_8_code
def yX1_rank : MethodName := ⟨RX1, "rank", "(I)I"⟩
def RX2 : String := "StackMarks$Marks"
def TX2 : u_T := fun k => match k with
  | 0 => ("StackMarks$Marks", "item", "[I", true)
  | 1 => ("StackMarks$Marks", "kind", "[I", true)
  | 2 => ("StackMarks$Marks", "width", "[I", true)
  | 3 => ("StackMarks$Marks", "height", "[I", true)
  | 4 => ("StackMarks$Marks", "gone", "[Z", true)
  | 5 => ("StackMarks$Marks", "left", "[I", true)
  | 6 => ("StackMarks$Marks", "side", "[I", true)
  | 7 => ("StackMarks$Marks", "inner", "[I", true)
  | 8 => ("StackMarks$Marks", "outer", "[I", true)
  | 9 => ("StackMarks$Marks", "inRow", "[Z", true)
  | 10 => ("StackMarks$Marks", "turn", "[I", true)
  | _ => ("StackMarks$Marks", "count", "I", false)
def tyX2 : Nat → FieldType := fun k => match k with
  | 0 => .array .int
  | 1 => .array .int
  | 2 => .array .int
  | 3 => .array .int
  | 4 => .array .boolean
  | 5 => .array .int
  | 6 => .array .int
  | 7 => .array .int
  | 8 => .array .int
  | 9 => .array .boolean
  | 10 => .array .int
  | _ => .int
abbrev wsX20 : List Cond := u_ws RX2 TX2 12
theorem nmX2 : ∀ a, a < 12 → ∀ b, b < 12 → a ≠ b → (TX2 a).2.1 ≠ (TX2 b).2.1 := by decide +kernel
theorem tyX2_ok : ∀ k, k < 12 → parseFieldDescriptor (TX2 k).2.2.1 = some (tyX2 k) := by decide +kernel
abbrev cX2_init : ByteArray := prog_4_method_1_code
def yX2_init : MethodName := ⟨RX2, "<init>", "()V"⟩
abbrev cX2_has : ByteArray := prog_4_method_2_code
def yX2_has : MethodName := ⟨RX2, "has", "(I)Z"⟩
abbrev cX2_add : ByteArray := prog_4_method_3_code
def yX2_add : MethodName := ⟨RX2, "add", "(IIII)I"⟩
abbrev cX2_countThere : ByteArray := prog_4_method_4_code
def yX2_countThere : MethodName := ⟨RX2, "countThere", "()I"⟩
abbrev cX2_countAt : ByteArray := prog_4_method_5_code
def yX2_countAt : MethodName := ⟨RX2, "countAt", "(I)I"⟩
abbrev cX2_isOn : ByteArray := prog_4_method_6_code
def yX2_isOn : MethodName := ⟨RX2, "isOn", "(III)Z"⟩
abbrev cX2_isOf : ByteArray := prog_4_method_7_code
def yX2_isOf : MethodName := ⟨RX2, "isOf", "(III)Z"⟩
abbrev cX2_behind : ByteArray := prog_4_method_8_code
def yX2_behind : MethodName := ⟨RX2, "behind", "(I)I"⟩
abbrev cX2_shareX : ByteArray := prog_4_method_9_code
def yX2_shareX : MethodName := ⟨RX2, "shareX", "(II)Z"⟩
abbrev cX2_countNearer : ByteArray := prog_4_method_10_code
def yX2_countNearer : MethodName := ⟨RX2, "countNearer", "(I)I"⟩
def RX3 : String := "StackMarks$Outline"
def TX3 : u_T := fun k => match k with
  | 0 => ("StackMarks$Outline", "first", "[I", true)
  | 1 => ("StackMarks$Outline", "last", "[I", true)
  | 2 => ("StackMarks$Outline", "height", "[I", true)
  | 3 => ("StackMarks$Outline", "rowInner", "[I", true)
  | 4 => ("StackMarks$Outline", "blocks", "I", false)
  | _ => ("StackMarks$Outline", "outermost", "I", false)
def tyX3 : Nat → FieldType := fun k => match k with
  | 0 => .array .int
  | 1 => .array .int
  | 2 => .array .int
  | 3 => .array .int
  | 4 => .int
  | _ => .int
abbrev wsX30 : List Cond := u_ws RX3 TX3 6
theorem nmX3 : ∀ a, a < 6 → ∀ b, b < 6 → a ≠ b → (TX3 a).2.1 ≠ (TX3 b).2.1 := by decide +kernel
theorem tyX3_ok : ∀ k, k < 6 → parseFieldDescriptor (TX3 k).2.2.1 = some (tyX3 k) := by decide +kernel
abbrev cX3_init : ByteArray := prog_5_method_1_code
def yX3_init : MethodName := ⟨RX3, "<init>", "()V"⟩
abbrev cX3_clear : ByteArray := prog_5_method_2_code
def yX3_clear : MethodName := ⟨RX3, "clear", "()V"⟩
abbrev cX3_cover : ByteArray := prog_5_method_3_code
def yX3_cover : MethodName := ⟨RX3, "cover", "(III)V"⟩
abbrev cX3_greatest : ByteArray := prog_5_method_4_code
def yX3_greatest : MethodName := ⟨RX3, "greatest", "(II)I"⟩
abbrev cX3_reachOut : ByteArray := prog_5_method_5_code
def yX3_reachOut : MethodName := ⟨RX3, "reachOut", "(I)V"⟩
def RX4 : String := "StackMarks$Slurs"
def TX4 : u_T := fun k => match k with
  | 0 => ("StackMarks$Slurs", "from", "[I", true)
  | 1 => ("StackMarks$Slurs", "to", "[I", true)
  | 2 => ("StackMarks$Slurs", "side", "[I", true)
  | 3 => ("StackMarks$Slurs", "thickness", "[I", true)
  | 4 => ("StackMarks$Slurs", "inner", "[I", true)
  | 5 => ("StackMarks$Slurs", "outer", "[I", true)
  | _ => ("StackMarks$Slurs", "count", "I", false)
def tyX4 : Nat → FieldType := fun k => match k with
  | 0 => .array .int
  | 1 => .array .int
  | 2 => .array .int
  | 3 => .array .int
  | 4 => .array .int
  | 5 => .array .int
  | _ => .int
abbrev wsX40 : List Cond := u_ws RX4 TX4 7
theorem nmX4 : ∀ a, a < 7 → ∀ b, b < 7 → a ≠ b → (TX4 a).2.1 ≠ (TX4 b).2.1 := by decide +kernel
theorem tyX4_ok : ∀ k, k < 7 → parseFieldDescriptor (TX4 k).2.2.1 = some (tyX4 k) := by decide +kernel
abbrev cX4_init : ByteArray := prog_6_method_1_code
def yX4_init : MethodName := ⟨RX4, "<init>", "()V"⟩
abbrev cX4_has : ByteArray := prog_6_method_2_code
def yX4_has : MethodName := ⟨RX4, "has", "(I)Z"⟩
abbrev cX4_add : ByteArray := prog_6_method_3_code
def yX4_add : MethodName := ⟨RX4, "add", "(IIII)I"⟩
def RX5 : String := "StackMarks"
def TX5 : u_T := fun k => match k with
  | 0 => ("StackMarks", "items", "LStackMarks$Items;", true)
  | 1 => ("StackMarks", "kinds", "LStackMarks$Kinds;", true)
  | 2 => ("StackMarks", "marks", "LStackMarks$Marks;", true)
  | 3 => ("StackMarks", "slurs", "LStackMarks$Slurs;", true)
  | 4 => ("StackMarks", "above", "LStackMarks$Outline;", true)
  | 5 => ("StackMarks", "below", "LStackMarks$Outline;", true)
  | 6 => ("StackMarks", "queue", "[I", true)
  | 7 => ("StackMarks", "queued", "I", false)
  | 8 => ("StackMarks", "turns", "I", false)
  | _ => ("StackMarks", "placed", "Z", false)
def tyX5 : Nat → FieldType := fun k => match k with
  | 0 => .object "StackMarks$Items"
  | 1 => .object "StackMarks$Kinds"
  | 2 => .object "StackMarks$Marks"
  | 3 => .object "StackMarks$Slurs"
  | 4 => .object "StackMarks$Outline"
  | 5 => .object "StackMarks$Outline"
  | 6 => .array .int
  | 7 => .int
  | 8 => .int
  | _ => .boolean
abbrev wsX50 : List Cond := u_ws RX5 TX5 10
theorem nmX5 : ∀ a, a < 10 → ∀ b, b < 10 → a ≠ b → (TX5 a).2.1 ≠ (TX5 b).2.1 := by decide +kernel
theorem tyX5_ok : ∀ k, k < 10 → parseFieldDescriptor (TX5 k).2.2.1 = some (tyX5 k) := by decide +kernel
abbrev cX5_init : ByteArray := prog_1_method_1_code
def yX5_init : MethodName := ⟨RX5, "<init>", "()V"⟩
abbrev cX5_note : ByteArray := prog_1_method_2_code
def yX5_note : MethodName := ⟨RX5, "note", "(IIIII)I"⟩
abbrev cX5_rest : ByteArray := prog_1_method_3_code
def yX5_rest : MethodName := ⟨RX5, "rest", "(III)I"⟩
abbrev cX5_lift : ByteArray := prog_1_method_4_code
def yX5_lift : MethodName := ⟨RX5, "lift", "(II)I"⟩
abbrev cX5_set : ByteArray := prog_1_method_5_code
def yX5_set : MethodName := ⟨RX5, "set", "(III)I"⟩
abbrev cX5_mark : ByteArray := prog_1_method_6_code
def yX5_mark : MethodName := ⟨RX5, "mark", "(IIII)I"⟩
abbrev cX5_drop : ByteArray := prog_1_method_7_code
def yX5_drop : MethodName := ⟨RX5, "drop", "(I)I"⟩
abbrev cX5_slur : ByteArray := prog_1_method_8_code
def yX5_slur : MethodName := ⟨RX5, "slur", "(IIII)I"⟩
abbrev cX5_place : ByteArray := prog_1_method_9_code
def yX5_place : MethodName := ⟨RX5, "place", "()I"⟩
abbrev cX5_at : ByteArray := prog_1_method_10_code
def yX5_at : MethodName := ⟨RX5, "at", "(II)I"⟩
abbrev cX5_slurAt : ByteArray := prog_1_method_11_code
def yX5_slurAt : MethodName := ⟨RX5, "slurAt", "(II)I"⟩
abbrev cX5_skyline : ByteArray := prog_1_method_12_code
def yX5_skyline : MethodName := ⟨RX5, "skyline", "(II)I"⟩
abbrev cX5_row : ByteArray := prog_1_method_13_code
def yX5_row : MethodName := ⟨RX5, "row", "(II)I"⟩
abbrev cX5_order : ByteArray := prog_1_method_14_code
def yX5_order : MethodName := ⟨RX5, "order", "(III)I"⟩
abbrev cX5_meets : ByteArray := prog_1_method_15_code
def yX5_meets : MethodName := ⟨RX5, "meets", "(II)I"⟩
abbrev cX5_wide : ByteArray := prog_1_method_16_code
def yX5_wide : MethodName := ⟨RX5, "wide", "(I)I"⟩
abbrev cX5_push : ByteArray := prog_1_method_17_code
def yX5_push : MethodName := ⟨RX5, "push", "(I)I"⟩
abbrev cX5_item : ByteArray := prog_1_method_18_code
def yX5_item : MethodName := ⟨RX5, "item", "(II)I"⟩
abbrev cX5_count : ByteArray := prog_1_method_19_code
def yX5_count : MethodName := ⟨RX5, "count", "(I)I"⟩
abbrev cX5_isWithin : ByteArray := prog_1_method_20_code
def yX5_isWithin : MethodName := ⟨RX5, "isWithin", "(III)Z"⟩
abbrev cX5_isHead : ByteArray := prog_1_method_21_code
def yX5_isHead : MethodName := ⟨RX5, "isHead", "(I)Z"⟩
abbrev cX5_isSide : ByteArray := prog_1_method_22_code
def yX5_isSide : MethodName := ⟨RX5, "isSide", "(I)Z"⟩
abbrev cX5_demandPlaces : ByteArray := prog_1_method_23_code
def yX5_demandPlaces : MethodName := ⟨RX5, "demandPlaces", "()V"⟩
abbrev cX5_addItem : ByteArray := prog_1_method_24_code
def yX5_addItem : MethodName := ⟨RX5, "addItem", "(IIIIII)I"⟩
abbrev cX5_outline : ByteArray := prog_1_method_25_code
def yX5_outline : MethodName := ⟨RX5, "outline", "(I)LStackMarks$Outline;"⟩
abbrev cX5_outermost : ByteArray := prog_1_method_26_code
def yX5_outermost : MethodName := ⟨RX5, "outermost", "(I)I"⟩
abbrev cX5_lackOf : ByteArray := prog_1_method_27_code
def yX5_lackOf : MethodName := ⟨RX5, "lackOf", "(I)I"⟩
abbrev cX5_coverItems : ByteArray := prog_1_method_28_code
def yX5_coverItems : MethodName := ⟨RX5, "coverItems", "()V"⟩
abbrev cX5_coverHeads : ByteArray := prog_1_method_29_code
def yX5_coverHeads : MethodName := ⟨RX5, "coverHeads", "(III)V"⟩
abbrev cX5_coverStem : ByteArray := prog_1_method_30_code
def yX5_coverStem : MethodName := ⟨RX5, "coverStem", "(I)V"⟩
abbrev cX5_laySlurs : ByteArray := prog_1_method_31_code
def yX5_laySlurs : MethodName := ⟨RX5, "laySlurs", "()V"⟩
abbrev cX5_queueMarks : ByteArray := prog_1_method_32_code
def yX5_queueMarks : MethodName := ⟨RX5, "queueMarks", "()V"⟩
abbrev cX5_queueMark : ByteArray := prog_1_method_33_code
def yX5_queueMark : MethodName := ⟨RX5, "queueMark", "(I)V"⟩
abbrev cX5_rank : ByteArray := prog_1_method_34_code
def yX5_rank : MethodName := ⟨RX5, "rank", "(I)I"⟩
abbrev cX5_leftEdge : ByteArray := prog_1_method_35_code
def yX5_leftEdge : MethodName := ⟨RX5, "leftEdge", "(I)I"⟩
abbrev cX5_chooseSide : ByteArray := prog_1_method_36_code
def yX5_chooseSide : MethodName := ⟨RX5, "chooseSide", "(IZ)I"⟩
abbrev cX5_layMarks : ByteArray := prog_1_method_37_code
def yX5_layMarks : MethodName := ⟨RX5, "layMarks", "()I"⟩
abbrev cX5_innerAlone : ByteArray := prog_1_method_38_code
def yX5_innerAlone : MethodName := ⟨RX5, "innerAlone", "(I)I"⟩
abbrev cX5_layAt : ByteArray := prog_1_method_39_code
def yX5_layAt : MethodName := ⟨RX5, "layAt", "(II)V"⟩
abbrev cX5_layRow : ByteArray := prog_1_method_40_code
def yX5_layRow : MethodName := ⟨RX5, "layRow", "(II)I"⟩
abbrev cX5_fillRow : ByteArray := prog_1_method_41_code
def yX5_fillRow : MethodName := ⟨RX5, "fillRow", "(II)I"⟩
abbrev cX5_isFreeInRow : ByteArray := prog_1_method_42_code
def yX5_isFreeInRow : MethodName := ⟨RX5, "isFreeInRow", "(I)Z"⟩
abbrev cX5_layRowMarks : ByteArray := prog_1_method_43_code
def yX5_layRowMarks : MethodName := ⟨RX5, "layRowMarks", "(III)V"⟩
abbrev cX5_layLate : ByteArray := prog_1_method_44_code
def yX5_layLate : MethodName := ⟨RX5, "layLate", "(II)I"⟩
def RX6 : String := "StackMarksModel"
def TX6 : u_T := fun k => match k with
  | 0 => ("StackMarksModel", "code", "I", false)
  | 1 => ("StackMarksModel", "items", "I", false)
  | 2 => ("StackMarksModel", "xs", "[I", true)
  | 3 => ("StackMarksModel", "lows", "[I", true)
  | 4 => ("StackMarksModel", "highs", "[I", true)
  | 5 => ("StackMarksModel", "voices", "[I", true)
  | 6 => ("StackMarksModel", "stems", "[I", true)
  | 7 => ("StackMarksModel", "rests", "[Z", true)
  | 8 => ("StackMarksModel", "kinds", "[I", true)
  | 9 => ("StackMarksModel", "marks", "I", false)
  | 10 => ("StackMarksModel", "ofItem", "[I", true)
  | 11 => ("StackMarksModel", "ofKind", "[I", true)
  | 12 => ("StackMarksModel", "wides", "[I", true)
  | 13 => ("StackMarksModel", "tall", "[I", true)
  | 14 => ("StackMarksModel", "gone", "[Z", true)
  | 15 => ("StackMarksModel", "laid", "[Z", true)
  | 16 => ("StackMarksModel", "inners", "[I", true)
  | 17 => ("StackMarksModel", "inRow", "[Z", true)
  | 18 => ("StackMarksModel", "turns", "[I", true)
  | 19 => ("StackMarksModel", "turn", "I", false)
  | 20 => ("StackMarksModel", "slurs", "I", false)
  | 21 => ("StackMarksModel", "begins", "[I", true)
  | 22 => ("StackMarksModel", "ends", "[I", true)
  | 23 => ("StackMarksModel", "slurSides", "[I", true)
  | 24 => ("StackMarksModel", "thick", "[I", true)
  | 25 => ("StackMarksModel", "slurInner", "[I", true)
  | 26 => ("StackMarksModel", "slursLaid", "I", false)
  | 27 => ("StackMarksModel", "hasRow", "[Z", true)
  | 28 => ("StackMarksModel", "rowInner", "[I", true)
  | 29 => ("StackMarksModel", "isPlaced", "Z", false)
  | _ => ("StackMarksModel", "list", "[I", true)
def tyX6 : Nat → FieldType := fun k => match k with
  | 0 => .int
  | 1 => .int
  | 2 => .array .int
  | 3 => .array .int
  | 4 => .array .int
  | 5 => .array .int
  | 6 => .array .int
  | 7 => .array .boolean
  | 8 => .array .int
  | 9 => .int
  | 10 => .array .int
  | 11 => .array .int
  | 12 => .array .int
  | 13 => .array .int
  | 14 => .array .boolean
  | 15 => .array .boolean
  | 16 => .array .int
  | 17 => .array .boolean
  | 18 => .array .int
  | 19 => .int
  | 20 => .int
  | 21 => .array .int
  | 22 => .array .int
  | 23 => .array .int
  | 24 => .array .int
  | 25 => .array .int
  | 26 => .int
  | 27 => .array .boolean
  | 28 => .array .int
  | 29 => .boolean
  | _ => .array .int
abbrev wsX60 : List Cond := u_ws RX6 TX6 31
theorem nmX6 : ∀ a, a < 31 → ∀ b, b < 31 → a ≠ b → (TX6 a).2.1 ≠ (TX6 b).2.1 := by decide +kernel
theorem tyX6_ok : ∀ k, k < 31 → parseFieldDescriptor (TX6 k).2.2.1 = some (tyX6 k) := by decide +kernel
abbrev cX6_init : ByteArray := prog_8_method_1_code
def yX6_init : MethodName := ⟨RX6, "<init>", "()V"⟩
abbrev cX6_thrown : ByteArray := prog_8_method_2_code
def yX6_thrown : MethodName := ⟨RX6, "thrown", "()I"⟩
abbrev cX6_in : ByteArray := prog_8_method_3_code
def yX6_in : MethodName := ⟨RX6, "in", "(III)Z"⟩
abbrev cX6_isSide : ByteArray := prog_8_method_4_code
def yX6_isSide : MethodName := ⟨RX6, "isSide", "(I)Z"⟩
abbrev cX6_isItem : ByteArray := prog_8_method_5_code
def yX6_isItem : MethodName := ⟨RX6, "isItem", "(I)Z"⟩
abbrev cX6_isMark : ByteArray := prog_8_method_6_code
def yX6_isMark : MethodName := ⟨RX6, "isMark", "(I)Z"⟩
abbrev cX6_isTaken : ByteArray := prog_8_method_7_code
def yX6_isTaken : MethodName := ⟨RX6, "isTaken", "(I)Z"⟩
abbrev cX6_come : ByteArray := prog_8_method_8_code
def yX6_come : MethodName := ⟨RX6, "come", "(IIIIIZ)I"⟩
abbrev cX6_note : ByteArray := prog_8_method_9_code
def yX6_note : MethodName := ⟨RX6, "note", "(IIIII)I"⟩
abbrev cX6_rest : ByteArray := prog_8_method_10_code
def yX6_rest : MethodName := ⟨RX6, "rest", "(III)I"⟩
abbrev cX6_lift : ByteArray := prog_8_method_11_code
def yX6_lift : MethodName := ⟨RX6, "lift", "(II)I"⟩
abbrev cX6_most : ByteArray := prog_8_method_12_code
def yX6_most : MethodName := ⟨RX6, "most", "(I)I"⟩
abbrev cX6_set : ByteArray := prog_8_method_13_code
def yX6_set : MethodName := ⟨RX6, "set", "(III)I"⟩
abbrev cX6_mark : ByteArray := prog_8_method_14_code
def yX6_mark : MethodName := ⟨RX6, "mark", "(IIII)I"⟩
abbrev cX6_drop : ByteArray := prog_8_method_15_code
def yX6_drop : MethodName := ⟨RX6, "drop", "(I)I"⟩
abbrev cX6_slur : ByteArray := prog_8_method_16_code
def yX6_slur : MethodName := ⟨RX6, "slur", "(IIII)I"⟩
abbrev cX6_areBoth : ByteArray := prog_8_method_17_code
def yX6_areBoth : MethodName := ⟨RX6, "areBoth", "()Z"⟩
abbrev cX6_sideOf : ByteArray := prog_8_method_18_code
def yX6_sideOf : MethodName := ⟨RX6, "sideOf", "(I)I"⟩
abbrev cX6_left : ByteArray := prog_8_method_19_code
def yX6_left : MethodName := ⟨RX6, "left", "(I)I"⟩
abbrev cX6_above : ByteArray := prog_8_method_20_code
def yX6_above : MethodName := ⟨RX6, "above", "(IIIIII)I"⟩
abbrev cX6_greatest : ByteArray := prog_8_method_21_code
def yX6_greatest : MethodName := ⟨RX6, "greatest", "(III)I"⟩
abbrev cX6_own : ByteArray := prog_8_method_22_code
def yX6_own : MethodName := ⟨RX6, "own", "(I)I"⟩
abbrev cX6_lie : ByteArray := prog_8_method_23_code
def yX6_lie : MethodName := ⟨RX6, "lie", "(IIZ)V"⟩
abbrev cX6_isAhead : ByteArray := prog_8_method_24_code
def yX6_isAhead : MethodName := ⟨RX6, "isAhead", "(II)Z"⟩
abbrev cX6_cover : ByteArray := prog_8_method_25_code
def yX6_cover : MethodName := ⟨RX6, "cover", "(II)Z"⟩
abbrev cX6_gather : ByteArray := prog_8_method_26_code
def yX6_gather : MethodName := ⟨RX6, "gather", "(II)I"⟩
abbrev cX6_lieRow : ByteArray := prog_8_method_27_code
def yX6_lieRow : MethodName := ⟨RX6, "lieRow", "(II)I"⟩
abbrev cX6_place : ByteArray := prog_8_method_28_code
def yX6_place : MethodName := ⟨RX6, "place", "()I"⟩
abbrev cX6_throwsNow : ByteArray := prog_8_method_29_code
def yX6_throwsNow : MethodName := ⟨RX6, "throwsNow", "()Z"⟩
abbrev cX6_at : ByteArray := prog_8_method_30_code
def yX6_at : MethodName := ⟨RX6, "at", "(II)I"⟩
abbrev cX6_slurAt : ByteArray := prog_8_method_31_code
def yX6_slurAt : MethodName := ⟨RX6, "slurAt", "(II)I"⟩
abbrev cX6_skyline : ByteArray := prog_8_method_32_code
def yX6_skyline : MethodName := ⟨RX6, "skyline", "(II)I"⟩
abbrev cX6_row : ByteArray := prog_8_method_33_code
def yX6_row : MethodName := ⟨RX6, "row", "(II)I"⟩
abbrev cX6_order : ByteArray := prog_8_method_34_code
def yX6_order : MethodName := ⟨RX6, "order", "(III)I"⟩
abbrev cX6_meets : ByteArray := prog_8_method_35_code
def yX6_meets : MethodName := ⟨RX6, "meets", "(II)I"⟩
abbrev cX6_nextOf : ByteArray := prog_8_method_36_code
def yX6_nextOf : MethodName := ⟨RX6, "nextOf", "(I)I"⟩
abbrev cX6_lacks : ByteArray := prog_8_method_37_code
def yX6_lacks : MethodName := ⟨RX6, "lacks", "(I)I"⟩
abbrev cX6_wide : ByteArray := prog_8_method_38_code
def yX6_wide : MethodName := ⟨RX6, "wide", "(I)I"⟩
abbrev cX6_push : ByteArray := prog_8_method_39_code
def yX6_push : MethodName := ⟨RX6, "push", "(I)I"⟩
abbrev cX6_marksOf : ByteArray := prog_8_method_40_code
def yX6_marksOf : MethodName := ⟨RX6, "marksOf", "(I)I"⟩
abbrev cX6_item : ByteArray := prog_8_method_41_code
def yX6_item : MethodName := ⟨RX6, "item", "(II)I"⟩
abbrev cX6_outermost : ByteArray := prog_8_method_42_code
def yX6_outermost : MethodName := ⟨RX6, "outermost", "(I)I"⟩
abbrev cX6_count : ByteArray := prog_8_method_43_code
def yX6_count : MethodName := ⟨RX6, "count", "(I)I"⟩
def RJ9 : String := "java/lang/Math"
def TJ9 : u_T := fun k => match k with
  | _ => ("", "", "", false)
def tyJ9 : Nat → FieldType := fun k => match k with
  | _ => .int
abbrev wsJ90 : List Cond := u_ws RJ9 TJ9 0
theorem nmJ9 : ∀ a, a < 0 → ∀ b, b < 0 → a ≠ b → (TJ9 a).2.1 ≠ (TJ9 b).2.1 := by decide +kernel
theorem tyJ9_ok : ∀ k, k < 0 → parseFieldDescriptor (TJ9 k).2.2.1 = some (tyJ9 k) := by decide +kernel
abbrev cJ9_max_7cf53 : ByteArray := prog_11_method_65_code
def yJ9_max_7cf53 : MethodName := ⟨RJ9, "max", "(II)I"⟩
def RJ0 : String := "java/lang/String"
def TJ0 : u_T := fun k => match k with
  | _ => ("", "", "", false)
def tyJ0 : Nat → FieldType := fun k => match k with
  | _ => .int
abbrev wsJ00 : List Cond := u_ws RJ0 TJ0 0
theorem nmJ0 : ∀ a, a < 0 → ∀ b, b < 0 → a ≠ b → (TJ0 a).2.1 ≠ (TJ0 b).2.1 := by decide +kernel
theorem tyJ0_ok : ∀ k, k < 0 → parseFieldDescriptor (TJ0 k).2.2.1 = some (tyJ0 k) := by decide +kernel
def RL : String := "StackMarksLaw"
abbrev cL_at : ByteArray := method_3_code
def yL_at : MethodName := ⟨RL, "at", "(LStackMarks;II[J)I"⟩
abbrev cL_slurAt : ByteArray := method_4_code
def yL_slurAt : MethodName := ⟨RL, "slurAt", "(LStackMarks;II[J)I"⟩
abbrev cL_skyline : ByteArray := method_5_code
def yL_skyline : MethodName := ⟨RL, "skyline", "(LStackMarks;II[J)I"⟩
abbrev cL_row : ByteArray := method_6_code
def yL_row : MethodName := ⟨RL, "row", "(LStackMarks;II[J)I"⟩
abbrev cL_order : ByteArray := method_7_code
def yL_order : MethodName := ⟨RL, "order", "(LStackMarks;III[J)I"⟩
abbrev cL_meets : ByteArray := method_8_code
def yL_meets : MethodName := ⟨RL, "meets", "(LStackMarks;II[J)I"⟩
abbrev cL_count : ByteArray := method_9_code
def yL_count : MethodName := ⟨RL, "count", "(LStackMarks;I[J)I"⟩
abbrev cL_law : ByteArray := code
def yL_law : MethodName := ⟨RL, "law", "([I)Z"⟩
abbrev vwCl : List vw_C := [(RX0, TX0, 7), (RX1, TX1, 1), (RX2, TX2, 12), (RX3, TX3, 6), (RX4, TX4, 7), (RX5, TX5, 10), (RX6, TX6, 31)]
end
section
/-! the good words of the tables, and where each stands -/
def wA : List Cond := lw_tbl.filter goodWord
theorem tw1 {w : Cond} (i : Nat) (h : tables_1_1[i]? = some w) (hg : goodWord w = true) : w ∈ wA := List.mem_filter.mpr ⟨List.mem_append_right _ (List.mem_append_left _ (List.mem_of_getElem? h)), hg⟩
theorem tw2 {w : Cond} (i : Nat) (h : tables_1_2[i]? = some w) (hg : goodWord w = true) : w ∈ wA := List.mem_filter.mpr ⟨List.mem_append_right _ (List.mem_append_right _ (List.mem_append_left _ (List.mem_of_getElem? h))), hg⟩
theorem tw3 {w : Cond} (i : Nat) (h : tables_1_3[i]? = some w) (hg : goodWord w = true) : w ∈ wA := List.mem_filter.mpr ⟨List.mem_append_right _ (List.mem_append_right _ (List.mem_append_right _ (List.mem_append_left _ (List.mem_of_getElem? h)))), hg⟩
theorem tw4 {w : Cond} (i : Nat) (h : tables_1_4[i]? = some w) (hg : goodWord w = true) : w ∈ wA := List.mem_filter.mpr ⟨List.mem_append_right _ (List.mem_append_right _ (List.mem_append_right _ (List.mem_append_right _ (List.mem_of_getElem? h)))), hg⟩
theorem twp {w : Cond} (i : Nat) (h : (k2_sels lw_privs)[i]? = some w) (hg : goodWord w = true) : w ∈ wA := List.mem_filter.mpr ⟨List.mem_append_left _ (List.mem_of_getElem? h), hg⟩
theorem wA_good : ∀ w ∈ wA, goodWord w = true := fun _ h => (List.mem_filter.mp h).2
theorem wA_in : ∀ w ∈ wA, w ∈ lw_tbl := fun _ h => (List.mem_filter.mp h).1
theorem kn_L : Cond.initialized RL ∈ wA := tw1 0 (by decide +kernel) (by decide +kernel)
theorem kn_X5 : Cond.initialized RX5 ∈ wA := tw1 1 (by decide +kernel) (by decide +kernel)
theorem kn_X0 : Cond.initialized RX0 ∈ wA := tw1 2 (by decide +kernel) (by decide +kernel)
theorem kn_X1 : Cond.initialized RX1 ∈ wA := tw1 3 (by decide +kernel) (by decide +kernel)
theorem kn_X2 : Cond.initialized RX2 ∈ wA := tw1 4 (by decide +kernel) (by decide +kernel)
theorem kn_X4 : Cond.initialized RX4 ∈ wA := tw1 5 (by decide +kernel) (by decide +kernel)
theorem kn_X3 : Cond.initialized RX3 ∈ wA := tw1 6 (by decide +kernel) (by decide +kernel)
theorem kn_X6 : Cond.initialized RX6 ∈ wA := tw1 7 (by decide +kernel) (by decide +kernel)
theorem km_n : Cond.initialized "java/lang/Math" ∈ wA := tw1 8 (by decide +kernel) (by decide +kernel)
theorem kl_L_35 : Cond.methodLink RL 35 yX5_init ∈ wA := tw1 15 (by decide +kernel) (by decide +kernel)
theorem ki_X5_init : Cond.instanceMethod yX5_init ∈ wA := tw1 16 (by decide +kernel) (by decide +kernel)
theorem kc_X5_init : Cond.code yX5_init cX5_init 1 none ∈ wA := tw1 17 (by decide +kernel) (by decide +kernel)
theorem ki_X0_init : Cond.instanceMethod yX0_init ∈ wA := tw1 24 (by decide +kernel) (by decide +kernel)
theorem kc_X0_init : Cond.code yX0_init cX0_init 1 none ∈ wA := tw1 25 (by decide +kernel) (by decide +kernel)
theorem kf_X0_9 : Cond.fieldLink RX0 9 "StackMarks$Items" "x" "[I" ∈ wA := tw1 27 (by decide +kernel) (by decide +kernel)
theorem kf_X0_15 : Cond.fieldLink RX0 15 "StackMarks$Items" "low" "[I" ∈ wA := tw1 29 (by decide +kernel) (by decide +kernel)
theorem kf_X0_18 : Cond.fieldLink RX0 18 "StackMarks$Items" "high" "[I" ∈ wA := tw1 31 (by decide +kernel) (by decide +kernel)
theorem kf_X0_21 : Cond.fieldLink RX0 21 "StackMarks$Items" "voice" "[I" ∈ wA := tw1 33 (by decide +kernel) (by decide +kernel)
theorem kf_X0_24 : Cond.fieldLink RX0 24 "StackMarks$Items" "stem" "[I" ∈ wA := tw1 35 (by decide +kernel) (by decide +kernel)
theorem kf_X0_27 : Cond.fieldLink RX0 27 "StackMarks$Items" "rest" "[I" ∈ wA := tw1 37 (by decide +kernel) (by decide +kernel)
theorem kf_X0_30 : Cond.fieldLink RX0 30 "StackMarks$Items" "count" "I" ∈ wA := tw1 39 (by decide +kernel) (by decide +kernel)
theorem ki_X1_init : Cond.instanceMethod yX1_init ∈ wA := tw1 60 (by decide +kernel) (by decide +kernel)
theorem kc_X1_init : Cond.code yX1_init cX1_init 3 none ∈ wA := tw1 61 (by decide +kernel) (by decide +kernel)
theorem kf_X1_13 : Cond.fieldLink RX1 13 "StackMarks$Kinds" "AT_FIRST" "[I" ∈ wA := tw1 63 (by decide +kernel) (by decide +kernel)
theorem kf_X1_9 : Cond.fieldLink RX1 9 "StackMarks$Kinds" "settings" "[I" ∈ wA := tw1 65 (by decide +kernel) (by decide +kernel)
theorem ki_X2_init : Cond.instanceMethod yX2_init ∈ wA := tw1 72 (by decide +kernel) (by decide +kernel)
theorem kc_X2_init : Cond.code yX2_init cX2_init 1 none ∈ wA := tw1 73 (by decide +kernel) (by decide +kernel)
theorem kf_X2_9 : Cond.fieldLink RX2 9 "StackMarks$Marks" "item" "[I" ∈ wA := tw1 75 (by decide +kernel) (by decide +kernel)
theorem kf_X2_15 : Cond.fieldLink RX2 15 "StackMarks$Marks" "kind" "[I" ∈ wA := tw1 77 (by decide +kernel) (by decide +kernel)
theorem kf_X2_18 : Cond.fieldLink RX2 18 "StackMarks$Marks" "width" "[I" ∈ wA := tw1 79 (by decide +kernel) (by decide +kernel)
theorem kf_X2_21 : Cond.fieldLink RX2 21 "StackMarks$Marks" "height" "[I" ∈ wA := tw1 81 (by decide +kernel) (by decide +kernel)
theorem kf_X2_24 : Cond.fieldLink RX2 24 "StackMarks$Marks" "gone" "[Z" ∈ wA := tw1 83 (by decide +kernel) (by decide +kernel)
theorem kf_X2_28 : Cond.fieldLink RX2 28 "StackMarks$Marks" "left" "[I" ∈ wA := tw1 85 (by decide +kernel) (by decide +kernel)
theorem kf_X2_31 : Cond.fieldLink RX2 31 "StackMarks$Marks" "side" "[I" ∈ wA := tw1 87 (by decide +kernel) (by decide +kernel)
theorem kf_X2_34 : Cond.fieldLink RX2 34 "StackMarks$Marks" "inner" "[I" ∈ wA := tw1 89 (by decide +kernel) (by decide +kernel)
theorem kf_X2_37 : Cond.fieldLink RX2 37 "StackMarks$Marks" "outer" "[I" ∈ wA := tw1 91 (by decide +kernel) (by decide +kernel)
theorem kf_X2_40 : Cond.fieldLink RX2 40 "StackMarks$Marks" "inRow" "[Z" ∈ wA := tw1 93 (by decide +kernel) (by decide +kernel)
theorem kf_X2_43 : Cond.fieldLink RX2 43 "StackMarks$Marks" "turn" "[I" ∈ wA := tw1 95 (by decide +kernel) (by decide +kernel)
theorem kf_X2_46 : Cond.fieldLink RX2 46 "StackMarks$Marks" "count" "I" ∈ wA := tw1 97 (by decide +kernel) (by decide +kernel)
theorem ki_X4_init : Cond.instanceMethod yX4_init ∈ wA := tw1 128 (by decide +kernel) (by decide +kernel)
theorem kc_X4_init : Cond.code yX4_init cX4_init 1 none ∈ wA := tw1 129 (by decide +kernel) (by decide +kernel)
theorem kf_X4_9 : Cond.fieldLink RX4 9 "StackMarks$Slurs" "from" "[I" ∈ wA := tw1 131 (by decide +kernel) (by decide +kernel)
theorem kf_X4_15 : Cond.fieldLink RX4 15 "StackMarks$Slurs" "to" "[I" ∈ wA := tw1 133 (by decide +kernel) (by decide +kernel)
theorem kf_X4_18 : Cond.fieldLink RX4 18 "StackMarks$Slurs" "side" "[I" ∈ wA := tw1 135 (by decide +kernel) (by decide +kernel)
theorem kf_X4_21 : Cond.fieldLink RX4 21 "StackMarks$Slurs" "thickness" "[I" ∈ wA := tw1 137 (by decide +kernel) (by decide +kernel)
theorem kf_X4_24 : Cond.fieldLink RX4 24 "StackMarks$Slurs" "inner" "[I" ∈ wA := tw1 139 (by decide +kernel) (by decide +kernel)
theorem kf_X4_27 : Cond.fieldLink RX4 27 "StackMarks$Slurs" "outer" "[I" ∈ wA := tw1 141 (by decide +kernel) (by decide +kernel)
theorem kf_X4_30 : Cond.fieldLink RX4 30 "StackMarks$Slurs" "count" "I" ∈ wA := tw1 143 (by decide +kernel) (by decide +kernel)
theorem ki_X3_init : Cond.instanceMethod yX3_init ∈ wA := tw1 163 (by decide +kernel) (by decide +kernel)
theorem kc_X3_init : Cond.code yX3_init cX3_init 1 none ∈ wA := tw1 164 (by decide +kernel) (by decide +kernel)
theorem kf_X3_11 : Cond.fieldLink RX3 11 "StackMarks$Outline" "first" "[I" ∈ wA := tw1 166 (by decide +kernel) (by decide +kernel)
theorem kf_X3_15 : Cond.fieldLink RX3 15 "StackMarks$Outline" "last" "[I" ∈ wA := tw1 167 (by decide +kernel) (by decide +kernel)
theorem kf_X3_18 : Cond.fieldLink RX3 18 "StackMarks$Outline" "height" "[I" ∈ wA := tw1 168 (by decide +kernel) (by decide +kernel)
theorem kf_X3_23 : Cond.fieldLink RX3 23 "StackMarks$Outline" "rowInner" "[I" ∈ wA := tw1 169 (by decide +kernel) (by decide +kernel)
theorem kf_X3_26 : Cond.fieldLink RX3 26 "StackMarks$Outline" "blocks" "I" ∈ wA := tw1 171 (by decide +kernel) (by decide +kernel)
theorem kf_X3_30 : Cond.fieldLink RX3 30 "StackMarks$Outline" "outermost" "I" ∈ wA := tw1 172 (by decide +kernel) (by decide +kernel)
theorem kf_X5_10 : Cond.fieldLink RX5 10 "StackMarks" "items" "LStackMarks$Items;" ∈ wA := tw1 187 (by decide +kernel) (by decide +kernel)
theorem kf_X5_19 : Cond.fieldLink RX5 19 "StackMarks" "kinds" "LStackMarks$Kinds;" ∈ wA := tw1 188 (by decide +kernel) (by decide +kernel)
theorem kf_X5_26 : Cond.fieldLink RX5 26 "StackMarks" "marks" "LStackMarks$Marks;" ∈ wA := tw1 189 (by decide +kernel) (by decide +kernel)
theorem kf_X5_33 : Cond.fieldLink RX5 33 "StackMarks" "slurs" "LStackMarks$Slurs;" ∈ wA := tw1 190 (by decide +kernel) (by decide +kernel)
theorem kf_X5_40 : Cond.fieldLink RX5 40 "StackMarks" "above" "LStackMarks$Outline;" ∈ wA := tw1 191 (by decide +kernel) (by decide +kernel)
theorem kf_X5_44 : Cond.fieldLink RX5 44 "StackMarks" "below" "LStackMarks$Outline;" ∈ wA := tw1 192 (by decide +kernel) (by decide +kernel)
theorem kf_X5_47 : Cond.fieldLink RX5 47 "StackMarks" "queue" "[I" ∈ wA := tw1 193 (by decide +kernel) (by decide +kernel)
theorem kf_X5_266 : Cond.fieldLink RX5 266 "StackMarks" "queued" "I" ∈ wA := tw1 194 (by decide +kernel) (by decide +kernel)
theorem kf_X5_287 : Cond.fieldLink RX5 287 "StackMarks" "turns" "I" ∈ wA := tw1 195 (by decide +kernel) (by decide +kernel)
theorem kf_X5_73 : Cond.fieldLink RX5 73 "StackMarks" "placed" "Z" ∈ wA := tw1 196 (by decide +kernel) (by decide +kernel)
theorem kl_L_39 : Cond.methodLink RL 39 yX5_note ∈ wA := tw1 218 (by decide +kernel) (by decide +kernel)
theorem ki_X5_note : Cond.instanceMethod yX5_note ∈ wA := tw1 219 (by decide +kernel) (by decide +kernel)
theorem ks_X5_note : Cond.selects RX5 yX5_note yX5_note ∈ wA := tw1 220 (by decide +kernel) (by decide +kernel)
theorem kc_X5_note : Cond.code yX5_note cX5_note 6 (some .int) ∈ wA := tw1 221 (by decide +kernel) (by decide +kernel)
theorem kl_X5_51 : Cond.methodLink RX5 51 yX5_isHead ∈ wA := tw1 222 (by decide +kernel) (by decide +kernel)
theorem kt_X5_isHead : Cond.static yX5_isHead ∈ wA := tw1 223 (by decide +kernel) (by decide +kernel)
theorem kc_X5_isHead : Cond.code yX5_isHead cX5_isHead 1 (some .boolean) ∈ wA := tw1 224 (by decide +kernel) (by decide +kernel)
theorem kl_X5_55 : Cond.methodLink RX5 55 yX5_isWithin ∈ wA := tw1 225 (by decide +kernel) (by decide +kernel)
theorem kt_X5_isWithin : Cond.static yX5_isWithin ∈ wA := tw1 226 (by decide +kernel) (by decide +kernel)
theorem kc_X5_isWithin : Cond.code yX5_isWithin cX5_isWithin 3 (some .boolean) ∈ wA := tw1 227 (by decide +kernel) (by decide +kernel)
theorem kk_X5_59 : Cond.constant RX5 59 (-100001) ∈ wA := tw1 228 (by decide +kernel) (by decide +kernel)
theorem kl_X5_60 : Cond.methodLink RX5 60 yX5_addItem ∈ wA := tw1 229 (by decide +kernel) (by decide +kernel)
theorem ki_X5_addItem : Cond.instanceMethod yX5_addItem ∈ wA := tw1 231 (by decide +kernel) (by decide +kernel)
theorem kc_X5_addItem : Cond.code yX5_addItem cX5_addItem 7 (some .int) ∈ wA := tw1 232 (by decide +kernel) (by decide +kernel)
theorem kk_X5_180 : Cond.constant RX5 180 (100000) ∈ wA := tw1 233 (by decide +kernel) (by decide +kernel)
theorem ki_X0_isAt : Cond.instanceMethod yX0_isAt ∈ wA := tw1 236 (by decide +kernel) (by decide +kernel)
theorem kc_X0_isAt : Cond.code yX0_isAt cX0_isAt 3 (some .boolean) ∈ wA := tw1 237 (by decide +kernel) (by decide +kernel)
theorem kk_X5_90 : Cond.constant RX5 90 (-100002) ∈ wA := tw1 238 (by decide +kernel) (by decide +kernel)
theorem ki_X0_add : Cond.instanceMethod yX0_add ∈ wA := tw2 1 (by decide +kernel) (by decide +kernel)
theorem kc_X0_add : Cond.code yX0_add cX0_add 8 (some .int) ∈ wA := tw2 2 (by decide +kernel) (by decide +kernel)
theorem kl_L_44 : Cond.methodLink RL 44 yX5_rest ∈ wA := tw2 3 (by decide +kernel) (by decide +kernel)
theorem ki_X5_rest : Cond.instanceMethod yX5_rest ∈ wA := tw2 4 (by decide +kernel) (by decide +kernel)
theorem ks_X5_rest : Cond.selects RX5 yX5_rest yX5_rest ∈ wA := tw2 5 (by decide +kernel) (by decide +kernel)
theorem kc_X5_rest : Cond.code yX5_rest cX5_rest 4 (some .int) ∈ wA := tw2 6 (by decide +kernel) (by decide +kernel)
theorem kl_L_48 : Cond.methodLink RL 48 yX5_lift ∈ wA := tw2 7 (by decide +kernel) (by decide +kernel)
theorem ki_X5_lift : Cond.instanceMethod yX5_lift ∈ wA := tw2 8 (by decide +kernel) (by decide +kernel)
theorem ks_X5_lift : Cond.selects RX5 yX5_lift yX5_lift ∈ wA := tw2 9 (by decide +kernel) (by decide +kernel)
theorem kc_X5_lift : Cond.code yX5_lift cX5_lift 3 (some .int) ∈ wA := tw2 10 (by decide +kernel) (by decide +kernel)
theorem ki_X0_has : Cond.instanceMethod yX0_has ∈ wA := tw2 13 (by decide +kernel) (by decide +kernel)
theorem kc_X0_has : Cond.code yX0_has cX0_has 2 (some .boolean) ∈ wA := tw2 14 (by decide +kernel) (by decide +kernel)
theorem kl_L_52 : Cond.methodLink RL 52 yX5_set ∈ wA := tw2 15 (by decide +kernel) (by decide +kernel)
theorem ki_X5_set : Cond.instanceMethod yX5_set ∈ wA := tw2 16 (by decide +kernel) (by decide +kernel)
theorem ks_X5_set : Cond.selects RX5 yX5_set yX5_set ∈ wA := tw2 17 (by decide +kernel) (by decide +kernel)
theorem kc_X5_set : Cond.code yX5_set cX5_set 4 (some .int) ∈ wA := tw2 18 (by decide +kernel) (by decide +kernel)
theorem ki_X1_has : Cond.instanceMethod yX1_has ∈ wA := tw2 21 (by decide +kernel) (by decide +kernel)
theorem kc_X1_has : Cond.code yX1_has cX1_has 2 (some .boolean) ∈ wA := tw2 22 (by decide +kernel) (by decide +kernel)
theorem ki_X1_takes : Cond.instanceMethod yX1_takes ∈ wA := tw2 25 (by decide +kernel) (by decide +kernel)
theorem kc_X1_takes : Cond.code yX1_takes cX1_takes 3 (some .boolean) ∈ wA := tw2 26 (by decide +kernel) (by decide +kernel)
theorem kf_X1_16 : Cond.fieldLink RX1 16 "StackMarks$Kinds" "MOST" "[I" ∈ wA := tw2 27 (by decide +kernel) (by decide +kernel)
theorem ki_X1_change : Cond.instanceMethod yX1_change ∈ wA := tw2 31 (by decide +kernel) (by decide +kernel)
theorem kc_X1_change : Cond.code yX1_change cX1_change 5 (some .int) ∈ wA := tw2 32 (by decide +kernel) (by decide +kernel)
theorem kl_X1_19 : Cond.methodLink RX1 19 yX1_get ∈ wA := tw2 33 (by decide +kernel) (by decide +kernel)
theorem ki_X1_get : Cond.instanceMethod yX1_get ∈ wA := tw2 35 (by decide +kernel) (by decide +kernel)
theorem kc_X1_get : Cond.code yX1_get cX1_get 3 (some .int) ∈ wA := tw2 36 (by decide +kernel) (by decide +kernel)
theorem kl_L_56 : Cond.methodLink RL 56 yX5_mark ∈ wA := tw2 37 (by decide +kernel) (by decide +kernel)
theorem ki_X5_mark : Cond.instanceMethod yX5_mark ∈ wA := tw2 38 (by decide +kernel) (by decide +kernel)
theorem ks_X5_mark : Cond.selects RX5 yX5_mark yX5_mark ∈ wA := tw2 39 (by decide +kernel) (by decide +kernel)
theorem kc_X5_mark : Cond.code yX5_mark cX5_mark 5 (some .int) ∈ wA := tw2 40 (by decide +kernel) (by decide +kernel)
theorem ki_X2_add : Cond.instanceMethod yX2_add ∈ wA := tw2 43 (by decide +kernel) (by decide +kernel)
theorem kc_X2_add : Cond.code yX2_add cX2_add 6 (some .int) ∈ wA := tw2 44 (by decide +kernel) (by decide +kernel)
theorem kl_L_61 : Cond.methodLink RL 61 yX5_drop ∈ wA := tw2 45 (by decide +kernel) (by decide +kernel)
theorem ki_X5_drop : Cond.instanceMethod yX5_drop ∈ wA := tw2 46 (by decide +kernel) (by decide +kernel)
theorem ks_X5_drop : Cond.selects RX5 yX5_drop yX5_drop ∈ wA := tw2 47 (by decide +kernel) (by decide +kernel)
theorem kc_X5_drop : Cond.code yX5_drop cX5_drop 2 (some .int) ∈ wA := tw2 48 (by decide +kernel) (by decide +kernel)
theorem ki_X2_has : Cond.instanceMethod yX2_has ∈ wA := tw2 51 (by decide +kernel) (by decide +kernel)
theorem kc_X2_has : Cond.code yX2_has cX2_has 2 (some .boolean) ∈ wA := tw2 52 (by decide +kernel) (by decide +kernel)
theorem kl_L_65 : Cond.methodLink RL 65 yX5_slur ∈ wA := tw2 53 (by decide +kernel) (by decide +kernel)
theorem ki_X5_slur : Cond.instanceMethod yX5_slur ∈ wA := tw2 54 (by decide +kernel) (by decide +kernel)
theorem ks_X5_slur : Cond.selects RX5 yX5_slur yX5_slur ∈ wA := tw2 55 (by decide +kernel) (by decide +kernel)
theorem kc_X5_slur : Cond.code yX5_slur cX5_slur 5 (some .int) ∈ wA := tw2 56 (by decide +kernel) (by decide +kernel)
theorem kl_X5_103 : Cond.methodLink RX5 103 yX5_isSide ∈ wA := tw2 57 (by decide +kernel) (by decide +kernel)
theorem kt_X5_isSide : Cond.static yX5_isSide ∈ wA := tw2 58 (by decide +kernel) (by decide +kernel)
theorem kc_X5_isSide : Cond.code yX5_isSide cX5_isSide 1 (some .boolean) ∈ wA := tw2 59 (by decide +kernel) (by decide +kernel)
theorem ki_X4_add : Cond.instanceMethod yX4_add ∈ wA := tw2 62 (by decide +kernel) (by decide +kernel)
theorem kc_X4_add : Cond.code yX4_add cX4_add 6 (some .int) ∈ wA := tw2 63 (by decide +kernel) (by decide +kernel)
theorem kl_L_69 : Cond.methodLink RL 69 yX5_place ∈ wA := tw2 64 (by decide +kernel) (by decide +kernel)
theorem ki_X5_place : Cond.instanceMethod yX5_place ∈ wA := tw2 65 (by decide +kernel) (by decide +kernel)
theorem ks_X5_place : Cond.selects RX5 yX5_place yX5_place ∈ wA := tw2 66 (by decide +kernel) (by decide +kernel)
theorem kc_X5_place : Cond.code yX5_place cX5_place 2 (some .int) ∈ wA := tw2 67 (by decide +kernel) (by decide +kernel)
theorem ki_X3_clear : Cond.instanceMethod yX3_clear ∈ wA := tw2 70 (by decide +kernel) (by decide +kernel)
theorem kc_X3_clear : Cond.code yX3_clear cX3_clear 2 none ∈ wA := tw2 71 (by decide +kernel) (by decide +kernel)
theorem kk_X3_33 : Cond.constant RX3 33 (-100003) ∈ wA := tw2 72 (by decide +kernel) (by decide +kernel)
theorem kl_X5_111 : Cond.methodLink RX5 111 yX5_coverItems ∈ wA := tw2 73 (by decide +kernel) (by decide +kernel)
theorem ki_X5_coverItems : Cond.instanceMethod yX5_coverItems ∈ wA := tw2 75 (by decide +kernel) (by decide +kernel)
theorem kc_X5_coverItems : Cond.code yX5_coverItems cX5_coverItems 2 none ∈ wA := tw2 76 (by decide +kernel) (by decide +kernel)
theorem kl_X5_238 : Cond.methodLink RX5 238 yX5_coverHeads ∈ wA := tw2 77 (by decide +kernel) (by decide +kernel)
theorem ki_X5_coverHeads : Cond.instanceMethod yX5_coverHeads ∈ wA := tw2 79 (by decide +kernel) (by decide +kernel)
theorem kc_X5_coverHeads : Cond.code yX5_coverHeads cX5_coverHeads 5 none ∈ wA := tw2 80 (by decide +kernel) (by decide +kernel)
theorem ki_X3_cover : Cond.instanceMethod yX3_cover ∈ wA := tw2 83 (by decide +kernel) (by decide +kernel)
theorem kc_X3_cover : Cond.code yX3_cover cX3_cover 4 none ∈ wA := tw2 84 (by decide +kernel) (by decide +kernel)
theorem kl_X5_242 : Cond.methodLink RX5 242 yX5_coverStem ∈ wA := tw2 85 (by decide +kernel) (by decide +kernel)
theorem ki_X5_coverStem : Cond.instanceMethod yX5_coverStem ∈ wA := tw2 87 (by decide +kernel) (by decide +kernel)
theorem kc_X5_coverStem : Cond.code yX5_coverStem cX5_coverStem 3 none ∈ wA := tw2 88 (by decide +kernel) (by decide +kernel)
theorem kl_X5_114 : Cond.methodLink RX5 114 yX5_laySlurs ∈ wA := tw2 89 (by decide +kernel) (by decide +kernel)
theorem ki_X5_laySlurs : Cond.instanceMethod yX5_laySlurs ∈ wA := tw2 91 (by decide +kernel) (by decide +kernel)
theorem kc_X5_laySlurs : Cond.code yX5_laySlurs cX5_laySlurs 7 none ∈ wA := tw2 92 (by decide +kernel) (by decide +kernel)
theorem kl_X5_153 : Cond.methodLink RX5 153 yX5_outline ∈ wA := tw2 93 (by decide +kernel) (by decide +kernel)
theorem ki_X5_outline : Cond.instanceMethod yX5_outline ∈ wA := tw2 95 (by decide +kernel) (by decide +kernel)
theorem kc_X5_outline : Cond.code yX5_outline cX5_outline 2 (some (.object "StackMarks$Outline")) ∈ wA := tw2 96 (by decide +kernel) (by decide +kernel)
theorem ki_X3_greatest : Cond.instanceMethod yX3_greatest ∈ wA := tw2 99 (by decide +kernel) (by decide +kernel)
theorem kc_X3_greatest : Cond.code yX3_greatest cX3_greatest 5 (some .int) ∈ wA := tw2 100 (by decide +kernel) (by decide +kernel)
theorem km_X3_34 : Cond.methodLink RX3 34 Lib.Math.max.name ∈ wA := tw2 101 (by decide +kernel) (by decide +kernel)
theorem km_s : Cond.static Lib.Math.max.name ∈ wA := tw2 102 (by decide +kernel) (by decide +kernel)
theorem km_c : Cond.code Lib.Math.max.name Lib.Math.max.code 2 (some .int) ∈ wA := tw2 103 (by decide +kernel) (by decide +kernel)
theorem ki_X3_reachOut : Cond.instanceMethod yX3_reachOut ∈ wA := tw2 106 (by decide +kernel) (by decide +kernel)
theorem kc_X3_reachOut : Cond.code yX3_reachOut cX3_reachOut 2 none ∈ wA := tw2 107 (by decide +kernel) (by decide +kernel)
theorem kl_X5_117 : Cond.methodLink RX5 117 yX5_queueMarks ∈ wA := tw2 108 (by decide +kernel) (by decide +kernel)
theorem ki_X5_queueMarks : Cond.instanceMethod yX5_queueMarks ∈ wA := tw2 110 (by decide +kernel) (by decide +kernel)
theorem kc_X5_queueMarks : Cond.code yX5_queueMarks cX5_queueMarks 3 none ∈ wA := tw2 111 (by decide +kernel) (by decide +kernel)
theorem ki_X0_haveBothVoices : Cond.instanceMethod yX0_haveBothVoices ∈ wA := tw2 114 (by decide +kernel) (by decide +kernel)
theorem kc_X0_haveBothVoices : Cond.code yX0_haveBothVoices cX0_haveBothVoices 3 (some .boolean) ∈ wA := tw2 115 (by decide +kernel) (by decide +kernel)
theorem kl_X5_269 : Cond.methodLink RX5 269 yX5_leftEdge ∈ wA := tw2 116 (by decide +kernel) (by decide +kernel)
theorem ki_X5_leftEdge : Cond.instanceMethod yX5_leftEdge ∈ wA := tw2 118 (by decide +kernel) (by decide +kernel)
theorem kc_X5_leftEdge : Cond.code yX5_leftEdge cX5_leftEdge 3 (some .int) ∈ wA := tw2 119 (by decide +kernel) (by decide +kernel)
theorem ki_X1_liesFromX : Cond.instanceMethod yX1_liesFromX ∈ wA := tw2 122 (by decide +kernel) (by decide +kernel)
theorem kc_X1_liesFromX : Cond.code yX1_liesFromX cX1_liesFromX 2 (some .boolean) ∈ wA := tw2 123 (by decide +kernel) (by decide +kernel)
theorem kl_X5_272 : Cond.methodLink RX5 272 yX5_chooseSide ∈ wA := tw2 124 (by decide +kernel) (by decide +kernel)
theorem ki_X5_chooseSide : Cond.instanceMethod yX5_chooseSide ∈ wA := tw2 126 (by decide +kernel) (by decide +kernel)
theorem kc_X5_chooseSide : Cond.code yX5_chooseSide cX5_chooseSide 6 (some .int) ∈ wA := tw2 127 (by decide +kernel) (by decide +kernel)
theorem kl_X5_276 : Cond.methodLink RX5 276 yX5_queueMark ∈ wA := tw2 129 (by decide +kernel) (by decide +kernel)
theorem ki_X5_queueMark : Cond.instanceMethod yX5_queueMark ∈ wA := tw2 131 (by decide +kernel) (by decide +kernel)
theorem kc_X5_queueMark : Cond.code yX5_queueMark cX5_queueMark 3 none ∈ wA := tw2 132 (by decide +kernel) (by decide +kernel)
theorem kl_X5_279 : Cond.methodLink RX5 279 yX5_rank ∈ wA := tw2 133 (by decide +kernel) (by decide +kernel)
theorem ki_X5_rank : Cond.instanceMethod yX5_rank ∈ wA := tw2 135 (by decide +kernel) (by decide +kernel)
theorem kc_X5_rank : Cond.code yX5_rank cX5_rank 2 (some .int) ∈ wA := tw2 136 (by decide +kernel) (by decide +kernel)
theorem ki_X1_rank : Cond.instanceMethod yX1_rank ∈ wA := tw2 139 (by decide +kernel) (by decide +kernel)
theorem kc_X1_rank : Cond.code yX1_rank cX1_rank 2 (some .int) ∈ wA := tw2 140 (by decide +kernel) (by decide +kernel)
theorem kk_X5_283 : Cond.constant RX5 283 (100001) ∈ wA := tw2 141 (by decide +kernel) (by decide +kernel)
theorem kl_X5_120 : Cond.methodLink RX5 120 yX5_layMarks ∈ wA := tw2 142 (by decide +kernel) (by decide +kernel)
theorem ki_X5_layMarks : Cond.instanceMethod yX5_layMarks ∈ wA := tw2 144 (by decide +kernel) (by decide +kernel)
theorem kc_X5_layMarks : Cond.code yX5_layMarks cX5_layMarks 5 (some .int) ∈ wA := tw2 145 (by decide +kernel) (by decide +kernel)
theorem ki_X1_isInRow : Cond.instanceMethod yX1_isInRow ∈ wA := tw2 148 (by decide +kernel) (by decide +kernel)
theorem kc_X1_isInRow : Cond.code yX1_isInRow cX1_isInRow 2 (some .boolean) ∈ wA := tw2 149 (by decide +kernel) (by decide +kernel)
theorem kl_X5_293 : Cond.methodLink RX5 293 yX5_innerAlone ∈ wA := tw2 150 (by decide +kernel) (by decide +kernel)
theorem ki_X5_innerAlone : Cond.instanceMethod yX5_innerAlone ∈ wA := tw2 152 (by decide +kernel) (by decide +kernel)
theorem kc_X5_innerAlone : Cond.code yX5_innerAlone cX5_innerAlone 3 (some .int) ∈ wA := tw2 153 (by decide +kernel) (by decide +kernel)
theorem ki_X2_behind : Cond.instanceMethod yX2_behind ∈ wA := tw2 156 (by decide +kernel) (by decide +kernel)
theorem kc_X2_behind : Cond.code yX2_behind cX2_behind 2 (some .int) ∈ wA := tw2 157 (by decide +kernel) (by decide +kernel)
theorem kl_X5_296 : Cond.methodLink RX5 296 yX5_layAt ∈ wA := tw2 158 (by decide +kernel) (by decide +kernel)
theorem ki_X5_layAt : Cond.instanceMethod yX5_layAt ∈ wA := tw2 160 (by decide +kernel) (by decide +kernel)
theorem kc_X5_layAt : Cond.code yX5_layAt cX5_layAt 5 none ∈ wA := tw2 161 (by decide +kernel) (by decide +kernel)
theorem kl_X5_299 : Cond.methodLink RX5 299 yX5_layRow ∈ wA := tw2 162 (by decide +kernel) (by decide +kernel)
theorem ki_X5_layRow : Cond.instanceMethod yX5_layRow ∈ wA := tw2 164 (by decide +kernel) (by decide +kernel)
theorem kc_X5_layRow : Cond.code yX5_layRow cX5_layRow 4 (some .int) ∈ wA := tw2 165 (by decide +kernel) (by decide +kernel)
theorem kl_X5_305 : Cond.methodLink RX5 305 yX5_fillRow ∈ wA := tw2 166 (by decide +kernel) (by decide +kernel)
theorem ki_X5_fillRow : Cond.instanceMethod yX5_fillRow ∈ wA := tw2 168 (by decide +kernel) (by decide +kernel)
theorem kc_X5_fillRow : Cond.code yX5_fillRow cX5_fillRow 6 (some .int) ∈ wA := tw2 169 (by decide +kernel) (by decide +kernel)
theorem kk_X5_170 : Cond.constant RX5 170 (-100003) ∈ wA := tw2 170 (by decide +kernel) (by decide +kernel)
theorem ki_X2_isOf : Cond.instanceMethod yX2_isOf ∈ wA := tw2 173 (by decide +kernel) (by decide +kernel)
theorem kc_X2_isOf : Cond.code yX2_isOf cX2_isOf 4 (some .boolean) ∈ wA := tw2 174 (by decide +kernel) (by decide +kernel)
theorem kl_X5_317 : Cond.methodLink RX5 317 yX5_isFreeInRow ∈ wA := tw2 175 (by decide +kernel) (by decide +kernel)
theorem ki_X5_isFreeInRow : Cond.instanceMethod yX5_isFreeInRow ∈ wA := tw2 177 (by decide +kernel) (by decide +kernel)
theorem kc_X5_isFreeInRow : Cond.code yX5_isFreeInRow cX5_isFreeInRow 6 (some .boolean) ∈ wA := tw2 178 (by decide +kernel) (by decide +kernel)
theorem ki_X2_shareX : Cond.instanceMethod yX2_shareX ∈ wA := tw2 181 (by decide +kernel) (by decide +kernel)
theorem kc_X2_shareX : Cond.code yX2_shareX cX2_shareX 3 (some .boolean) ∈ wA := tw2 182 (by decide +kernel) (by decide +kernel)
theorem kl_X2_50 : Cond.methodLink RX2 50 yX2_behind ∈ wA := tw2 183 (by decide +kernel) (by decide +kernel)
theorem km_X5_233 : Cond.methodLink RX5 233 Lib.Math.max.name ∈ wA := tw2 184 (by decide +kernel) (by decide +kernel)
theorem kl_X5_308 : Cond.methodLink RX5 308 yX5_layRowMarks ∈ wA := tw2 185 (by decide +kernel) (by decide +kernel)
theorem ki_X5_layRowMarks : Cond.instanceMethod yX5_layRowMarks ∈ wA := tw2 187 (by decide +kernel) (by decide +kernel)
theorem kc_X5_layRowMarks : Cond.code yX5_layRowMarks cX5_layRowMarks 6 none ∈ wA := tw2 188 (by decide +kernel) (by decide +kernel)
theorem kl_X5_311 : Cond.methodLink RX5 311 yX5_layLate ∈ wA := tw2 189 (by decide +kernel) (by decide +kernel)
theorem ki_X5_layLate : Cond.instanceMethod yX5_layLate ∈ wA := tw2 191 (by decide +kernel) (by decide +kernel)
theorem kc_X5_layLate : Cond.code yX5_layLate cX5_layLate 6 (some .int) ∈ wA := tw2 192 (by decide +kernel) (by decide +kernel)
theorem kl_L_99 : Cond.methodLink RL 99 yX5_wide ∈ wA := tw2 193 (by decide +kernel) (by decide +kernel)
theorem ki_X5_wide : Cond.instanceMethod yX5_wide ∈ wA := tw2 194 (by decide +kernel) (by decide +kernel)
theorem ks_X5_wide : Cond.selects RX5 yX5_wide yX5_wide ∈ wA := tw2 195 (by decide +kernel) (by decide +kernel)
theorem kc_X5_wide : Cond.code yX5_wide cX5_wide 2 (some .int) ∈ wA := tw2 196 (by decide +kernel) (by decide +kernel)
theorem kl_X5_174 : Cond.methodLink RX5 174 yX5_lackOf ∈ wA := tw2 197 (by decide +kernel) (by decide +kernel)
theorem ki_X5_lackOf : Cond.instanceMethod yX5_lackOf ∈ wA := tw2 199 (by decide +kernel) (by decide +kernel)
theorem kc_X5_lackOf : Cond.code yX5_lackOf cX5_lackOf 4 (some .int) ∈ wA := tw2 200 (by decide +kernel) (by decide +kernel)
theorem ki_X0_next : Cond.instanceMethod yX0_next ∈ wA := tw2 203 (by decide +kernel) (by decide +kernel)
theorem kc_X0_next : Cond.code yX0_next cX0_next 4 (some .int) ∈ wA := tw2 204 (by decide +kernel) (by decide +kernel)
theorem kl_L_103 : Cond.methodLink RL 103 yX5_push ∈ wA := tw2 205 (by decide +kernel) (by decide +kernel)
theorem ki_X5_push : Cond.instanceMethod yX5_push ∈ wA := tw2 206 (by decide +kernel) (by decide +kernel)
theorem ks_X5_push : Cond.selects RX5 yX5_push yX5_push ∈ wA := tw2 207 (by decide +kernel) (by decide +kernel)
theorem kc_X5_push : Cond.code yX5_push cX5_push 3 (some .int) ∈ wA := tw2 208 (by decide +kernel) (by decide +kernel)
theorem ki_X0_greatestX : Cond.instanceMethod yX0_greatestX ∈ wA := tw2 211 (by decide +kernel) (by decide +kernel)
theorem kc_X0_greatestX : Cond.code yX0_greatestX cX0_greatestX 3 (some .int) ∈ wA := tw2 212 (by decide +kernel) (by decide +kernel)
theorem km_X0_34 : Cond.methodLink RX0 34 Lib.Math.max.name ∈ wA := tw2 213 (by decide +kernel) (by decide +kernel)
theorem ki_X0_moveBehind : Cond.instanceMethod yX0_moveBehind ∈ wA := tw2 216 (by decide +kernel) (by decide +kernel)
theorem kc_X0_moveBehind : Cond.code yX0_moveBehind cX0_moveBehind 4 none ∈ wA := tw2 217 (by decide +kernel) (by decide +kernel)
theorem kl_L_107 : Cond.methodLink RL 107 yX5_item ∈ wA := tw2 218 (by decide +kernel) (by decide +kernel)
theorem ki_X5_item : Cond.instanceMethod yX5_item ∈ wA := tw2 219 (by decide +kernel) (by decide +kernel)
theorem ks_X5_item : Cond.selects RX5 yX5_item yX5_item ∈ wA := tw2 220 (by decide +kernel) (by decide +kernel)
theorem kc_X5_item : Cond.code yX5_item cX5_item 3 (some .int) ∈ wA := tw2 221 (by decide +kernel) (by decide +kernel)
theorem ki_X2_countAt : Cond.instanceMethod yX2_countAt ∈ wA := tw2 224 (by decide +kernel) (by decide +kernel)
theorem kc_X2_countAt : Cond.code yX2_countAt cX2_countAt 4 (some .int) ∈ wA := tw2 225 (by decide +kernel) (by decide +kernel)
theorem kl_L_74 : Cond.methodLink RL 74 yL_at ∈ wA := tw2 226 (by decide +kernel) (by decide +kernel)
theorem kt_L_at : Cond.static yL_at ∈ wA := tw2 227 (by decide +kernel) (by decide +kernel)
theorem kl_L_7 : Cond.methodLink RL 7 yX5_at ∈ wA := tw2 230 (by decide +kernel) (by decide +kernel)
theorem ki_X5_at : Cond.instanceMethod yX5_at ∈ wA := tw2 231 (by decide +kernel) (by decide +kernel)
theorem ks_X5_at : Cond.selects RX5 yX5_at yX5_at ∈ wA := tw2 232 (by decide +kernel) (by decide +kernel)
theorem kc_X5_at : Cond.code yX5_at cX5_at 3 (some .int) ∈ wA := tw2 233 (by decide +kernel) (by decide +kernel)
theorem kl_X5_124 : Cond.methodLink RX5 124 yX5_demandPlaces ∈ wA := tw2 234 (by decide +kernel) (by decide +kernel)
theorem ki_X5_demandPlaces : Cond.instanceMethod yX5_demandPlaces ∈ wA := tw2 236 (by decide +kernel) (by decide +kernel)
theorem kc_X5_demandPlaces : Cond.code yX5_demandPlaces cX5_demandPlaces 1 none ∈ wA := tw2 237 (by decide +kernel) (by decide +kernel)
theorem kl_L_83 : Cond.methodLink RL 83 yL_slurAt ∈ wA := tw3 64 (by decide +kernel) (by decide +kernel)
theorem kt_L_slurAt : Cond.static yL_slurAt ∈ wA := tw3 65 (by decide +kernel) (by decide +kernel)
theorem kl_L_15 : Cond.methodLink RL 15 yX5_slurAt ∈ wA := tw3 67 (by decide +kernel) (by decide +kernel)
theorem ki_X5_slurAt : Cond.instanceMethod yX5_slurAt ∈ wA := tw3 68 (by decide +kernel) (by decide +kernel)
theorem ks_X5_slurAt : Cond.selects RX5 yX5_slurAt yX5_slurAt ∈ wA := tw3 69 (by decide +kernel) (by decide +kernel)
theorem kc_X5_slurAt : Cond.code yX5_slurAt cX5_slurAt 3 (some .int) ∈ wA := tw3 70 (by decide +kernel) (by decide +kernel)
theorem ki_X4_has : Cond.instanceMethod yX4_has ∈ wA := tw3 73 (by decide +kernel) (by decide +kernel)
theorem kc_X4_has : Cond.code yX4_has cX4_has 2 (some .boolean) ∈ wA := tw3 74 (by decide +kernel) (by decide +kernel)
theorem kl_L_86 : Cond.methodLink RL 86 yL_skyline ∈ wA := tw3 75 (by decide +kernel) (by decide +kernel)
theorem kt_L_skyline : Cond.static yL_skyline ∈ wA := tw3 76 (by decide +kernel) (by decide +kernel)
theorem kl_L_18 : Cond.methodLink RL 18 yX5_skyline ∈ wA := tw3 78 (by decide +kernel) (by decide +kernel)
theorem ki_X5_skyline : Cond.instanceMethod yX5_skyline ∈ wA := tw3 79 (by decide +kernel) (by decide +kernel)
theorem ks_X5_skyline : Cond.selects RX5 yX5_skyline yX5_skyline ∈ wA := tw3 80 (by decide +kernel) (by decide +kernel)
theorem kc_X5_skyline : Cond.code yX5_skyline cX5_skyline 3 (some .int) ∈ wA := tw3 81 (by decide +kernel) (by decide +kernel)
theorem kk_X5_152 : Cond.constant RX5 152 (101000) ∈ wA := tw3 82 (by decide +kernel) (by decide +kernel)
theorem kl_L_89 : Cond.methodLink RL 89 yL_row ∈ wA := tw3 83 (by decide +kernel) (by decide +kernel)
theorem kt_L_row : Cond.static yL_row ∈ wA := tw3 84 (by decide +kernel) (by decide +kernel)
theorem kl_L_21 : Cond.methodLink RL 21 yX5_row ∈ wA := tw3 86 (by decide +kernel) (by decide +kernel)
theorem ki_X5_row : Cond.instanceMethod yX5_row ∈ wA := tw3 87 (by decide +kernel) (by decide +kernel)
theorem ks_X5_row : Cond.selects RX5 yX5_row yX5_row ∈ wA := tw3 88 (by decide +kernel) (by decide +kernel)
theorem kc_X5_row : Cond.code yX5_row cX5_row 3 (some .int) ∈ wA := tw3 89 (by decide +kernel) (by decide +kernel)
theorem kl_L_92 : Cond.methodLink RL 92 yL_order ∈ wA := tw3 90 (by decide +kernel) (by decide +kernel)
theorem kt_L_order : Cond.static yL_order ∈ wA := tw3 91 (by decide +kernel) (by decide +kernel)
theorem kl_L_24 : Cond.methodLink RL 24 yX5_order ∈ wA := tw3 93 (by decide +kernel) (by decide +kernel)
theorem ki_X5_order : Cond.instanceMethod yX5_order ∈ wA := tw3 94 (by decide +kernel) (by decide +kernel)
theorem ks_X5_order : Cond.selects RX5 yX5_order yX5_order ∈ wA := tw3 95 (by decide +kernel) (by decide +kernel)
theorem kc_X5_order : Cond.code yX5_order cX5_order 5 (some .int) ∈ wA := tw3 96 (by decide +kernel) (by decide +kernel)
theorem ki_X2_isOn : Cond.instanceMethod yX2_isOn ∈ wA := tw3 99 (by decide +kernel) (by decide +kernel)
theorem kc_X2_isOn : Cond.code yX2_isOn cX2_isOn 4 (some .boolean) ∈ wA := tw3 100 (by decide +kernel) (by decide +kernel)
theorem ki_X2_countNearer : Cond.instanceMethod yX2_countNearer ∈ wA := tw3 103 (by decide +kernel) (by decide +kernel)
theorem kc_X2_countNearer : Cond.code yX2_countNearer cX2_countNearer 5 (some .int) ∈ wA := tw3 104 (by decide +kernel) (by decide +kernel)
theorem kl_X2_54 : Cond.methodLink RX2 54 yX2_isOn ∈ wA := tw3 105 (by decide +kernel) (by decide +kernel)
theorem kl_L_96 : Cond.methodLink RL 96 yL_meets ∈ wA := tw3 106 (by decide +kernel) (by decide +kernel)
theorem kt_L_meets : Cond.static yL_meets ∈ wA := tw3 107 (by decide +kernel) (by decide +kernel)
theorem kl_L_28 : Cond.methodLink RL 28 yX5_meets ∈ wA := tw3 109 (by decide +kernel) (by decide +kernel)
theorem ki_X5_meets : Cond.instanceMethod yX5_meets ∈ wA := tw3 110 (by decide +kernel) (by decide +kernel)
theorem ks_X5_meets : Cond.selects RX5 yX5_meets yX5_meets ∈ wA := tw3 111 (by decide +kernel) (by decide +kernel)
theorem kc_X5_meets : Cond.code yX5_meets cX5_meets 4 (some .int) ∈ wA := tw3 112 (by decide +kernel) (by decide +kernel)
theorem kl_L_111 : Cond.methodLink RL 111 yL_count ∈ wA := tw3 113 (by decide +kernel) (by decide +kernel)
theorem kt_L_count : Cond.static yL_count ∈ wA := tw3 114 (by decide +kernel) (by decide +kernel)
theorem kl_L_31 : Cond.methodLink RL 31 yX5_count ∈ wA := tw3 116 (by decide +kernel) (by decide +kernel)
theorem ki_X5_count : Cond.instanceMethod yX5_count ∈ wA := tw3 117 (by decide +kernel) (by decide +kernel)
theorem ks_X5_count : Cond.selects RX5 yX5_count yX5_count ∈ wA := tw3 118 (by decide +kernel) (by decide +kernel)
theorem kc_X5_count : Cond.code yX5_count cX5_count 2 (some .int) ∈ wA := tw3 119 (by decide +kernel) (by decide +kernel)
theorem ki_X2_countThere : Cond.instanceMethod yX2_countThere ∈ wA := tw3 122 (by decide +kernel) (by decide +kernel)
theorem kc_X2_countThere : Cond.code yX2_countThere cX2_countThere 3 (some .int) ∈ wA := tw3 123 (by decide +kernel) (by decide +kernel)
theorem kl_X5_204 : Cond.methodLink RX5 204 yX5_outermost ∈ wA := tw3 124 (by decide +kernel) (by decide +kernel)
theorem ki_X5_outermost : Cond.instanceMethod yX5_outermost ∈ wA := tw3 126 (by decide +kernel) (by decide +kernel)
theorem kc_X5_outermost : Cond.code yX5_outermost cX5_outermost 2 (some .int) ∈ wA := tw3 127 (by decide +kernel) (by decide +kernel)
theorem kl_L_38 : Cond.methodLink RL 38 yX6_init ∈ wA := tw3 130 (by decide +kernel) (by decide +kernel)
theorem ki_X6_init : Cond.instanceMethod yX6_init ∈ wA := tw3 131 (by decide +kernel) (by decide +kernel)
theorem kc_X6_init : Cond.code yX6_init cX6_init 2 none ∈ wA := tw3 132 (by decide +kernel) (by decide +kernel)
theorem kf_X6_83 : Cond.fieldLink RX6 83 "StackMarksModel" "code" "I" ∈ wA := tw3 134 (by decide +kernel) (by decide +kernel)
theorem kf_X6_87 : Cond.fieldLink RX6 87 "StackMarksModel" "items" "I" ∈ wA := tw3 135 (by decide +kernel) (by decide +kernel)
theorem kf_X6_7 : Cond.fieldLink RX6 7 "StackMarksModel" "xs" "[I" ∈ wA := tw3 136 (by decide +kernel) (by decide +kernel)
theorem kf_X6_13 : Cond.fieldLink RX6 13 "StackMarksModel" "lows" "[I" ∈ wA := tw3 137 (by decide +kernel) (by decide +kernel)
theorem kf_X6_16 : Cond.fieldLink RX6 16 "StackMarksModel" "highs" "[I" ∈ wA := tw3 138 (by decide +kernel) (by decide +kernel)
theorem kf_X6_19 : Cond.fieldLink RX6 19 "StackMarksModel" "voices" "[I" ∈ wA := tw3 139 (by decide +kernel) (by decide +kernel)
theorem kf_X6_22 : Cond.fieldLink RX6 22 "StackMarksModel" "stems" "[I" ∈ wA := tw3 140 (by decide +kernel) (by decide +kernel)
theorem kf_X6_25 : Cond.fieldLink RX6 25 "StackMarksModel" "rests" "[Z" ∈ wA := tw3 141 (by decide +kernel) (by decide +kernel)
theorem kf_X6_29 : Cond.fieldLink RX6 29 "StackMarksModel" "kinds" "[I" ∈ wA := tw3 142 (by decide +kernel) (by decide +kernel)
theorem kf_X6_90 : Cond.fieldLink RX6 90 "StackMarksModel" "marks" "I" ∈ wA := tw3 143 (by decide +kernel) (by decide +kernel)
theorem kf_X6_32 : Cond.fieldLink RX6 32 "StackMarksModel" "ofItem" "[I" ∈ wA := tw3 144 (by decide +kernel) (by decide +kernel)
theorem kf_X6_35 : Cond.fieldLink RX6 35 "StackMarksModel" "ofKind" "[I" ∈ wA := tw3 145 (by decide +kernel) (by decide +kernel)
theorem kf_X6_38 : Cond.fieldLink RX6 38 "StackMarksModel" "wides" "[I" ∈ wA := tw3 146 (by decide +kernel) (by decide +kernel)
theorem kf_X6_41 : Cond.fieldLink RX6 41 "StackMarksModel" "tall" "[I" ∈ wA := tw3 147 (by decide +kernel) (by decide +kernel)
theorem kf_X6_44 : Cond.fieldLink RX6 44 "StackMarksModel" "gone" "[Z" ∈ wA := tw3 148 (by decide +kernel) (by decide +kernel)
theorem kf_X6_47 : Cond.fieldLink RX6 47 "StackMarksModel" "laid" "[Z" ∈ wA := tw3 149 (by decide +kernel) (by decide +kernel)
theorem kf_X6_50 : Cond.fieldLink RX6 50 "StackMarksModel" "inners" "[I" ∈ wA := tw3 150 (by decide +kernel) (by decide +kernel)
theorem kf_X6_53 : Cond.fieldLink RX6 53 "StackMarksModel" "inRow" "[Z" ∈ wA := tw3 151 (by decide +kernel) (by decide +kernel)
theorem kf_X6_56 : Cond.fieldLink RX6 56 "StackMarksModel" "turns" "[I" ∈ wA := tw3 152 (by decide +kernel) (by decide +kernel)
theorem kf_X6_149 : Cond.fieldLink RX6 149 "StackMarksModel" "turn" "I" ∈ wA := tw3 153 (by decide +kernel) (by decide +kernel)
theorem kf_X6_125 : Cond.fieldLink RX6 125 "StackMarksModel" "slurs" "I" ∈ wA := tw3 154 (by decide +kernel) (by decide +kernel)
theorem kf_X6_59 : Cond.fieldLink RX6 59 "StackMarksModel" "begins" "[I" ∈ wA := tw3 155 (by decide +kernel) (by decide +kernel)
theorem kf_X6_62 : Cond.fieldLink RX6 62 "StackMarksModel" "ends" "[I" ∈ wA := tw3 156 (by decide +kernel) (by decide +kernel)
theorem kf_X6_65 : Cond.fieldLink RX6 65 "StackMarksModel" "slurSides" "[I" ∈ wA := tw3 157 (by decide +kernel) (by decide +kernel)
theorem kf_X6_68 : Cond.fieldLink RX6 68 "StackMarksModel" "thick" "[I" ∈ wA := tw3 158 (by decide +kernel) (by decide +kernel)
theorem kf_X6_71 : Cond.fieldLink RX6 71 "StackMarksModel" "slurInner" "[I" ∈ wA := tw3 159 (by decide +kernel) (by decide +kernel)
theorem kf_X6_136 : Cond.fieldLink RX6 136 "StackMarksModel" "slursLaid" "I" ∈ wA := tw3 160 (by decide +kernel) (by decide +kernel)
theorem kf_X6_74 : Cond.fieldLink RX6 74 "StackMarksModel" "hasRow" "[Z" ∈ wA := tw3 161 (by decide +kernel) (by decide +kernel)
theorem kf_X6_77 : Cond.fieldLink RX6 77 "StackMarksModel" "rowInner" "[I" ∈ wA := tw3 162 (by decide +kernel) (by decide +kernel)
theorem kf_X6_94 : Cond.fieldLink RX6 94 "StackMarksModel" "isPlaced" "Z" ∈ wA := tw3 163 (by decide +kernel) (by decide +kernel)
theorem kf_X6_80 : Cond.fieldLink RX6 80 "StackMarksModel" "list" "[I" ∈ wA := tw3 164 (by decide +kernel) (by decide +kernel)
theorem kl_L_80 : Cond.methodLink RL 80 yX6_thrown ∈ wA := tw3 228 (by decide +kernel) (by decide +kernel)
theorem ki_X6_thrown : Cond.instanceMethod yX6_thrown ∈ wA := tw3 229 (by decide +kernel) (by decide +kernel)
theorem ks_X6_thrown : Cond.selects RX6 yX6_thrown yX6_thrown ∈ wA := tw3 230 (by decide +kernel) (by decide +kernel)
theorem kc_X6_thrown : Cond.code yX6_thrown cX6_thrown 1 (some .int) ∈ wA := tw3 231 (by decide +kernel) (by decide +kernel)
theorem kl_L_43 : Cond.methodLink RL 43 yX6_note ∈ wA := tw3 232 (by decide +kernel) (by decide +kernel)
theorem ki_X6_note : Cond.instanceMethod yX6_note ∈ wA := tw3 233 (by decide +kernel) (by decide +kernel)
theorem ks_X6_note : Cond.selects RX6 yX6_note yX6_note ∈ wA := tw3 234 (by decide +kernel) (by decide +kernel)
theorem kc_X6_note : Cond.code yX6_note cX6_note 6 (some .int) ∈ wA := tw3 235 (by decide +kernel) (by decide +kernel)
theorem kk_X6_98 : Cond.constant RX6 98 (100000) ∈ wA := tw3 236 (by decide +kernel) (by decide +kernel)
theorem kl_X6_99 : Cond.methodLink RX6 99 yX6_in ∈ wA := tw3 237 (by decide +kernel) (by decide +kernel)
theorem kt_X6_in : Cond.static yX6_in ∈ wA := tw3 238 (by decide +kernel) (by decide +kernel)
theorem kc_X6_in : Cond.code yX6_in cX6_in 3 (some .boolean) ∈ wA := tw3 239 (by decide +kernel) (by decide +kernel)
theorem kl_X6_103 : Cond.methodLink RX6 103 yX6_isTaken ∈ wA := tw4 0 (by decide +kernel) (by decide +kernel)
theorem ki_X6_isTaken : Cond.instanceMethod yX6_isTaken ∈ wA := tw4 2 (by decide +kernel) (by decide +kernel)
theorem kc_X6_isTaken : Cond.code yX6_isTaken cX6_isTaken 3 (some .boolean) ∈ wA := tw4 3 (by decide +kernel) (by decide +kernel)
theorem kk_X6_107 : Cond.constant RX6 107 (-100001) ∈ wA := tw4 4 (by decide +kernel) (by decide +kernel)
theorem kl_X6_108 : Cond.methodLink RX6 108 yX6_come ∈ wA := tw4 5 (by decide +kernel) (by decide +kernel)
theorem ki_X6_come : Cond.instanceMethod yX6_come ∈ wA := tw4 7 (by decide +kernel) (by decide +kernel)
theorem kc_X6_come : Cond.code yX6_come cX6_come 7 (some .int) ∈ wA := tw4 8 (by decide +kernel) (by decide +kernel)
theorem kk_X6_93 : Cond.constant RX6 93 (-100002) ∈ wA := tw4 9 (by decide +kernel) (by decide +kernel)
theorem kl_L_47 : Cond.methodLink RL 47 yX6_rest ∈ wA := tw4 10 (by decide +kernel) (by decide +kernel)
theorem ki_X6_rest : Cond.instanceMethod yX6_rest ∈ wA := tw4 11 (by decide +kernel) (by decide +kernel)
theorem ks_X6_rest : Cond.selects RX6 yX6_rest yX6_rest ∈ wA := tw4 12 (by decide +kernel) (by decide +kernel)
theorem kc_X6_rest : Cond.code yX6_rest cX6_rest 4 (some .int) ∈ wA := tw4 13 (by decide +kernel) (by decide +kernel)
theorem kl_L_51 : Cond.methodLink RL 51 yX6_lift ∈ wA := tw4 14 (by decide +kernel) (by decide +kernel)
theorem ki_X6_lift : Cond.instanceMethod yX6_lift ∈ wA := tw4 15 (by decide +kernel) (by decide +kernel)
theorem ks_X6_lift : Cond.selects RX6 yX6_lift yX6_lift ∈ wA := tw4 16 (by decide +kernel) (by decide +kernel)
theorem kc_X6_lift : Cond.code yX6_lift cX6_lift 3 (some .int) ∈ wA := tw4 17 (by decide +kernel) (by decide +kernel)
theorem kl_X6_112 : Cond.methodLink RX6 112 yX6_isItem ∈ wA := tw4 18 (by decide +kernel) (by decide +kernel)
theorem ki_X6_isItem : Cond.instanceMethod yX6_isItem ∈ wA := tw4 20 (by decide +kernel) (by decide +kernel)
theorem kc_X6_isItem : Cond.code yX6_isItem cX6_isItem 2 (some .boolean) ∈ wA := tw4 21 (by decide +kernel) (by decide +kernel)
theorem kl_L_55 : Cond.methodLink RL 55 yX6_set ∈ wA := tw4 22 (by decide +kernel) (by decide +kernel)
theorem ki_X6_set : Cond.instanceMethod yX6_set ∈ wA := tw4 23 (by decide +kernel) (by decide +kernel)
theorem ks_X6_set : Cond.selects RX6 yX6_set yX6_set ∈ wA := tw4 24 (by decide +kernel) (by decide +kernel)
theorem kc_X6_set : Cond.code yX6_set cX6_set 5 (some .int) ∈ wA := tw4 25 (by decide +kernel) (by decide +kernel)
theorem kl_X6_115 : Cond.methodLink RX6 115 yX6_most ∈ wA := tw4 26 (by decide +kernel) (by decide +kernel)
theorem kt_X6_most : Cond.static yX6_most ∈ wA := tw4 27 (by decide +kernel) (by decide +kernel)
theorem kc_X6_most : Cond.code yX6_most cX6_most 1 (some .int) ∈ wA := tw4 28 (by decide +kernel) (by decide +kernel)
theorem kl_L_60 : Cond.methodLink RL 60 yX6_mark ∈ wA := tw4 29 (by decide +kernel) (by decide +kernel)
theorem ki_X6_mark : Cond.instanceMethod yX6_mark ∈ wA := tw4 30 (by decide +kernel) (by decide +kernel)
theorem ks_X6_mark : Cond.selects RX6 yX6_mark yX6_mark ∈ wA := tw4 31 (by decide +kernel) (by decide +kernel)
theorem kc_X6_mark : Cond.code yX6_mark cX6_mark 5 (some .int) ∈ wA := tw4 32 (by decide +kernel) (by decide +kernel)
theorem kl_L_64 : Cond.methodLink RL 64 yX6_drop ∈ wA := tw4 33 (by decide +kernel) (by decide +kernel)
theorem ki_X6_drop : Cond.instanceMethod yX6_drop ∈ wA := tw4 34 (by decide +kernel) (by decide +kernel)
theorem ks_X6_drop : Cond.selects RX6 yX6_drop yX6_drop ∈ wA := tw4 35 (by decide +kernel) (by decide +kernel)
theorem kc_X6_drop : Cond.code yX6_drop cX6_drop 2 (some .int) ∈ wA := tw4 36 (by decide +kernel) (by decide +kernel)
theorem kl_X6_119 : Cond.methodLink RX6 119 yX6_isMark ∈ wA := tw4 37 (by decide +kernel) (by decide +kernel)
theorem ki_X6_isMark : Cond.instanceMethod yX6_isMark ∈ wA := tw4 39 (by decide +kernel) (by decide +kernel)
theorem kc_X6_isMark : Cond.code yX6_isMark cX6_isMark 2 (some .boolean) ∈ wA := tw4 40 (by decide +kernel) (by decide +kernel)
theorem kl_L_68 : Cond.methodLink RL 68 yX6_slur ∈ wA := tw4 41 (by decide +kernel) (by decide +kernel)
theorem ki_X6_slur : Cond.instanceMethod yX6_slur ∈ wA := tw4 42 (by decide +kernel) (by decide +kernel)
theorem ks_X6_slur : Cond.selects RX6 yX6_slur yX6_slur ∈ wA := tw4 43 (by decide +kernel) (by decide +kernel)
theorem kc_X6_slur : Cond.code yX6_slur cX6_slur 5 (some .int) ∈ wA := tw4 44 (by decide +kernel) (by decide +kernel)
theorem kl_X6_122 : Cond.methodLink RX6 122 yX6_isSide ∈ wA := tw4 45 (by decide +kernel) (by decide +kernel)
theorem kt_X6_isSide : Cond.static yX6_isSide ∈ wA := tw4 46 (by decide +kernel) (by decide +kernel)
theorem kc_X6_isSide : Cond.code yX6_isSide cX6_isSide 1 (some .boolean) ∈ wA := tw4 47 (by decide +kernel) (by decide +kernel)
theorem kl_L_73 : Cond.methodLink RL 73 yX6_place ∈ wA := tw4 48 (by decide +kernel) (by decide +kernel)
theorem ki_X6_place : Cond.instanceMethod yX6_place ∈ wA := tw4 49 (by decide +kernel) (by decide +kernel)
theorem ks_X6_place : Cond.selects RX6 yX6_place yX6_place ∈ wA := tw4 50 (by decide +kernel) (by decide +kernel)
theorem kc_X6_place : Cond.code yX6_place cX6_place 5 (some .int) ∈ wA := tw4 51 (by decide +kernel) (by decide +kernel)
theorem kl_X6_145 : Cond.methodLink RX6 145 yX6_greatest ∈ wA := tw4 52 (by decide +kernel) (by decide +kernel)
theorem ki_X6_greatest : Cond.instanceMethod yX6_greatest ∈ wA := tw4 54 (by decide +kernel) (by decide +kernel)
theorem kc_X6_greatest : Cond.code yX6_greatest cX6_greatest 8 (some .int) ∈ wA := tw4 55 (by decide +kernel) (by decide +kernel)
theorem kl_X6_132 : Cond.methodLink RX6 132 yX6_above ∈ wA := tw4 56 (by decide +kernel) (by decide +kernel)
theorem kt_X6_above : Cond.static yX6_above ∈ wA := tw4 57 (by decide +kernel) (by decide +kernel)
theorem kc_X6_above : Cond.code yX6_above cX6_above 6 (some .int) ∈ wA := tw4 58 (by decide +kernel) (by decide +kernel)
theorem kl_X6_139 : Cond.methodLink RX6 139 yX6_sideOf ∈ wA := tw4 59 (by decide +kernel) (by decide +kernel)
theorem ki_X6_sideOf : Cond.instanceMethod yX6_sideOf ∈ wA := tw4 61 (by decide +kernel) (by decide +kernel)
theorem kc_X6_sideOf : Cond.code yX6_sideOf cX6_sideOf 6 (some .int) ∈ wA := tw4 62 (by decide +kernel) (by decide +kernel)
theorem kl_X6_128 : Cond.methodLink RX6 128 yX6_areBoth ∈ wA := tw4 63 (by decide +kernel) (by decide +kernel)
theorem ki_X6_areBoth : Cond.instanceMethod yX6_areBoth ∈ wA := tw4 65 (by decide +kernel) (by decide +kernel)
theorem kc_X6_areBoth : Cond.code yX6_areBoth cX6_areBoth 4 (some .boolean) ∈ wA := tw4 66 (by decide +kernel) (by decide +kernel)
theorem kl_X6_142 : Cond.methodLink RX6 142 yX6_left ∈ wA := tw4 67 (by decide +kernel) (by decide +kernel)
theorem ki_X6_left : Cond.instanceMethod yX6_left ∈ wA := tw4 69 (by decide +kernel) (by decide +kernel)
theorem kc_X6_left : Cond.code yX6_left cX6_left 3 (some .int) ∈ wA := tw4 70 (by decide +kernel) (by decide +kernel)
theorem kk_X6_170 : Cond.constant RX6 170 (-100003) ∈ wA := tw4 71 (by decide +kernel) (by decide +kernel)
theorem kl_X6_152 : Cond.methodLink RX6 152 yX6_isAhead ∈ wA := tw4 72 (by decide +kernel) (by decide +kernel)
theorem ki_X6_isAhead : Cond.instanceMethod yX6_isAhead ∈ wA := tw4 74 (by decide +kernel) (by decide +kernel)
theorem kc_X6_isAhead : Cond.code yX6_isAhead cX6_isAhead 7 (some .boolean) ∈ wA := tw4 75 (by decide +kernel) (by decide +kernel)
theorem kl_X6_171 : Cond.methodLink RX6 171 yX6_lieRow ∈ wA := tw4 76 (by decide +kernel) (by decide +kernel)
theorem ki_X6_lieRow : Cond.instanceMethod yX6_lieRow ∈ wA := tw4 78 (by decide +kernel) (by decide +kernel)
theorem kc_X6_lieRow : Cond.code yX6_lieRow cX6_lieRow 8 (some .int) ∈ wA := tw4 79 (by decide +kernel) (by decide +kernel)
theorem kl_X6_156 : Cond.methodLink RX6 156 yX6_gather ∈ wA := tw4 80 (by decide +kernel) (by decide +kernel)
theorem ki_X6_gather : Cond.instanceMethod yX6_gather ∈ wA := tw4 82 (by decide +kernel) (by decide +kernel)
theorem kc_X6_gather : Cond.code yX6_gather cX6_gather 6 (some .int) ∈ wA := tw4 83 (by decide +kernel) (by decide +kernel)
theorem kl_X6_160 : Cond.methodLink RX6 160 yX6_cover ∈ wA := tw4 84 (by decide +kernel) (by decide +kernel)
theorem ki_X6_cover : Cond.instanceMethod yX6_cover ∈ wA := tw4 86 (by decide +kernel) (by decide +kernel)
theorem kc_X6_cover : Cond.code yX6_cover cX6_cover 3 (some .boolean) ∈ wA := tw4 87 (by decide +kernel) (by decide +kernel)
theorem kl_X6_163 : Cond.methodLink RX6 163 yX6_own ∈ wA := tw4 88 (by decide +kernel) (by decide +kernel)
theorem ki_X6_own : Cond.instanceMethod yX6_own ∈ wA := tw4 90 (by decide +kernel) (by decide +kernel)
theorem kc_X6_own : Cond.code yX6_own cX6_own 2 (some .int) ∈ wA := tw4 91 (by decide +kernel) (by decide +kernel)
theorem kl_X6_166 : Cond.methodLink RX6 166 yX6_lie ∈ wA := tw4 92 (by decide +kernel) (by decide +kernel)
theorem ki_X6_lie : Cond.instanceMethod yX6_lie ∈ wA := tw4 94 (by decide +kernel) (by decide +kernel)
theorem kc_X6_lie : Cond.code yX6_lie cX6_lie 4 none ∈ wA := tw4 95 (by decide +kernel) (by decide +kernel)
theorem kl_L_79 : Cond.methodLink RL 79 yX6_at ∈ wA := tw4 96 (by decide +kernel) (by decide +kernel)
theorem ki_X6_at : Cond.instanceMethod yX6_at ∈ wA := tw4 97 (by decide +kernel) (by decide +kernel)
theorem ks_X6_at : Cond.selects RX6 yX6_at yX6_at ∈ wA := tw4 98 (by decide +kernel) (by decide +kernel)
theorem kc_X6_at : Cond.code yX6_at cX6_at 3 (some .int) ∈ wA := tw4 99 (by decide +kernel) (by decide +kernel)
theorem kl_X6_174 : Cond.methodLink RX6 174 yX6_throwsNow ∈ wA := tw4 100 (by decide +kernel) (by decide +kernel)
theorem ki_X6_throwsNow : Cond.instanceMethod yX6_throwsNow ∈ wA := tw4 102 (by decide +kernel) (by decide +kernel)
theorem kc_X6_throwsNow : Cond.code yX6_throwsNow cX6_throwsNow 1 (some .boolean) ∈ wA := tw4 103 (by decide +kernel) (by decide +kernel)
theorem kl_L_85 : Cond.methodLink RL 85 yX6_slurAt ∈ wA := tw4 104 (by decide +kernel) (by decide +kernel)
theorem ki_X6_slurAt : Cond.instanceMethod yX6_slurAt ∈ wA := tw4 105 (by decide +kernel) (by decide +kernel)
theorem ks_X6_slurAt : Cond.selects RX6 yX6_slurAt yX6_slurAt ∈ wA := tw4 106 (by decide +kernel) (by decide +kernel)
theorem kc_X6_slurAt : Cond.code yX6_slurAt cX6_slurAt 3 (some .int) ∈ wA := tw4 107 (by decide +kernel) (by decide +kernel)
theorem kl_L_88 : Cond.methodLink RL 88 yX6_skyline ∈ wA := tw4 108 (by decide +kernel) (by decide +kernel)
theorem ki_X6_skyline : Cond.instanceMethod yX6_skyline ∈ wA := tw4 109 (by decide +kernel) (by decide +kernel)
theorem ks_X6_skyline : Cond.selects RX6 yX6_skyline yX6_skyline ∈ wA := tw4 110 (by decide +kernel) (by decide +kernel)
theorem kc_X6_skyline : Cond.code yX6_skyline cX6_skyline 3 (some .int) ∈ wA := tw4 111 (by decide +kernel) (by decide +kernel)
theorem kk_X6_177 : Cond.constant RX6 177 (101000) ∈ wA := tw4 112 (by decide +kernel) (by decide +kernel)
theorem kl_L_91 : Cond.methodLink RL 91 yX6_row ∈ wA := tw4 113 (by decide +kernel) (by decide +kernel)
theorem ki_X6_row : Cond.instanceMethod yX6_row ∈ wA := tw4 114 (by decide +kernel) (by decide +kernel)
theorem ks_X6_row : Cond.selects RX6 yX6_row yX6_row ∈ wA := tw4 115 (by decide +kernel) (by decide +kernel)
theorem kc_X6_row : Cond.code yX6_row cX6_row 4 (some .int) ∈ wA := tw4 116 (by decide +kernel) (by decide +kernel)
theorem kl_L_95 : Cond.methodLink RL 95 yX6_order ∈ wA := tw4 117 (by decide +kernel) (by decide +kernel)
theorem ki_X6_order : Cond.instanceMethod yX6_order ∈ wA := tw4 118 (by decide +kernel) (by decide +kernel)
theorem ks_X6_order : Cond.selects RX6 yX6_order yX6_order ∈ wA := tw4 119 (by decide +kernel) (by decide +kernel)
theorem kc_X6_order : Cond.code yX6_order cX6_order 8 (some .int) ∈ wA := tw4 120 (by decide +kernel) (by decide +kernel)
theorem kl_L_98 : Cond.methodLink RL 98 yX6_meets ∈ wA := tw4 121 (by decide +kernel) (by decide +kernel)
theorem ki_X6_meets : Cond.instanceMethod yX6_meets ∈ wA := tw4 122 (by decide +kernel) (by decide +kernel)
theorem ks_X6_meets : Cond.selects RX6 yX6_meets yX6_meets ∈ wA := tw4 123 (by decide +kernel) (by decide +kernel)
theorem kc_X6_meets : Cond.code yX6_meets cX6_meets 4 (some .int) ∈ wA := tw4 124 (by decide +kernel) (by decide +kernel)
theorem kl_L_102 : Cond.methodLink RL 102 yX6_wide ∈ wA := tw4 125 (by decide +kernel) (by decide +kernel)
theorem ki_X6_wide : Cond.instanceMethod yX6_wide ∈ wA := tw4 126 (by decide +kernel) (by decide +kernel)
theorem ks_X6_wide : Cond.selects RX6 yX6_wide yX6_wide ∈ wA := tw4 127 (by decide +kernel) (by decide +kernel)
theorem kc_X6_wide : Cond.code yX6_wide cX6_wide 2 (some .int) ∈ wA := tw4 128 (by decide +kernel) (by decide +kernel)
theorem kl_X6_181 : Cond.methodLink RX6 181 yX6_lacks ∈ wA := tw4 129 (by decide +kernel) (by decide +kernel)
theorem ki_X6_lacks : Cond.instanceMethod yX6_lacks ∈ wA := tw4 131 (by decide +kernel) (by decide +kernel)
theorem kc_X6_lacks : Cond.code yX6_lacks cX6_lacks 4 (some .int) ∈ wA := tw4 132 (by decide +kernel) (by decide +kernel)
theorem kl_X6_178 : Cond.methodLink RX6 178 yX6_nextOf ∈ wA := tw4 133 (by decide +kernel) (by decide +kernel)
theorem ki_X6_nextOf : Cond.instanceMethod yX6_nextOf ∈ wA := tw4 135 (by decide +kernel) (by decide +kernel)
theorem kc_X6_nextOf : Cond.code yX6_nextOf cX6_nextOf 4 (some .int) ∈ wA := tw4 136 (by decide +kernel) (by decide +kernel)
theorem kl_L_106 : Cond.methodLink RL 106 yX6_push ∈ wA := tw4 137 (by decide +kernel) (by decide +kernel)
theorem ki_X6_push : Cond.instanceMethod yX6_push ∈ wA := tw4 138 (by decide +kernel) (by decide +kernel)
theorem ks_X6_push : Cond.selects RX6 yX6_push yX6_push ∈ wA := tw4 139 (by decide +kernel) (by decide +kernel)
theorem kc_X6_push : Cond.code yX6_push cX6_push 5 (some .int) ∈ wA := tw4 140 (by decide +kernel) (by decide +kernel)
theorem kl_L_110 : Cond.methodLink RL 110 yX6_item ∈ wA := tw4 141 (by decide +kernel) (by decide +kernel)
theorem ki_X6_item : Cond.instanceMethod yX6_item ∈ wA := tw4 142 (by decide +kernel) (by decide +kernel)
theorem ks_X6_item : Cond.selects RX6 yX6_item yX6_item ∈ wA := tw4 143 (by decide +kernel) (by decide +kernel)
theorem kc_X6_item : Cond.code yX6_item cX6_item 3 (some .int) ∈ wA := tw4 144 (by decide +kernel) (by decide +kernel)
theorem kl_X6_184 : Cond.methodLink RX6 184 yX6_marksOf ∈ wA := tw4 145 (by decide +kernel) (by decide +kernel)
theorem ki_X6_marksOf : Cond.instanceMethod yX6_marksOf ∈ wA := tw4 147 (by decide +kernel) (by decide +kernel)
theorem kc_X6_marksOf : Cond.code yX6_marksOf cX6_marksOf 4 (some .int) ∈ wA := tw4 148 (by decide +kernel) (by decide +kernel)
theorem kl_L_114 : Cond.methodLink RL 114 yX6_count ∈ wA := tw4 149 (by decide +kernel) (by decide +kernel)
theorem ki_X6_count : Cond.instanceMethod yX6_count ∈ wA := tw4 150 (by decide +kernel) (by decide +kernel)
theorem ks_X6_count : Cond.selects RX6 yX6_count yX6_count ∈ wA := tw4 151 (by decide +kernel) (by decide +kernel)
theorem kc_X6_count : Cond.code yX6_count cX6_count 2 (some .int) ∈ wA := tw4 152 (by decide +kernel) (by decide +kernel)
theorem kl_X6_187 : Cond.methodLink RX6 187 yX6_outermost ∈ wA := tw4 153 (by decide +kernel) (by decide +kernel)
theorem ki_X6_outermost : Cond.instanceMethod yX6_outermost ∈ wA := tw4 155 (by decide +kernel) (by decide +kernel)
theorem kc_X6_outermost : Cond.code yX6_outermost cX6_outermost 5 (some .int) ∈ wA := tw4 156 (by decide +kernel) (by decide +kernel)
theorem ks_X5_addItem : Cond.selects RX5 yX5_addItem yX5_addItem ∈ wA := twp 0 (by decide +kernel) (by decide +kernel)
theorem ks_X0_isAt : Cond.selects RX0 yX0_isAt yX0_isAt ∈ wA := twp 1 (by decide +kernel) (by decide +kernel)
theorem ks_X0_add : Cond.selects RX0 yX0_add yX0_add ∈ wA := twp 2 (by decide +kernel) (by decide +kernel)
theorem ks_X0_has : Cond.selects RX0 yX0_has yX0_has ∈ wA := twp 3 (by decide +kernel) (by decide +kernel)
theorem ks_X1_has : Cond.selects RX1 yX1_has yX1_has ∈ wA := twp 4 (by decide +kernel) (by decide +kernel)
theorem ks_X1_takes : Cond.selects RX1 yX1_takes yX1_takes ∈ wA := twp 5 (by decide +kernel) (by decide +kernel)
theorem ks_X1_change : Cond.selects RX1 yX1_change yX1_change ∈ wA := twp 6 (by decide +kernel) (by decide +kernel)
theorem ks_X1_get : Cond.selects RX1 yX1_get yX1_get ∈ wA := twp 7 (by decide +kernel) (by decide +kernel)
theorem ks_X2_add : Cond.selects RX2 yX2_add yX2_add ∈ wA := twp 8 (by decide +kernel) (by decide +kernel)
theorem ks_X2_has : Cond.selects RX2 yX2_has yX2_has ∈ wA := twp 9 (by decide +kernel) (by decide +kernel)
theorem ks_X4_add : Cond.selects RX4 yX4_add yX4_add ∈ wA := twp 10 (by decide +kernel) (by decide +kernel)
theorem ks_X3_clear : Cond.selects RX3 yX3_clear yX3_clear ∈ wA := twp 11 (by decide +kernel) (by decide +kernel)
theorem ks_X5_coverItems : Cond.selects RX5 yX5_coverItems yX5_coverItems ∈ wA := twp 12 (by decide +kernel) (by decide +kernel)
theorem ks_X5_coverHeads : Cond.selects RX5 yX5_coverHeads yX5_coverHeads ∈ wA := twp 13 (by decide +kernel) (by decide +kernel)
theorem ks_X3_cover : Cond.selects RX3 yX3_cover yX3_cover ∈ wA := twp 14 (by decide +kernel) (by decide +kernel)
theorem ks_X5_coverStem : Cond.selects RX5 yX5_coverStem yX5_coverStem ∈ wA := twp 15 (by decide +kernel) (by decide +kernel)
theorem ks_X5_laySlurs : Cond.selects RX5 yX5_laySlurs yX5_laySlurs ∈ wA := twp 16 (by decide +kernel) (by decide +kernel)
theorem ks_X5_outline : Cond.selects RX5 yX5_outline yX5_outline ∈ wA := twp 17 (by decide +kernel) (by decide +kernel)
theorem ks_X3_greatest : Cond.selects RX3 yX3_greatest yX3_greatest ∈ wA := twp 18 (by decide +kernel) (by decide +kernel)
theorem ks_X3_reachOut : Cond.selects RX3 yX3_reachOut yX3_reachOut ∈ wA := twp 19 (by decide +kernel) (by decide +kernel)
theorem ks_X5_queueMarks : Cond.selects RX5 yX5_queueMarks yX5_queueMarks ∈ wA := twp 20 (by decide +kernel) (by decide +kernel)
theorem ks_X0_haveBothVoices : Cond.selects RX0 yX0_haveBothVoices yX0_haveBothVoices ∈ wA := twp 21 (by decide +kernel) (by decide +kernel)
theorem ks_X5_leftEdge : Cond.selects RX5 yX5_leftEdge yX5_leftEdge ∈ wA := twp 22 (by decide +kernel) (by decide +kernel)
theorem ks_X1_liesFromX : Cond.selects RX1 yX1_liesFromX yX1_liesFromX ∈ wA := twp 23 (by decide +kernel) (by decide +kernel)
theorem ks_X5_chooseSide : Cond.selects RX5 yX5_chooseSide yX5_chooseSide ∈ wA := twp 24 (by decide +kernel) (by decide +kernel)
theorem ks_X5_queueMark : Cond.selects RX5 yX5_queueMark yX5_queueMark ∈ wA := twp 25 (by decide +kernel) (by decide +kernel)
theorem ks_X5_rank : Cond.selects RX5 yX5_rank yX5_rank ∈ wA := twp 26 (by decide +kernel) (by decide +kernel)
theorem ks_X1_rank : Cond.selects RX1 yX1_rank yX1_rank ∈ wA := twp 27 (by decide +kernel) (by decide +kernel)
theorem ks_X5_layMarks : Cond.selects RX5 yX5_layMarks yX5_layMarks ∈ wA := twp 28 (by decide +kernel) (by decide +kernel)
theorem ks_X1_isInRow : Cond.selects RX1 yX1_isInRow yX1_isInRow ∈ wA := twp 29 (by decide +kernel) (by decide +kernel)
theorem ks_X5_innerAlone : Cond.selects RX5 yX5_innerAlone yX5_innerAlone ∈ wA := twp 30 (by decide +kernel) (by decide +kernel)
theorem ks_X2_behind : Cond.selects RX2 yX2_behind yX2_behind ∈ wA := twp 31 (by decide +kernel) (by decide +kernel)
theorem ks_X5_layAt : Cond.selects RX5 yX5_layAt yX5_layAt ∈ wA := twp 32 (by decide +kernel) (by decide +kernel)
theorem ks_X5_layRow : Cond.selects RX5 yX5_layRow yX5_layRow ∈ wA := twp 33 (by decide +kernel) (by decide +kernel)
theorem ks_X5_fillRow : Cond.selects RX5 yX5_fillRow yX5_fillRow ∈ wA := twp 34 (by decide +kernel) (by decide +kernel)
theorem ks_X2_isOf : Cond.selects RX2 yX2_isOf yX2_isOf ∈ wA := twp 35 (by decide +kernel) (by decide +kernel)
theorem ks_X5_isFreeInRow : Cond.selects RX5 yX5_isFreeInRow yX5_isFreeInRow ∈ wA := twp 36 (by decide +kernel) (by decide +kernel)
theorem ks_X2_shareX : Cond.selects RX2 yX2_shareX yX2_shareX ∈ wA := twp 37 (by decide +kernel) (by decide +kernel)
theorem ks_X5_layRowMarks : Cond.selects RX5 yX5_layRowMarks yX5_layRowMarks ∈ wA := twp 38 (by decide +kernel) (by decide +kernel)
theorem ks_X5_layLate : Cond.selects RX5 yX5_layLate yX5_layLate ∈ wA := twp 39 (by decide +kernel) (by decide +kernel)
theorem ks_X5_lackOf : Cond.selects RX5 yX5_lackOf yX5_lackOf ∈ wA := twp 40 (by decide +kernel) (by decide +kernel)
theorem ks_X0_next : Cond.selects RX0 yX0_next yX0_next ∈ wA := twp 41 (by decide +kernel) (by decide +kernel)
theorem ks_X0_greatestX : Cond.selects RX0 yX0_greatestX yX0_greatestX ∈ wA := twp 42 (by decide +kernel) (by decide +kernel)
theorem ks_X0_moveBehind : Cond.selects RX0 yX0_moveBehind yX0_moveBehind ∈ wA := twp 43 (by decide +kernel) (by decide +kernel)
theorem ks_X2_countAt : Cond.selects RX2 yX2_countAt yX2_countAt ∈ wA := twp 44 (by decide +kernel) (by decide +kernel)
theorem ks_X5_demandPlaces : Cond.selects RX5 yX5_demandPlaces yX5_demandPlaces ∈ wA := twp 45 (by decide +kernel) (by decide +kernel)
theorem ks_X4_has : Cond.selects RX4 yX4_has yX4_has ∈ wA := twp 47 (by decide +kernel) (by decide +kernel)
theorem ks_X2_isOn : Cond.selects RX2 yX2_isOn yX2_isOn ∈ wA := twp 48 (by decide +kernel) (by decide +kernel)
theorem ks_X2_countNearer : Cond.selects RX2 yX2_countNearer yX2_countNearer ∈ wA := twp 49 (by decide +kernel) (by decide +kernel)
theorem ks_X2_countThere : Cond.selects RX2 yX2_countThere yX2_countThere ∈ wA := twp 50 (by decide +kernel) (by decide +kernel)
theorem ks_X5_outermost : Cond.selects RX5 yX5_outermost yX5_outermost ∈ wA := twp 51 (by decide +kernel) (by decide +kernel)
theorem ks_X6_isTaken : Cond.selects RX6 yX6_isTaken yX6_isTaken ∈ wA := twp 52 (by decide +kernel) (by decide +kernel)
theorem ks_X6_come : Cond.selects RX6 yX6_come yX6_come ∈ wA := twp 53 (by decide +kernel) (by decide +kernel)
theorem ks_X6_isItem : Cond.selects RX6 yX6_isItem yX6_isItem ∈ wA := twp 54 (by decide +kernel) (by decide +kernel)
theorem ks_X6_isMark : Cond.selects RX6 yX6_isMark yX6_isMark ∈ wA := twp 55 (by decide +kernel) (by decide +kernel)
theorem ks_X6_greatest : Cond.selects RX6 yX6_greatest yX6_greatest ∈ wA := twp 56 (by decide +kernel) (by decide +kernel)
theorem ks_X6_sideOf : Cond.selects RX6 yX6_sideOf yX6_sideOf ∈ wA := twp 57 (by decide +kernel) (by decide +kernel)
theorem ks_X6_areBoth : Cond.selects RX6 yX6_areBoth yX6_areBoth ∈ wA := twp 58 (by decide +kernel) (by decide +kernel)
theorem ks_X6_left : Cond.selects RX6 yX6_left yX6_left ∈ wA := twp 59 (by decide +kernel) (by decide +kernel)
theorem ks_X6_isAhead : Cond.selects RX6 yX6_isAhead yX6_isAhead ∈ wA := twp 60 (by decide +kernel) (by decide +kernel)
theorem ks_X6_lieRow : Cond.selects RX6 yX6_lieRow yX6_lieRow ∈ wA := twp 61 (by decide +kernel) (by decide +kernel)
theorem ks_X6_gather : Cond.selects RX6 yX6_gather yX6_gather ∈ wA := twp 62 (by decide +kernel) (by decide +kernel)
theorem ks_X6_cover : Cond.selects RX6 yX6_cover yX6_cover ∈ wA := twp 63 (by decide +kernel) (by decide +kernel)
theorem ks_X6_own : Cond.selects RX6 yX6_own yX6_own ∈ wA := twp 64 (by decide +kernel) (by decide +kernel)
theorem ks_X6_lie : Cond.selects RX6 yX6_lie yX6_lie ∈ wA := twp 65 (by decide +kernel) (by decide +kernel)
theorem ks_X6_throwsNow : Cond.selects RX6 yX6_throwsNow yX6_throwsNow ∈ wA := twp 66 (by decide +kernel) (by decide +kernel)
theorem ks_X6_lacks : Cond.selects RX6 yX6_lacks yX6_lacks ∈ wA := twp 67 (by decide +kernel) (by decide +kernel)
theorem ks_X6_nextOf : Cond.selects RX6 yX6_nextOf yX6_nextOf ∈ wA := twp 68 (by decide +kernel) (by decide +kernel)
theorem ks_X6_marksOf : Cond.selects RX6 yX6_marksOf yX6_marksOf ∈ wA := twp 69 (by decide +kernel) (by decide +kernel)
theorem ks_X6_outermost : Cond.selects RX6 yX6_outermost yX6_outermost ∈ wA := twp 70 (by decide +kernel) (by decide +kernel)
theorem iw_X0 : ∀ w ∈ u_ws RX0 TX0 7, w ∈ wA := List.forall_mem_cons.mpr ⟨tw1 41 (by decide +kernel) (by decide +kernel), List.forall_mem_cons.mpr ⟨tw1 43 (by decide +kernel) (by decide +kernel), List.forall_mem_cons.mpr ⟨tw1 45 (by decide +kernel) (by decide +kernel), List.forall_mem_cons.mpr ⟨tw1 47 (by decide +kernel) (by decide +kernel), List.forall_mem_cons.mpr ⟨tw1 49 (by decide +kernel) (by decide +kernel), List.forall_mem_cons.mpr ⟨tw1 51 (by decide +kernel) (by decide +kernel), List.forall_mem_cons.mpr ⟨tw1 53 (by decide +kernel) (by decide +kernel), fun _ h => nomatch h⟩⟩⟩⟩⟩⟩⟩
theorem iw_X1 : ∀ w ∈ u_ws RX1 TX1 1, w ∈ wA := List.forall_mem_cons.mpr ⟨tw1 66 (by decide +kernel) (by decide +kernel), fun _ h => nomatch h⟩
theorem iw_X2 : ∀ w ∈ u_ws RX2 TX2 12, w ∈ wA := List.forall_mem_cons.mpr ⟨tw1 99 (by decide +kernel) (by decide +kernel), List.forall_mem_cons.mpr ⟨tw1 101 (by decide +kernel) (by decide +kernel), List.forall_mem_cons.mpr ⟨tw1 103 (by decide +kernel) (by decide +kernel), List.forall_mem_cons.mpr ⟨tw1 105 (by decide +kernel) (by decide +kernel), List.forall_mem_cons.mpr ⟨tw1 107 (by decide +kernel) (by decide +kernel), List.forall_mem_cons.mpr ⟨tw1 109 (by decide +kernel) (by decide +kernel), List.forall_mem_cons.mpr ⟨tw1 111 (by decide +kernel) (by decide +kernel), List.forall_mem_cons.mpr ⟨tw1 113 (by decide +kernel) (by decide +kernel), List.forall_mem_cons.mpr ⟨tw1 115 (by decide +kernel) (by decide +kernel), List.forall_mem_cons.mpr ⟨tw1 117 (by decide +kernel) (by decide +kernel), List.forall_mem_cons.mpr ⟨tw1 119 (by decide +kernel) (by decide +kernel), List.forall_mem_cons.mpr ⟨tw1 121 (by decide +kernel) (by decide +kernel), fun _ h => nomatch h⟩⟩⟩⟩⟩⟩⟩⟩⟩⟩⟩⟩
theorem iw_X3 : ∀ w ∈ u_ws RX3 TX3 6, w ∈ wA := List.forall_mem_cons.mpr ⟨tw1 174 (by decide +kernel) (by decide +kernel), List.forall_mem_cons.mpr ⟨tw1 176 (by decide +kernel) (by decide +kernel), List.forall_mem_cons.mpr ⟨tw1 178 (by decide +kernel) (by decide +kernel), List.forall_mem_cons.mpr ⟨tw1 180 (by decide +kernel) (by decide +kernel), List.forall_mem_cons.mpr ⟨tw1 182 (by decide +kernel) (by decide +kernel), List.forall_mem_cons.mpr ⟨tw1 184 (by decide +kernel) (by decide +kernel), fun _ h => nomatch h⟩⟩⟩⟩⟩⟩
theorem iw_X4 : ∀ w ∈ u_ws RX4 TX4 7, w ∈ wA := List.forall_mem_cons.mpr ⟨tw1 145 (by decide +kernel) (by decide +kernel), List.forall_mem_cons.mpr ⟨tw1 147 (by decide +kernel) (by decide +kernel), List.forall_mem_cons.mpr ⟨tw1 149 (by decide +kernel) (by decide +kernel), List.forall_mem_cons.mpr ⟨tw1 151 (by decide +kernel) (by decide +kernel), List.forall_mem_cons.mpr ⟨tw1 153 (by decide +kernel) (by decide +kernel), List.forall_mem_cons.mpr ⟨tw1 155 (by decide +kernel) (by decide +kernel), List.forall_mem_cons.mpr ⟨tw1 157 (by decide +kernel) (by decide +kernel), fun _ h => nomatch h⟩⟩⟩⟩⟩⟩⟩
theorem iw_X5 : ∀ w ∈ u_ws RX5 TX5 10, w ∈ wA := List.forall_mem_cons.mpr ⟨tw1 197 (by decide +kernel) (by decide +kernel), List.forall_mem_cons.mpr ⟨tw1 199 (by decide +kernel) (by decide +kernel), List.forall_mem_cons.mpr ⟨tw1 201 (by decide +kernel) (by decide +kernel), List.forall_mem_cons.mpr ⟨tw1 203 (by decide +kernel) (by decide +kernel), List.forall_mem_cons.mpr ⟨tw1 205 (by decide +kernel) (by decide +kernel), List.forall_mem_cons.mpr ⟨tw1 207 (by decide +kernel) (by decide +kernel), List.forall_mem_cons.mpr ⟨tw1 209 (by decide +kernel) (by decide +kernel), List.forall_mem_cons.mpr ⟨tw1 211 (by decide +kernel) (by decide +kernel), List.forall_mem_cons.mpr ⟨tw1 213 (by decide +kernel) (by decide +kernel), List.forall_mem_cons.mpr ⟨tw1 215 (by decide +kernel) (by decide +kernel), fun _ h => nomatch h⟩⟩⟩⟩⟩⟩⟩⟩⟩⟩
theorem iw_X6 : ∀ w ∈ u_ws RX6 TX6 31, w ∈ wA := List.forall_mem_cons.mpr ⟨tw3 165 (by decide +kernel) (by decide +kernel), List.forall_mem_cons.mpr ⟨tw3 167 (by decide +kernel) (by decide +kernel), List.forall_mem_cons.mpr ⟨tw3 169 (by decide +kernel) (by decide +kernel), List.forall_mem_cons.mpr ⟨tw3 171 (by decide +kernel) (by decide +kernel), List.forall_mem_cons.mpr ⟨tw3 173 (by decide +kernel) (by decide +kernel), List.forall_mem_cons.mpr ⟨tw3 175 (by decide +kernel) (by decide +kernel), List.forall_mem_cons.mpr ⟨tw3 177 (by decide +kernel) (by decide +kernel), List.forall_mem_cons.mpr ⟨tw3 179 (by decide +kernel) (by decide +kernel), List.forall_mem_cons.mpr ⟨tw3 181 (by decide +kernel) (by decide +kernel), List.forall_mem_cons.mpr ⟨tw3 183 (by decide +kernel) (by decide +kernel), List.forall_mem_cons.mpr ⟨tw3 185 (by decide +kernel) (by decide +kernel), List.forall_mem_cons.mpr ⟨tw3 187 (by decide +kernel) (by decide +kernel), List.forall_mem_cons.mpr ⟨tw3 189 (by decide +kernel) (by decide +kernel), List.forall_mem_cons.mpr ⟨tw3 191 (by decide +kernel) (by decide +kernel), List.forall_mem_cons.mpr ⟨tw3 193 (by decide +kernel) (by decide +kernel), List.forall_mem_cons.mpr ⟨tw3 195 (by decide +kernel) (by decide +kernel), List.forall_mem_cons.mpr ⟨tw3 197 (by decide +kernel) (by decide +kernel), List.forall_mem_cons.mpr ⟨tw3 199 (by decide +kernel) (by decide +kernel), List.forall_mem_cons.mpr ⟨tw3 201 (by decide +kernel) (by decide +kernel), List.forall_mem_cons.mpr ⟨tw3 203 (by decide +kernel) (by decide +kernel), List.forall_mem_cons.mpr ⟨tw3 205 (by decide +kernel) (by decide +kernel), List.forall_mem_cons.mpr ⟨tw3 207 (by decide +kernel) (by decide +kernel), List.forall_mem_cons.mpr ⟨tw3 209 (by decide +kernel) (by decide +kernel), List.forall_mem_cons.mpr ⟨tw3 211 (by decide +kernel) (by decide +kernel), List.forall_mem_cons.mpr ⟨tw3 213 (by decide +kernel) (by decide +kernel), List.forall_mem_cons.mpr ⟨tw3 215 (by decide +kernel) (by decide +kernel), List.forall_mem_cons.mpr ⟨tw3 217 (by decide +kernel) (by decide +kernel), List.forall_mem_cons.mpr ⟨tw3 219 (by decide +kernel) (by decide +kernel), List.forall_mem_cons.mpr ⟨tw3 221 (by decide +kernel) (by decide +kernel), List.forall_mem_cons.mpr ⟨tw3 223 (by decide +kernel) (by decide +kernel), List.forall_mem_cons.mpr ⟨tw3 225 (by decide +kernel) (by decide +kernel), fun _ h => nomatch h⟩⟩⟩⟩⟩⟩⟩⟩⟩⟩⟩⟩⟩⟩⟩⟩⟩⟩⟩⟩⟩⟩⟩⟩⟩⟩⟩⟩⟩⟩⟩
end
section
/-! A small interpreter over pictures: numbers and named cells; it is sound for the machine (xa_stp .. below). -/
abbrev AV : Type := Int32 ⊕ Nat
abbrev XS : Type := Nat → Nat → Int32
abbrev RS : Type := XS × Option (Option AV)
abbrev LV : Type := List (Nat × AV)
abbrev KT : Type := Nat → LV → List AV → XS → Option RS
abbrev BT : Type := LV → List AV → XS → Option RS
abbrev MT : Type := List AV → XS → Option RS
/-- a cell of a world: an array (of booleans?, its length) or an object (its kind, its fields: a named cell or a number) -/
abbrev WE : Type := (Bool × Nat) ⊕ (Nat × List (Option Nat))
/-- a row of code: pc, instruction, next pc, numbers (targets, or kind and slot, or which call), constant -/
abbrev CE : Type := Nat × Instr × Nat × List Nat × Int32
/-- a callee: static?, index, number of arguments with the receiver, sort of answer, the receiver's kind, what it does -/
abbrev CT : Type := Bool × Nat × Nat × Nat × Nat × MT
def up2 (S : XS) (k i : Nat) (v : Int32) : XS := fun a => if a = k then upd (S k) i v else S a
def cv (g : Nat → Nat) (v : AV) : Value := match v with
  | .inl x => .int x
  | .inr k => .ref (g k)
def wfd (g : Nat → Nat) (S : XS) (k q : Nat) (d : Option Nat) : Value := match d with
  | some j => .ref (g j)
  | none => .int (S k q)
def wce (g : Nat → Nat) (cI cZ : ClassId) (S : XS) (k : Nat) (w : WE) : Nat × va_E := (g k, match w with
  | .inl (z, n) => .inl (bif z then cZ else cI, n, .inl (S k))
  | .inr (ci, fds) => .inr (ci, fds.mapIdx (wfd g S k)))
def ww (T : List WE) (g : Nat → Nat) (cI cZ : ClassId) (S : XS) : va_W := T.mapIdx (wce g cI cZ S)
def lvc (g : Nat → Nat) (lv : LV) : List (Nat × Value) := lv.map (fun q => (q.1, cv g q.2))
def lk : LV → Nat → Option AV
  | [], _ => none
  | (j, v) :: t, i => bif Nat.beq j i then some v else lk t i
def dl : LV → Nat → LV
  | [], _ => []
  | (j, v) :: t, i => bif Nat.beq j i then dl t i else (j, v) :: dl t i
def pk : LV → List Nat → Option LV
  | _, [] => some []
  | lv, i :: t => match lk lv i with
    | none => none
    | some v => match pk lv t with
      | none => none
      | some r => some ((i, v) :: r)
def ldi (lv : LV) (i : Nat) (k : Int32 → Option RS) : Option RS := match lk lv i with
  | some (.inl x) => k x
  | _ => none
def ldr (lv : LV) (i : Nat) (k : Nat → Option RS) : Option RS := match lk lv i with
  | some (.inr o) => k o
  | _ => none
def pi1 (st : List AV) (k : Int32 → List AV → Option RS) : Option RS := match st with
  | .inl x :: r => k x r
  | _ => none
def pr1 (st : List AV) (k : Nat → List AV → Option RS) : Option RS := match st with
  | .inr o :: r => k o r
  | _ => none
def brc (cd : Jvm.ClassFile.Cond) (x y : Int32) (a b : Option RS) : Option RS := match cd with
  | .eq => if x = y then a else b
  | .ne => if x = y then b else a
  | .lt => if x < y then a else b
  | .ge => if y ≤ x then a else b
  | .gt => if y < x then a else b
  | .le => if x ≤ y then a else b
def gf (T : List WE) (o ci q : Nat) (S : XS) (k : AV → Option RS) : Option RS := match T[o]? with
  | some (.inr (c, fds)) => bif Nat.beq c ci then (match fds[q]? with
    | some (some j) => k (.inr j)
    | some none => k (.inl (S o q))
    | none => none) else none
  | _ => none
/-- a field of a number is written; zb: it is a boolean -/
def pf (T : List WE) (o ci q zb : Nat) (x : Int32) (k : Option RS) : Option RS := match T[o]? with
  | some (.inr (c, fds)) => bif Nat.beq c ci then (match fds[q]? with
    | some none => bif Nat.beq zb 0 then k else (if x = 0 ∨ x = 1 then k else none)
    | _ => none) else none
  | _ => none
def gd (c : Prop) [Decidable c] (k : Option RS) : Option RS := if c then k else none
/-- the place i of an array of n -/
def inA (i : Int32) (n : Nat) : Prop := 0 ≤ i.toInt ∧ i.toInt < (n : Int)
def gA (i : Int32) (n : Nat) (k : Option RS) : Option RS := if 0 ≤ i.toInt ∧ i.toInt < (n : Int) then k else none
/-- the static tables: the most that a setting may be (cell 40), what it is at first (cell 41) -/
def mostf (j : Nat) : Int32 := [9, 3, 1, 20, 1, 1].getD j 0
def firstf (j : Nat) : Int32 := [0, 1, 0, 2, 0, 0].getD j 0
def al (T : List WE) (o : Nat) (z : Bool) (i : Int32) (S : XS) (k : Int32 → Option RS) : Option RS := match T[o]? with
  | some (.inl (z', n)) => bif z' == z then gA i n (k (S o i.toNatClampNeg)) else none
  | some (.inr _) => none
  | none => bif Nat.beq o 40 && !z then gA i 6 (k (mostf i.toNatClampNeg)) else bif Nat.beq o 41 && !z then gA i 6 (k (firstf i.toNatClampNeg)) else none
def ast (T : List WE) (o : Nat) (z : Bool) (i : Int32) (k : Option RS) : Option RS := match T[o]? with
  | some (.inl (z', n)) => bif z' == z then gA i n k else none
  | _ => none
def tsw (x : Int32) (lo : Int) (ts : List Nat) (d : Nat) (k : Nat → Option RS) : Option RS := match ts with
  | [] => k d
  | t :: ts => if x.toInt = lo then k t else tsw x (lo + 1) ts d k
def clv (o : Option RS) (k : XS → Option RS) : Option RS := match o with
  | some (S1, some none) => k S1
  | some (S1, none) => some (S1, none)
  | _ => none
def cli (o : Option RS) (k : XS → Int32 → Option RS) : Option RS := match o with
  | some (S1, some (some (.inl x))) => k S1 x
  | some (S1, none) => some (S1, none)
  | _ => none
def clr (o : Option RS) (k5 k6 : XS → Option RS) : Option RS := match o with
  | some (S1, some (some (.inr a))) => bif Nat.beq a 5 then k5 S1 else bif Nat.beq a 6 then k6 S1 else none
  | some (S1, none) => some (S1, none)
  | _ => none
def crk (rk : Nat) (o : Option RS) (r : List AV) (k : List AV → XS → Option RS) : Option RS := match rk with
  | 0 => clv o (fun S1 => k r S1)
  | 1 => cli o (fun S1 x => k (.inl x :: r) S1)
  | _ => clr o (fun S1 => k (.inr 5 :: r) S1) (fun S1 => k (.inr 6 :: r) S1)
def rcv (T : List WE) (ci : Nat) (As : List AV) : Bool := match As with
  | .inr o :: _ => (match T[o]? with
    | some (.inr (c, _)) => Nat.beq c ci
    | _ => false)
  | _ => false
def cal (T : List WE) (cs : List CT) (sta : Bool) (idx j : Nat) (st : List AV) (S : XS) (k : List AV → XS → Option RS) : Option RS := match cs[j]? with
  | none => none
  | some (sta', idx', n, rk, ci, sem) => bif (sta == sta' && Nat.beq idx idx' && Nat.ble n st.length && Nat.ble (st.length - n) 8 && (sta || rcv T ci (st.take n).reverse)) then crk rk (sem (st.take n).reverse S) (st.drop n) k else none
def reti (zb : Nat) (st : List AV) (S : XS) : Option RS := match st with
  | [.inl x] => bif Nat.beq zb 0 then some (S, some (some (.inl x))) else (if x = 0 ∨ x = 1 then some (S, some (some (.inl x))) else none)
  | _ => none
def retr (st : List AV) (S : XS) : Option RS := match st with
  | [.inr o] => some (S, some (some (.inr o)))
  | _ => none
def retv (st : List AV) (S : XS) : Option RS := match st with
  | [] => some (S, some none)
  | _ => none
/-- one instruction -/
def stp (T : List WE) (cs : List CT) (i : Instr) (np : Nat) (ns : List Nat) (v : Int32) (lv : LV) (st : List AV) (S : XS) (K : KT) : Option RS := match i with
  | .iconst _ => K np lv (.inl v :: st) S
  | .bipush _ => K np lv (.inl v :: st) S
  | .sipush _ => K np lv (.inl v :: st) S
  | .ldc _ => K np lv (.inl v :: st) S
  | .ldc_w _ => K np lv (.inl v :: st) S
  | .iload_n n => ldi lv n (fun x => K np lv (.inl x :: st) S)
  | .iload n => ldi lv n (fun x => K np lv (.inl x :: st) S)
  | .aload_n n => ldr lv n (fun o => K np lv (.inr o :: st) S)
  | .aload n => ldr lv n (fun o => K np lv (.inr o :: st) S)
  | .istore_n n => pi1 st (fun x r => K np ((n.val, .inl x) :: dl lv n) r S)
  | .istore n => pi1 st (fun x r => K np ((n, .inl x) :: dl lv n) r S)
  | .astore_n n => pr1 st (fun o r => K np ((n.val, .inr o) :: dl lv n) r S)
  | .astore n => pr1 st (fun o r => K np ((n, .inr o) :: dl lv n) r S)
  | .iinc n _ => ldi lv n (fun x => K np ((n, .inl (x + v)) :: dl lv n) st S)
  | .iadd => pi1 st (fun y r => pi1 r (fun x r => K np lv (.inl (x + y) :: r) S))
  | .isub => pi1 st (fun y r => pi1 r (fun x r => K np lv (.inl (x - y) :: r) S))
  | .imul => pi1 st (fun y r => pi1 r (fun x r => K np lv (.inl (x * y) :: r) S))
  | .iand => pi1 st (fun y r => pi1 r (fun x r => K np lv (.inl (x &&& y) :: r) S))
  | .ior => pi1 st (fun y r => pi1 r (fun x r => K np lv (.inl (x ||| y) :: r) S))
  | .idiv => pi1 st (fun y r => pi1 r (fun x r => if y = 0 then none else K np lv (.inl (x / y) :: r) S))
  | .ineg => pi1 st (fun x r => K np lv (.inl (-x) :: r) S)
  | .ifCond cd _ => pi1 st (fun x r => brc cd x 0 (K (ns.headD 0) lv r S) (K np lv r S))
  | .if_icmp cd _ => pi1 st (fun y r => pi1 r (fun x r => brc cd x y (K (ns.headD 0) lv r S) (K np lv r S)))
  | .goto _ => K (ns.headD 0) lv st S
  | .tableswitch _ lo _ _ => pi1 st (fun x r => tsw x lo ns.tail (ns.headD 0) (fun t => K t lv r S))
  | .dup => (match st with
    | v :: r => K np lv (v :: v :: r) S
    | [] => none)
  | .dup2 => (match st with
    | v :: w :: r => K np lv (v :: w :: v :: w :: r) S
    | _ => none)
  | .getstatic _ => K np lv (.inr (ns.headD 0) :: st) S
  | .getfield _ => pr1 st (fun o r => gf T o (ns.headD 0) (ns.getD 1 0) S (fun x => K np lv (x :: r) S))
  | .putfield _ => pi1 st (fun x r => pr1 r (fun o r => pf T o (ns.headD 0) (ns.getD 1 0) (ns.getD 2 0) x (K np lv r (up2 S o (ns.getD 1 0) x))))
  | .iaload => pi1 st (fun i r => pr1 r (fun o r => al T o false i S (fun x => K np lv (.inl x :: r) S)))
  | .baload => pi1 st (fun i r => pr1 r (fun o r => al T o true i S (fun x => K np lv (.inl x :: r) S)))
  | .iastore => pi1 st (fun x r => pi1 r (fun i r => pr1 r (fun o r => ast T o false i (K np lv r (up2 S o i.toNatClampNeg x)))))
  | .bastore => pi1 st (fun x r => pi1 r (fun i r => pr1 r (fun o r => ast T o true i (K np lv r (up2 S o i.toNatClampNeg (vp_nar .boolean x))))))
  | .invokevirtual idx => cal T cs false idx (ns.headD 0) st S (fun r S1 => K np lv r S1)
  | .invokestatic idx => cal T cs true idx (ns.headD 0) st S (fun r S1 => K np lv r S1)
  | .ireturn => reti (ns.headD 0) st S
  | .areturn => retr st S
  | .return_ => retv st S
  | _ => none
def fnd : List CE → Nat → Option (CE × List CE)
  | [], _ => none
  | q :: t, pc => bif Nat.beq q.1 pc then some (q, t) else fnd t pc
/-- the row at pc, and those behind it: most often the first of those at hand -/
def nxt (L suf : List CE) (pc : Nat) : Option (CE × List CE) := match suf with
  | [] => fnd L pc
  | q :: t => bif Nat.beq q.1 pc then some (q, t) else fnd L pc
def mem1 : List Nat → Nat → Bool
  | [], _ => false
  | q :: t, pc => bif Nat.beq q pc then true else mem1 t pc
/-- runs until it comes to one of the stops -/
def brn (T : List WE) (cs : List CT) (L : List CE) (ss : List Nat) (K : KT) : Nat → List CE → KT
  | 0 => fun _ _ _ _ _ => none
  | n + 1 => fun suf pc lv st S => match nxt L suf pc with
    | none => none
    | some ((_, i, np, ns, v), t) => stp T cs i np ns v lv st S (fun pc lv st S => bif mem1 ss pc then K pc lv st S else brn T cs L ss K n t pc lv st S)
/-- which block stands at a stop: its pc, its locals, itself -/
def dsp : List (Nat × List Nat × BT) → KT
  | [], _, _, _, _ => none
  | (q, live, f) :: t, pc, lv, st, S => bif Nat.beq q pc then (match pk lv live with
    | some lv' => f lv' st S
    | none => none) else dsp t pc lv st S
def zipN : Nat → List AV → LV
  | _, [] => []
  | n, v :: t => (n, v) :: zipN (n + 1) t
/-- what a row of code must be -/
def opk (nL zb : Nat) (q : CE) : Bool := match q with
  | (pc, i, _, ns, v) => match i with
    | .iconst n => decide (Int32.ofInt n = v)
    | .bipush n => decide ((Int8.ofInt n).toInt32 = v)
    | .sipush n => decide ((Int16.ofInt n).toInt32 = v)
    | .ireturn => decide (ns.headD 0 = zb) && decide (zb ≤ 1)
    | .return_ => decide (zb = 2)
    | .areturn => decide (zb = 3)
    | .istore_n n => decide (n.val < nL)
    | .istore n => decide (n < nL)
    | .astore_n n => decide (n.val < nL)
    | .astore n => decide (n < nL)
    | .iinc n c => decide (Int32.ofInt c = v) && decide (n < nL)
    | .ifCond _ o => decide ((pc : Int) + o = ((ns.headD 0 : Nat) : Int))
    | .if_icmp _ o => decide ((pc : Int) + o = ((ns.headD 0 : Nat) : Int))
    | .goto o => decide ((pc : Int) + o = ((ns.headD 0 : Nat) : Int))
    | .tableswitch d lo hi os => decide ((pc : Int) + d = ((ns.headD 0 : Nat) : Int)) && decide (hi = lo + os.size - 1) && decide (os.toList.map (fun o => (pc : Int) + o) = ns.tail.map (fun (t : Nat) => (t : Int)))
    | _ => true
def ntab (i : Instr) : Bool := match i with
  | .tableswitch _ _ _ _ => false
  | _ => true
def ilen (i : Instr) : Nat := match i with
  | .bipush _ => 2
  | .sipush _ => 3
  | .ldc _ => 2
  | .ldc_w _ => 3
  | .iload _ => 2
  | .aload _ => 2
  | .istore _ => 2
  | .astore _ => 2
  | .iinc _ _ => 3
  | .ifCond _ _ => 3
  | .if_icmp _ _ => 3
  | .goto _ => 3
  | .getfield _ => 3
  | .putfield _ => 3
  | .getstatic _ => 3
  | .invokevirtual _ => 3
  | .invokestatic _ => 3
  | _ => 1
/-- a row's links stand in the lists of its own kind's: fields read, fields written, constants -/
def fck (ft : List (Nat × Nat × Nat)) (pt : List (Nat × Nat × Nat × Nat)) (kt : List (Nat × Int32)) (q : CE) : Bool := match q with
  | (_, i, _, ns, v) => match i with
    | .getfield k => decide ((k, ns.headD 0, ns.getD 1 0) ∈ ft) && decide (ns.headD 0 ≠ 9)
    | .putfield k => decide ((k, ns.headD 0, ns.getD 1 0, ns.getD 2 0) ∈ pt)
    | .ldc k => decide ((k, v) ∈ kt)
    | .ldc_w k => decide ((k, v) ∈ kt)
    | .getstatic k => decide ((k, 9, ns.headD 0) ∈ ft)
    | _ => true
/-- a row of code is what the bytes say -/
def rok (cc : ByteArray) (nL zb : Nat) (q : CE) : Bool := decide (decode cc q.1 = .ok (q.2.1, q.2.2.1 - q.1)) && (!ntab q.2.1 || decide (q.2.2.1 = q.1 + ilen q.2.1)) && opk nL zb q
theorem up2_eq {S : XS} {k i : Nat} {v : Int32} : up2 S k i v k = upd (S k) i v := by simp [up2]
theorem up2_ne {S : XS} {k i j : Nat} {v : Int32} (h : j ≠ k) : up2 S k i v j = S j := by simp [up2, h]
theorem wce_ne {g : Nat → Nat} {cI cZ : ClassId} {S : XS} {k i j : Nat} {v : Int32} (h : j ≠ k) (w : WE) : wce g cI cZ (up2 S k i v) j w = wce g cI cZ S j w := by
  have hw : wfd g (up2 S k i v) j = wfd g S j := by
    funext q d
    unfold wfd
    rw [up2_ne h]
  unfold wce
  rw [hw, up2_ne h]
theorem ww_get {T : List WE} {g : Nat → Nat} {cI cZ : ClassId} {S : XS} {k : Nat} {w : WE} (h : T[k]? = some w) : (ww T g cI cZ S)[k]? = some (wce g cI cZ S k w) := by
  unfold ww
  rw [List.getElem?_mapIdx, h]
  rfl
theorem ww_set {T : List WE} {g : Nat → Nat} {cI cZ : ClassId} {S : XS} {k i : Nat} {v : Int32} {w : WE} {x : Nat × va_E} (h : T[k]? = some w) (hx : x = wce g cI cZ (up2 S k i v) k w) : (ww T g cI cZ S).set k x = ww T g cI cZ (up2 S k i v) := by
  apply List.ext_getElem?
  intro j
  unfold ww
  rw [List.getElem?_set, List.getElem?_mapIdx, List.getElem?_mapIdx]
  have hk : k < T.length := (List.getElem?_eq_some_iff.mp h).1
  by_cases e : k = j
  · subst e
    rw [if_pos rfl, h, List.length_mapIdx, if_pos hk, hx]
    rfl
  · rw [if_neg e]
    cases T[j]? with
    | none => rfl
    | some w2 => exact congrArg some (wce_ne (fun q => e q.symm) w2).symm
theorem lk_at {ls : Array Slot} {nL : Nat} {g : Nat → Nat} {lv : LV} {i : Nat} {v : AV} (h : lv_has ls nL (lvc g lv)) (hk : lk lv i = some v) : ls[i]? = some (.val (cv g v)) := by
  obtain ⟨-, -, h⟩ := h
  induction lv with
  | nil => cases hk
  | cons q t ih =>
    obtain ⟨j, w⟩ := q
    unfold lk at hk
    cases e : Nat.beq j i with
    | true =>
      rw [e] at hk
      cases Option.some.inj hk
      cases Nat.eq_of_beq_eq_true e
      exact h _ List.mem_cons_self
    | false =>
      rw [e] at hk
      exact ih hk (fun q hq => h q (List.mem_cons_of_mem _ hq))
theorem dl_sub {lv : LV} {i : Nat} : ∀ q ∈ dl lv i, q ∈ lv ∧ q.1 ≠ i := by
  induction lv with
  | nil => intro q h; cases h
  | cons w t ih =>
    obtain ⟨j, v⟩ := w
    intro q h
    unfold dl at h
    cases e : Nat.beq j i with
    | true =>
      rw [e] at h
      exact ⟨List.mem_cons_of_mem _ (ih q h).1, (ih q h).2⟩
    | false =>
      rw [e] at h
      rcases List.mem_cons.mp h with h | h
      · subst h
        exact ⟨List.mem_cons_self, Nat.ne_of_beq_eq_false e⟩
      · exact ⟨List.mem_cons_of_mem _ (ih q h).1, (ih q h).2⟩
theorem cv_cat (g : Nat → Nat) (v : AV) : (cv g v).category = 1 := by
  cases v <;> rfl
theorem lv_dl {ls : Array Slot} {nL i : Nat} {g : Nat → Nat} {lv : LV} {v : AV} {lv' : List (Nat × Value)} (hl : (i, cv g v) :: (lvc g lv).filter (fun q => !(q.1 == i) && !(q.1 + 1 == i && q.2.category == 2)) = lv') (h : lv_has ls nL lv') : lv_has ls nL (lvc g ((i, v) :: dl lv i)) := by
  refine ⟨h.1, h.2.1, fun q hq => h.2.2 q ?_⟩
  rw [← hl]
  rcases List.mem_cons.mp hq with e | e
  · rw [e]; exact List.mem_cons_self
  · refine List.mem_cons_of_mem _ (List.mem_filter.mpr ?_)
    obtain ⟨w, hw, rfl⟩ := List.mem_map.mp e
    obtain ⟨h1, h2⟩ := dl_sub w hw
    refine ⟨List.mem_map.mpr ⟨w, h1, rfl⟩, ?_⟩
    simp [cv_cat, h2]
theorem pk_has {ls : Array Slot} {nL : Nat} {g : Nat → Nat} {lv : LV} (h : lv_has ls nL (lvc g lv)) : ∀ (live : List Nat) (lv' : LV), pk lv live = some lv' → lv_has ls nL (lvc g lv') := by
  intro live
  induction live with
  | nil =>
    intro lv' e
    unfold pk at e
    cases Option.some.inj e
    exact ⟨h.1, h.2.1, fun q hq => nomatch hq⟩
  | cons i t ih =>
    intro lv' e
    unfold pk at e
    cases e1 : lk lv i with
    | none => rw [e1] at e; cases e
    | some v =>
      rw [e1] at e
      dsimp only at e
      cases e2 : pk lv t with
      | none => rw [e2] at e; cases e
      | some r =>
        rw [e2] at e
        cases Option.some.inj e
        refine ⟨h.1, h.2.1, fun q hq => ?_⟩
        rcases List.mem_cons.mp hq with e3 | e3
        · rw [e3]; exact lk_at h e1
        · exact (ih r e2).2.2 q e3
theorem fnd_mem {L : List CE} {pc : Nat} {q : CE} {t : List CE} (h : fnd L pc = some (q, t)) : q ∈ L ∧ q.1 = pc ∧ ∀ z ∈ t, z ∈ L := by
  induction L with
  | nil => cases h
  | cons w u ih =>
    unfold fnd at h
    cases e : Nat.beq w.1 pc with
    | true =>
      rw [e] at h
      cases Option.some.inj h
      exact ⟨List.mem_cons_self, Nat.eq_of_beq_eq_true e, fun z hz => List.mem_cons_of_mem _ hz⟩
    | false =>
      rw [e] at h
      exact ⟨List.mem_cons_of_mem _ (ih h).1, (ih h).2.1, fun z hz => List.mem_cons_of_mem _ ((ih h).2.2 z hz)⟩
theorem nxt_mem {L suf : List CE} {pc : Nat} {q : CE} {t : List CE} (hs : ∀ z ∈ suf, z ∈ L) (h : nxt L suf pc = some (q, t)) : q ∈ L ∧ q.1 = pc ∧ ∀ z ∈ t, z ∈ L := by
  unfold nxt at h
  split at h
  · exact fnd_mem h
  · rename_i w u
    cases e : Nat.beq w.1 pc with
    | true =>
      rw [e] at h
      cases Option.some.inj h
      exact ⟨hs _ List.mem_cons_self, Nat.eq_of_beq_eq_true e, fun z hz => hs z (List.mem_cons_of_mem _ hz)⟩
    | false =>
      rw [e] at h
      exact fnd_mem h
theorem ldi_some {lv : LV} {i : Nat} {k : Int32 → Option RS} {R : RS} (h : ldi lv i k = some R) : ∃ x, lk lv i = some (.inl x) ∧ k x = some R := by
  unfold ldi at h
  split at h
  · exact ⟨_, by assumption, h⟩
  · cases h
theorem ldr_some {lv : LV} {i : Nat} {k : Nat → Option RS} {R : RS} (h : ldr lv i k = some R) : ∃ o, lk lv i = some (.inr o) ∧ k o = some R := by
  unfold ldr at h
  split at h
  · exact ⟨_, by assumption, h⟩
  · cases h
theorem pi1_some {st : List AV} {k : Int32 → List AV → Option RS} {R : RS} (h : pi1 st k = some R) : ∃ x r, st = .inl x :: r ∧ k x r = some R := by
  unfold pi1 at h
  split at h
  · exact ⟨_, _, rfl, h⟩
  · cases h
theorem pr1_some {st : List AV} {k : Nat → List AV → Option RS} {R : RS} (h : pr1 st k = some R) : ∃ o r, st = .inr o :: r ∧ k o r = some R := by
  unfold pr1 at h
  split at h
  · exact ⟨_, _, rfl, h⟩
  · cases h
theorem gA_some {i : Int32} {n : Nat} {k : Option RS} {R : RS} (h : gA i n k = some R) : vp_in i n ∧ k = some R := by
  unfold gA at h
  split at h
  · exact ⟨vp_in_iff.mpr (by assumption), h⟩
  · cases h
theorem al_some {T : List WE} {o : Nat} {z : Bool} {i : Int32} {S : XS} {k : Int32 → Option RS} {R : RS} (h : al T o z i S k = some R) : (∃ n, T[o]? = some (.inl (z, n)) ∧ vp_in i n ∧ k (S o i.toNatClampNeg) = some R) ∨ (o = 40 ∧ z = false ∧ vp_in i 6 ∧ k (mostf i.toNatClampNeg) = some R) ∨ (o = 41 ∧ z = false ∧ vp_in i 6 ∧ k (firstf i.toNatClampNeg) = some R) := by
  unfold al at h
  split at h
  · rename_i z' n e
    cases hz : z' == z with
    | true =>
      rw [hz] at h
      cases (beq_iff_eq.mp hz)
      exact Or.inl ⟨n, e, gA_some h⟩
    | false => rw [hz] at h; cases h
  · cases h
  · cases z with
    | true => cases h40 : Nat.beq o 40 <;> cases h41 : Nat.beq o 41 <;> (rw [h40, h41] at h; cases h)
    | false =>
      cases h40 : Nat.beq o 40 with
      | true =>
        rw [h40] at h
        exact Or.inr (Or.inl ⟨Nat.eq_of_beq_eq_true h40, rfl, gA_some h⟩)
      | false =>
        rw [h40] at h
        cases h41 : Nat.beq o 41 with
        | true =>
          rw [h41] at h
          exact Or.inr (Or.inr ⟨Nat.eq_of_beq_eq_true h41, rfl, gA_some h⟩)
        | false => rw [h41] at h; cases h
theorem ast_some {T : List WE} {o : Nat} {z : Bool} {i : Int32} {k : Option RS} {R : RS} (h : ast T o z i k = some R) : ∃ n, T[o]? = some (.inl (z, n)) ∧ vp_in i n ∧ k = some R := by
  unfold ast at h
  split at h
  · rename_i z' n e
    cases hz : z' == z with
    | true =>
      rw [hz] at h
      cases (beq_iff_eq.mp hz)
      exact ⟨n, e, gA_some h⟩
    | false => rw [hz] at h; cases h
  · cases h
def fdv (S : XS) (k q : Nat) (d : Option Nat) : AV := match d with
  | some j => .inr j
  | none => .inl (S k q)
theorem gf_some {T : List WE} {o ci q : Nat} {S : XS} {k : AV → Option RS} {R : RS} (h : gf T o ci q S k = some R) : ∃ fds d, T[o]? = some (.inr (ci, fds)) ∧ fds[q]? = some d ∧ k (fdv S o q d) = some R := by
  unfold gf at h
  split at h
  · rename_i c fds e
    cases hz : Nat.beq c ci with
    | true =>
      rw [hz] at h
      cases Nat.eq_of_beq_eq_true hz
      dsimp only [cond_true] at h
      split at h
      · exact ⟨fds, some _, e, by assumption, h⟩
      · exact ⟨fds, none, e, by assumption, h⟩
      · cases h
    | false => rw [hz] at h; cases h
  · cases h
theorem pf_some {T : List WE} {o ci q zb : Nat} {x : Int32} {k : Option RS} {R : RS} (h : pf T o ci q zb x k = some R) : ∃ fds, T[o]? = some (.inr (ci, fds)) ∧ fds[q]? = some none ∧ (zb = 0 ∨ x = 0 ∨ x = 1) ∧ k = some R := by
  unfold pf at h
  split at h
  · rename_i c fds e
    cases hz : Nat.beq c ci with
    | true =>
      rw [hz] at h
      cases Nat.eq_of_beq_eq_true hz
      dsimp only [cond_true] at h
      split at h
      · rename_i e2
        cases hb : Nat.beq zb 0 with
        | true =>
          rw [hb] at h
          exact ⟨fds, e, e2, Or.inl (Nat.eq_of_beq_eq_true hb), h⟩
        | false =>
          rw [hb] at h
          dsimp only [cond_false] at h
          split at h
          · exact ⟨fds, e, e2, Or.inr (by assumption), h⟩
          · cases h
      · cases h
    | false => rw [hz] at h; cases h
  · cases h
theorem crk_some {rk : Nat} {o : Option RS} {r : List AV} {k : List AV → XS → Option RS} {R : RS} (h : crk rk o r k = some R) : ∃ q, o = some q ∧ (match q.2 with
    | none => R = (q.1, none)
    | some v => k (v.toList ++ r) q.1 = some R) := by
  unfold crk at h
  split at h
  · unfold clv at h
    split at h
    · exact ⟨_, rfl, h⟩
    · exact ⟨_, rfl, (Option.some.inj h).symm⟩
    · cases h
  · unfold cli at h
    split at h
    · exact ⟨_, rfl, h⟩
    · exact ⟨_, rfl, (Option.some.inj h).symm⟩
    · cases h
  · unfold clr at h
    split at h
    · rename_i S1 a
      cases e5 : Nat.beq a 5 with
      | true =>
        rw [e5] at h
        cases Nat.eq_of_beq_eq_true e5
        exact ⟨_, rfl, h⟩
      | false =>
        rw [e5] at h
        dsimp only [cond_false] at h
        cases e6 : Nat.beq a 6 with
        | true =>
          rw [e6] at h
          cases Nat.eq_of_beq_eq_true e6
          exact ⟨_, rfl, h⟩
        | false => rw [e6] at h; cases h
    · exact ⟨_, rfl, (Option.some.inj h).symm⟩
    · cases h
theorem rcv_some {T : List WE} {ci : Nat} {As : List AV} (h : rcv T ci As = true) : ∃ o fds t, As = .inr o :: t ∧ T[o]? = some (.inr (ci, fds)) := by
  unfold rcv at h
  split at h
  · split at h
    · rename_i e
      cases Nat.eq_of_beq_eq_true h
      exact ⟨_, _, _, rfl, e⟩
    · cases h
  · cases h
theorem cal_some {T : List WE} {cs : List CT} {sta : Bool} {idx j : Nat} {st : List AV} {S : XS} {k : List AV → XS → Option RS} {R : RS} (h : cal T cs sta idx j st S k = some R) : ∃ n rk ci sem, cs[j]? = some (sta, idx, n, rk, ci, sem) ∧ n ≤ st.length ∧ st.length - n ≤ 8 ∧ (sta = true ∨ rcv T ci (st.take n).reverse = true) ∧ crk rk (sem (st.take n).reverse S) (st.drop n) k = some R := by
  unfold cal at h
  split at h
  · cases h
  · rename_i sta' idx' n rk ci sem e
    cases hc : (sta == sta' && Nat.beq idx idx' && Nat.ble n st.length && Nat.ble (st.length - n) 8 && (sta || rcv T ci (st.take n).reverse)) with
    | false => rw [hc] at h; cases h
    | true =>
      rw [hc] at h
      simp only [Bool.and_eq_true, beq_iff_eq, Bool.or_eq_true] at hc
      obtain ⟨⟨⟨⟨h1, h2⟩, h3⟩, h4⟩, h5⟩ := hc
      cases h1
      cases Nat.eq_of_beq_eq_true h2
      exact ⟨n, rk, ci, sem, e, Nat.le_of_ble_eq_true h3, Nat.le_of_ble_eq_true h4, h5, h⟩
theorem tsw_some {x : Int32} {d : Nat} {k : Nat → Option RS} {R : RS} : ∀ (ts : List Nat) (lo : Int), tsw x lo ts d k = some R → (∃ (i : Nat) (t : Nat), ts[i]? = some t ∧ x.toInt = lo + i ∧ k t = some R) ∨ ((x.toInt < lo ∨ lo + ts.length ≤ x.toInt) ∧ k d = some R) := by
  intro ts
  induction ts with
  | nil =>
    intro lo h
    refine Or.inr ⟨?_, h⟩
    simp only [List.length_nil]
    omega
  | cons t ts ih =>
    intro lo h
    unfold tsw at h
    split at h
    · exact Or.inl ⟨0, t, rfl, by omega, h⟩
    · rename_i hne
      rcases ih (lo + 1) h with ⟨i, t', h1, h2, h3⟩ | ⟨h1, h2⟩
      · exact Or.inl ⟨i + 1, t', h1, by omega, h3⟩
      · refine Or.inr ⟨?_, h2⟩
        simp only [List.length_cons]
        omega
end
section
/-! ===== BEGIN exceptions that leave a method, and their catching by the caller (launches without stack traces) ===== -/
section VXA
/-! The laws vx_back, vx_callV, vx_callS, vx_callSW, vx_throw0, vx_throwS follow proofs of the library, with one case more: JvmDerived/Free/Laws.lean (Back.of_free), Shelf42/LK1.lean (callV, callS), Shelf/KitTraced.lean (throwNew0V, throwNewS). -/
def vx_T (XC : String → State → State → Prop) (st : State) (q : Addr) (t : State) (mc ms : Nat) (free : Addr → Prop) : Prop :=
  ∃ (E : String) (ce : Cell) (L : List Loc), XC E st t ∧ t.heap[q]? = some ce ∧ ce.vm = .none ∧ st.vm.findClass E = some ce.cls ∧ st.WarmedH t.vm ∧ st.sameButNew ({ t with vm := st.vm } : State) L mc ms ∧ ∀ z ∈ L, free z.base
def vx_Q (Qc : Array Value → State → Outcome → State → Prop) (XC : String → State → State → Prop) (mc ms : Nat) (free : Addr → Prop) : Array Value → State → Outcome → State → Prop := fun a st o t =>
  (Qc a st o t ∧ ∃ L, FrameEnd st o t L mc ms ∧ ∀ q ∈ L, free q.base) ∨ ∃ q, o = .threw q ∧ vx_T XC st q t mc ms free
def vx_Met (l : Launch) (y : MethodName) (ws : List Cond) (rm : Room) (Pc : Array Value → State → Prop) (Qc : Array Value → State → Outcome → State → Prop) (XC : String → State → State → Prop) (mc ms : Nat) (free : Addr → Prop) : Prop :=
  MetFree l y (headSpec ws rm) Pc (fun _ _ _ _ _ => True) (vx_Q Qc XC mc ms free)
def vx_Post (XC : String → State → State → Prop) (mc ms : Nat) (free : Addr → Prop) : Pt → Array Value → Addr → Pt → Prop := fun A a q B =>
  ∃ (g : JFrame) (mk : MethodId) (t : State) (L : List Loc) (E : String) (ce : Cell), B.U.heap = t.heap ∧ B.U.vm = t.vm ∧ XC E (A.U.calling g mk a) t ∧ t.heap[q]? = some ce ∧ ce.vm = .none ∧ A.U.vm.findClass E = some ce.cls ∧ B.locs = A.locs ++ L ∧ (∀ z ∈ L, free z.base) ∧ B.cells = A.cells + mc ∧ B.slots = A.slots + ms
def vx_Back (l : Launch) (R : Room) (p : Program) (e : Env) (below : List Frame) (s : State) (sargs : Array Value) (y : MethodName) (len W9 : Nat)
    (Pre : Pt → Array Value → Prop) (Post : Pt → Array Value → Option Value → Pt → Prop) (PostX : Pt → Array Value → Addr → Pt → Prop) : Prop :=
  ∀ (m : MethodId) (meth : Method) (c : Code) (A : Pt) (g : JFrame) (ig : Instr) (mk : MethodId) (a : Array Value),
    Stand p l e R s m sargs below meth c A.U A.locs A.cells A.slots → g.method = m → g.locals.size = c.maxLocals → decode c.code g.pc = .ok (ig, len) →
    2 * g.monitorRoom + (g.stack.map fun v => v.category).sum ≤ W9 → A.U.methodNamed? y = some mk → Pre A a →
    (∃ (v : Option Value) (B : Pt), Stand p l e R s m sargs below meth c B.U B.locs B.cells B.slots ∧ Post A a v B ∧
      Steps p.tables e below (doInvoke e (A.U.setTop g) [] mk a).1 (B.U.setTop { g with pc := g.pc + len, stack := v.toList ++ g.stack })) ∨
    (∃ (q : Addr) (B : Pt), Stand p l e R s m sargs below meth c B.U B.locs B.cells B.slots ∧ PostX A a q B ∧
      Steps p.tables e below (doInvoke e (A.U.setTop g) [] mk a).1 ((B.U.setTop g).pushFrame (.throwing q)))
section Payer
variable {l : Launch} {R : Room} {p : Program} {e : Env} {below : List Frame} {s : State} {sargs : Array Value} {y : MethodName} {len W9 : Nat}
theorem vx_back {ws : List Cond} {rm : Room} {Pc : Array Value → State → Prop} {Qc : Array Value → State → Outcome → State → Prop} {XC : String → State → State → Prop} {mc ms : Nat} {free : Addr → Prop} {bytes : ByteArray} {maxL : Nat} {ret : Option FieldType}
    (hM : vx_Met l y ws rm Pc Qc XC mc ms free) (hblind : FrameBlind Pc) (hrc : rm.cells = mc) (hrs : rm.slots = ms)
    (hframes : rm.frames + 1 ≤ R.frames) (hlocals : W9 + (maxL + 11) + rm.locals ≤ R.locals)
    (hws : ∀ w ∈ ws, ∀ a' U, s.WarmedH U.vm → w.before a' U = true) (hcode : Cond.code y bytes maxL ret ∈ ws) (hinit : ∀ a' U, s.WarmedH U.vm → (Cond.initialized y.cls).before a' U = true) :
    vx_Back l R p e below s sargs y len W9 (PreOf R mc ms Pc) (PostOf Qc mc ms free) (vx_Post XC mc ms free) := by
  intro m meth c A g ig mk a X hg hsize hdg hW hn hp
  have h1 : (headSpec ws rm).pre.before a A.U = true := atoms_intro fun w hw => hws w hw _ _ X.warmed
  have h2 : (Cond.code y bytes maxL ret).before a A.U = true := hws _ hcode _ _ X.warmed
  have h3 : (Cond.initialized y.cls).before a A.U = true := hinit _ _ X.warmed
  have h4 : A.cells + (headSpec ws rm).room.cells ≤ R.cells := by rw [show (headSpec ws rm).room.cells = mc from hrc]; exact hp.1
  have h5 : A.slots + (headSpec ws rm).room.slots ≤ R.slots := by rw [show (headSpec ws rm).room.slots = ms from hrs]; exact hp.2.1
  have hPc : Pc a (A.U.calling g mk a) := hblind _ _ _ _ hp.2.2
  obtain ⟨U, Ls, c0, s0⟩ := A
  dsimp only [Pt.U, Pt.locs, Pt.cells, Pt.slots] at h1 h2 h3 h4 h5 X hn hPc ⊢
  obtain ⟨methY, cY, hmY, hcY, -, hlY, -, -, -, -⟩ := Cond.code_spec hn h2
  obtain ⟨kY, hkY, -⟩ := className_of_methodNamed hn
  have hinitY : kY.init = .initialized := Cond.initialized_spec (findClass_of_methodNamed hn) hkY h3
  have h : At U g.method c below := by rw [hg]; exact X.here
  have hlocals9 : W9 + (maxL + 11) + (headSpec ws rm).room.locals ≤ R.locals := hlocals
  have happ : (headSpec ws rm).appliesLoose y e.platform (U.calling g mk a) = true :=
    Spec.appliesLoose_calling (g := g) h hdg hn hkY hinitY
      (X.room_calling (g := g) (R' := (headSpec ws rm).room) hsize hmY hcY hframes (by rw [hlY]; omega) h4 h5) h1
  obtain ⟨mid, hmid⟩ := h.above
  have hfr : (U.setTop g).frames = (.java g :: mid) ++ below := by rw [State.frames_setTop' g h.top, hmid]; rfl
  obtain ⟨o, s₂, hsteps, -, hend, hq⟩ := Steps.callFree hM p X.admits X.cas X.clock (acts := []) hfr happ hPc trivial
  have hq' : vx_Q Qc XC mc ms free a (U.calling g mk a) o s₂ := hq
  rw [State.frames_setTop' g h.top] at hend
  obtain ⟨g₀, hg0⟩ := Option.isSome_iff_exists.mp h.top
  obtain ⟨r, hr⟩ := State.topJava?_eq_some.mp hg0
  have hr' : (({ U with heap := s₂.heap, slotsUsed := s₂.slotsUsed } : State).setVm s₂.vm).frames = .java g₀ :: r := hr
  rcases hq' with ⟨hqc, L, hfe, hL⟩ | ⟨q, rfl, E, ce, L, hx, hce, hcv, hcl, hW₂, hsm, hL⟩
  · obtain ⟨⟨v, rfl⟩, hW₂, e2, q2, q3, q4, q5, q6⟩ := id hfe
    have e3 : s₂ = ({ (U.calling g mk a).setFrames s₂.frames with heap := s₂.heap, slotsUsed := s₂.slotsUsed } : State).setVm s₂.vm := by
      have : s₂ = ({ s₂ with vm := (U.calling g mk a).vm } : State).setVm s₂.vm := rfl
      rw [e2] at this
      exact this
    obtain ⟨c₂, i₂, len₂, hc₂, hd₂, hf₂⟩ := hend
    have hW' : U.WarmedH s₂.vm := hW₂
    have hcc : c₂ = c := by
      have h1 : s₂.code? g.method = U.code? g.method := by
        rw [State.code?_eq, State.code?_eq, hW'.alike.method?]
      exact Option.some.inj (hc₂.symm.trans (h1.trans h.code))
    subst hcc
    have hlen : len₂ = len := by rw [hdg] at hd₂; cases hd₂; rfl
    subst hlen
    have hs₂ : s₂ = (({ U with heap := s₂.heap, slotsUsed := s₂.slotsUsed } : State).setVm s₂.vm).setTop { g with pc := g.pc + len₂, stack := v.toList ++ g.stack } := by
      refine e3.trans ?_
      rw [hf₂, State.calling_eq h.top, State.setFrames_setFrames, State.setTop_of_frames _ hr', hr]
      rfl
    have hsame : U.sameButNew ({ U with heap := s₂.heap, slotsUsed := s₂.slotsUsed } : State) L mc ms := by
      refine ⟨?_, q2, q3, q4, q5, q6⟩
      obtain ⟨t, ht, -⟩ := State.frames_cons hr
      show ({ U with heap := s₂.heap, slotsUsed := s₂.slotsUsed } : State) = { U.setFrames U.frames with heap := s₂.heap, slotsUsed := s₂.slotsUsed }
      rw [State.setFrames_self ht]
    subst hg
    refine Or.inl ⟨v, ⟨(({ U with heap := s₂.heap, slotsUsed := s₂.slotsUsed } : State).setVm s₂.vm), Ls ++ L, c0 + mc, s0 + ms⟩,
      ⟨X.admits, X.cas, X.clock, X.frames, X.room, X.hears, X.method, X.code, (X.here.setHeapUsed s₂.heap s₂.slotsUsed).setVm hW'.alike, X.tail, State.WarmedH.trans X.warmed hW', X.limits, X.bytes, X.same.trans (hsame.setVm s.vm)⟩,
      ⟨g, mk, s₂, L, rfl, rfl, hqc, rfl, hL, rfl, rfl⟩, ?_⟩
    show Steps p.tables e below _ ((({ U with heap := s₂.heap, slotsUsed := s₂.slotsUsed } : State).setVm s₂.vm).setTop { g with pc := g.pc + len₂, stack := v.toList ++ g.stack })
    rw [← hs₂]
    exact hsteps
  · obtain ⟨e2, q2, q3, q4, q5, q6⟩ := id hsm
    have e3 : s₂ = ({ (U.calling g mk a).setFrames s₂.frames with heap := s₂.heap, slotsUsed := s₂.slotsUsed } : State).setVm s₂.vm := by
      have : s₂ = ({ s₂ with vm := (U.calling g mk a).vm } : State).setVm s₂.vm := rfl
      rw [e2] at this
      exact this
    have hf₂ : s₂.frames = .throwing q :: .java g :: U.frames.tail := hend
    have hW' : U.WarmedH s₂.vm := hW₂
    have hs₂ : s₂ = ((({ U with heap := s₂.heap, slotsUsed := s₂.slotsUsed } : State).setVm s₂.vm).setTop g).pushFrame (.throwing q) := by
      refine e3.trans ?_
      rw [hf₂, State.calling_eq h.top, State.setFrames_setFrames, State.pushFrame, State.frames_setTop _ hr', State.setTop_of_frames _ hr', State.setFrames_setFrames, hr]
      rfl
    have hsame : U.sameButNew ({ U with heap := s₂.heap, slotsUsed := s₂.slotsUsed } : State) L mc ms := by
      refine ⟨?_, q2, q3, q4, q5, q6⟩
      obtain ⟨t, ht, -⟩ := State.frames_cons hr
      show ({ U with heap := s₂.heap, slotsUsed := s₂.slotsUsed } : State) = { U.setFrames U.frames with heap := s₂.heap, slotsUsed := s₂.slotsUsed }
      rw [State.setFrames_self ht]
    subst hg
    refine Or.inr ⟨q, ⟨(({ U with heap := s₂.heap, slotsUsed := s₂.slotsUsed } : State).setVm s₂.vm), Ls ++ L, c0 + mc, s0 + ms⟩,
      ⟨X.admits, X.cas, X.clock, X.frames, X.room, X.hears, X.method, X.code, (X.here.setHeapUsed s₂.heap s₂.slotsUsed).setVm hW'.alike, X.tail, State.WarmedH.trans X.warmed hW', X.limits, X.bytes, X.same.trans (hsame.setVm s.vm)⟩,
      ⟨g, mk, s₂, L, E, ce, rfl, rfl, hx, hce, hcv, hcl, rfl, hL, rfl, rfl⟩, ?_⟩
    show Steps p.tables e below _ (((({ U with heap := s₂.heap, slotsUsed := s₂.slotsUsed } : State).setVm s₂.vm).setTop g).pushFrame (.throwing q))
    rw [← hs₂]
    exact hsteps
end Payer
section Calls
variable {p : Program} {l : Launch} {e : Env} {R : Room} {s : State} {m : MethodId} {args : Array Value} {below : List Frame} {meth : Method} {c : Code} {T : State} {locs : List Loc} {cells slots : Nat}
theorem vx_callV (X : Stand p l e R s m args below meth c T locs cells slots) (hexec : p.tables.exec = Jvm.exec) {own C : String} {index : Nat} {y : MethodName} {bytes : ByteArray} {maxL : Nat} {ret : Option FieldType}
    (hown : s.vm.findClass own = some m.cls) (hlink : (Cond.methodLink own index y).before args s = true) (hinst : (Cond.instanceMethod y).before args s = true) (hsel : (Cond.selects C y y).before args s = true)
    (hcode : (Cond.code y bytes maxL ret).before args s = true) (hy : y.cls ≠ "java/lang/invoke/MethodHandle" ∧ y.cls ≠ "java/lang/invoke/VarHandle")
    {W9 : Nat} {Pre : Pt → Array Value → Prop} {Post : Pt → Array Value → Option Value → Pt → Prop} {PostX : Pt → Array Value → Addr → Pt → Prop} (hK : vx_Back l R p e below s args y 3 W9 Pre Post PostX)
    {b : Addr} {cellB : Cell} (hcell : T.heap[b]? = some cellB) (hobj : cellB.vm.isStatics = false) (hcls : s.vm.findClass C = some cellB.cls)
    {g : JFrame} (hg : g.method = m) (hsize : g.locals.size = c.maxLocals) {argsL rest : List Value} (hlen : ∀ sig, parseMethodDescriptor y.desc = some sig → argsL.length = sig.parameters.length)
    (hstack : g.stack = argsL.reverse ++ .ref b :: rest) (hW : 2 * g.monitorRoom + (rest.map fun v => v.category).sum ≤ W9) (hdg : decode c.code g.pc = .ok (.invokevirtual index, 3))
    (hpre : ∀ vm₁, s.WarmedH vm₁ → Pre ⟨T.setVm vm₁, locs, cells, slots⟩ (Value.ref b :: argsL).toArray) :
    (∃ (v : Option Value) (vm₁ : Vm) (B : Pt), s.WarmedH vm₁ ∧ Stand p l e R s m args below meth c B.U B.locs B.cells B.slots ∧ Post ⟨T.setVm vm₁, locs, cells, slots⟩ (Value.ref b :: argsL).toArray v B ∧
      ∀ target, Steps p.tables e below (B.U.setTop { g with pc := g.pc + 3, stack := v.toList ++ rest }) target → Steps p.tables e below (T.setTop g) target) ∨
    (∃ (q : Addr) (vm₁ : Vm) (B : Pt), s.WarmedH vm₁ ∧ Stand p l e R s m args below meth c B.U B.locs B.cells B.slots ∧ PostX ⟨T.setVm vm₁, locs, cells, slots⟩ (Value.ref b :: argsL).toArray q B ∧
      Steps p.tables e below (T.setTop g) ((B.U.setTop { g with stack := rest }).pushFrame (.throwing q))) := by
  obtain ⟨mk, methM, hnamed, hmethM, hstM, habM⟩ := Cond.instanceMethod_spec hinst
  obtain ⟨methM', cM, hmethM', -, -, -, -, -, -, hsigM⟩ := Cond.code_spec hnamed hcode
  cases hmethM.symm.trans hmethM'
  obtain ⟨c2, r2, m2, q1, q2, q3, q4, kP, hkP, hkPi⟩ := Cond.selects_spec hsel
  cases hcls.symm.trans q1
  cases (State.methodFound?_of_named hnamed hy).symm.trans q2
  cases hnamed.symm.trans q3
  have hselP : selectMethod e.platform s.vm cellB.cls mk = .method mk := by rw [Launch.admits_selectMethod X.admits]; exact q4
  obtain ⟨vm₁, X₁, hstep₁⟩ := X.invokevirtual hexec hown hlink hnamed hmethM hstM hkP hkPi hy (a := b) (cell := cellB) hcell
    (fun z h => by rw [h] at hobj; cases hobj) hselP hmethM habM hkP hkPi (g := g) hg (argsL := argsL) (rest := rest) (hlen _ hsigM) hstack hdg
  rcases hK m meth c ⟨T.setVm vm₁, locs, cells, slots⟩ { g with stack := rest } (.invokevirtual index) mk (Value.ref b :: argsL).toArray X₁ hg hsize hdg hW (X₁.named hnamed) (hpre vm₁ X₁.warmed) with ⟨v, B, X', hpost, hsteps⟩ | ⟨q, B, X', hpost, hsteps⟩
  · exact Or.inl ⟨v, vm₁, B, X₁.warmed, X', hpost, fun target h => hstep₁ _ fun acts => by rw [doInvoke_state]; exact hsteps.trans h⟩
  · exact Or.inr ⟨q, vm₁, B, X₁.warmed, X', hpost, hstep₁ _ fun acts => by rw [doInvoke_state]; exact hsteps⟩
theorem vx_callS (X : Stand p l e R s m args below meth c T locs cells slots) (hexec : p.tables.exec = Jvm.exec) {own : String} {index : Nat} {y : MethodName} {bytes : ByteArray} {maxL : Nat} {ret : Option FieldType}
    (hown : s.vm.findClass own = some m.cls) (hlink : (Cond.methodLink own index y).before args s = true) (hstat : (Cond.static y).before args s = true) (hinit : (Cond.initialized y.cls).before args s = true)
    (hcode : (Cond.code y bytes maxL ret).before args s = true) (hy : y.cls ≠ "java/lang/invoke/MethodHandle" ∧ y.cls ≠ "java/lang/invoke/VarHandle")
    {W9 : Nat} {Pre : Pt → Array Value → Prop} {Post : Pt → Array Value → Option Value → Pt → Prop} {PostX : Pt → Array Value → Addr → Pt → Prop} (hK : vx_Back l R p e below s args y 3 W9 Pre Post PostX)
    {g : JFrame} (hg : g.method = m) (hsize : g.locals.size = c.maxLocals) {argsL rest : List Value} (hlen : ∀ sig, parseMethodDescriptor y.desc = some sig → argsL.length = sig.parameters.length)
    (hstack : g.stack = argsL.reverse ++ rest) (hW : 2 * g.monitorRoom + (rest.map fun v => v.category).sum ≤ W9) (hdg : decode c.code g.pc = .ok (.invokestatic index, 3))
    (hpre : ∀ vm₁, s.WarmedH vm₁ → Pre ⟨T.setVm vm₁, locs, cells, slots⟩ argsL.toArray) :
    (∃ (v : Option Value) (vm₁ : Vm) (B : Pt), s.WarmedH vm₁ ∧ Stand p l e R s m args below meth c B.U B.locs B.cells B.slots ∧ Post ⟨T.setVm vm₁, locs, cells, slots⟩ argsL.toArray v B ∧
      ∀ target, Steps p.tables e below (B.U.setTop { g with pc := g.pc + 3, stack := v.toList ++ rest }) target → Steps p.tables e below (T.setTop g) target) ∨
    (∃ (q : Addr) (vm₁ : Vm) (B : Pt), s.WarmedH vm₁ ∧ Stand p l e R s m args below meth c B.U B.locs B.cells B.slots ∧ PostX ⟨T.setVm vm₁, locs, cells, slots⟩ argsL.toArray q B ∧
      Steps p.tables e below (T.setTop g) ((B.U.setTop { g with stack := rest }).pushFrame (.throwing q))) := by
  obtain ⟨mk, hnamed⟩ := Cond.code_named hcode
  obtain ⟨methM, cM, hmethM, -, -, -, -, -, -, hsigM⟩ := Cond.code_spec hnamed hcode
  have hstatic : methM.isStatic = true := Cond.static_spec hnamed hmethM hstat
  obtain ⟨kP, hkP, -⟩ := className_of_methodNamed hnamed
  have hinitP : kP.init = .initialized := Cond.initialized_spec (findClass_of_methodNamed hnamed) hkP hinit
  obtain ⟨vm₁, X₁, hstep₁⟩ := X.invokestatic hexec hown hlink hnamed hmethM hstatic hkP hinitP hy (g := g) hg (argsL := argsL) (rest := rest) (hlen _ hsigM) hstack hdg
  rcases hK m meth c ⟨T.setVm vm₁, locs, cells, slots⟩ { g with stack := rest } (.invokestatic index) mk argsL.toArray X₁ hg hsize hdg hW (X₁.named hnamed) (hpre vm₁ X₁.warmed) with ⟨v, B, X', hpost, hsteps⟩ | ⟨q, B, X', hpost, hsteps⟩
  · exact Or.inl ⟨v, vm₁, B, X₁.warmed, X', hpost, fun target h => hstep₁ _ fun acts => by rw [doInvoke_state]; exact hsteps.trans h⟩
  · exact Or.inr ⟨q, vm₁, B, X₁.warmed, X', hpost, hstep₁ _ fun acts => by rw [doInvoke_state]; exact hsteps⟩
end Calls
theorem vx_cls {s : State} {T : State} {vm₁ : Vm} {E : String} {k : ClassId} (hW : s.WarmedH vm₁) (h : (T.setVm vm₁).vm.findClass E = some k) : s.vm.findClass E = some k := by
  have h1 : vm₁.findClass E = some k := h
  rw [hW.alike.findClass] at h1
  exact h1
def vx_W (p : Program) (l : Launch) (e : Env) (R : Room) (s : State) (m : MethodId) (args : Array Value) (below : List Frame) (meth : Method) (c : Code) (H : Heap) (locs : List Loc) (cells slots : Nat) (Q : State → Prop) (g : JFrame) (q : Addr) : Prop :=
  ∀ T : State, T.heap = H → Stand p l e R s m args below meth c T locs cells slots → ∃ t, Steps p.tables e below ((T.setTop g).pushFrame (.throwing q)) t ∧ Q t
def vx_Run (p : Program) (l : Launch) (e : Env) (R : Room) (s : State) (m : MethodId) (args : Array Value) (below : List Frame) (meth : Method) (c : Code) (H : Heap) (locs : List Loc) (cells slots mc ms : Nat) (g : JFrame) (rest : List Value) (Qa : State → Outcome → State → Prop) (XC : String → State → State → Prop) (free : Addr → Prop) : Prop :=
  ∀ T : State, T.heap = H → Stand p l e R s m args below meth c T locs cells slots →
    (∃ (v : Option Value) (st₀ t T' : State) (L : List Loc), st₀.heap = H ∧ Stand p l e R s m args below meth c T' (locs ++ L) (cells + mc) (slots + ms) ∧ (∀ q ∈ L, free q.base) ∧ T'.heap = t.heap ∧ T'.vm = t.vm ∧ Qa st₀ (.returned v) t ∧
      Goes p e below T g T' { g with pc := g.pc + 3, stack := v.toList ++ rest }) ∨
    (∃ (q : Addr) (st₀ t T' : State) (L : List Loc) (E : String) (ce : Cell), st₀.heap = H ∧ Stand p l e R s m args below meth c T' (locs ++ L) (cells + mc) (slots + ms) ∧ (∀ z ∈ L, free z.base) ∧ T'.heap = t.heap ∧ T'.vm = t.vm ∧ XC E st₀ t ∧ t.heap[q]? = some ce ∧ ce.vm = .none ∧ s.vm.findClass E = some ce.cls ∧
      Steps p.tables e below (T.setTop g) ((T'.setTop { g with stack := rest }).pushFrame (.throwing q)))
def vx_X {S : Type} (px : S → Prop) (B : String → S → State → Prop) (A : Nat → Prop) : String → State → State → Prop := fun E st t => ∃ u : S, px u ∧ B E u t ∧ va_F A st t
section Runs
variable {p : Program} {l : Launch} {e : Env} {R : Room} {s : State} {m : MethodId} {args : Array Value} {below : List Frame} {meth : Method} {c : Code} {H : Heap} {locs : List Loc} {cells slots : Nat}
variable {y : MethodName} {bytes cc : ByteArray} {maxL nL mc ms n index : Nat} {ret : Option FieldType} {ws : List Cond} {rm : Room} {Pc : Array Value → State → Prop} {Qc : Array Value → State → Outcome → State → Prop} {XC : String → State → State → Prop} {free : Addr → Prop} {Ts : List Cond} {own C : String} {b : Addr} {As rest : List Value} {g : JFrame}
theorem vx_callBack (cb : CallB R s args own index y bytes maxL ret ws rm mc ms n) (hM : vx_Met l y ws rm Pc Qc XC mc ms free) (hbl : FrameBlind Pc) : vx_Back l R p e below s args y 3 8 (PreOf R mc ms Pc) (PostOf Qc mc ms free) (vx_Post XC mc ms free) := by
  obtain ⟨hrc, hrs, hfr, hlo, hws, hcw, -, hini, -⟩ := cb
  exact vx_back (bytes := bytes) (maxL := maxL) (ret := ret) hM hbl hrc hrs hfr hlo hws hcw (fun a' U hW => word_at hW (Or.inl (by first | rfl | simp [Cond.onTables, Cond.keeps, Cond.steady])) hini)
theorem vx_runV (S : CallFix p m c cc nL s args Ts own) (hM : vx_Met l y ws rm Pc Qc XC mc ms free) (cw : CallW R s args own C index y bytes maxL ret ws rm mc ms n) (hp : PreV s H C b Pc As)
    (hg : g.method = m) (hn : As.length = n) (hsize : g.locals.size = nL) (hstack : g.stack = As.reverse ++ .ref b :: rest) (hW : 2 * g.monitorRoom + (rest.map fun v => v.category).sum ≤ 8) (hdg : decode cc g.pc = .ok (.invokevirtual index, 3)) (hf : cells + mc ≤ R.cells ∧ slots + ms ≤ R.slots) :
    vx_Run p l e R s m args below meth c H locs cells slots mc ms g rest (Qc (Value.ref b :: As).toArray) XC free := by
  have hK : vx_Back l R p e below s args y 3 8 (PreOf R mc ms Pc) (PostOf Qc mc ms free) (vx_Post XC mc ms free) := vx_callBack cw.1 hM hp.1
  obtain ⟨⟨-, -, -, -, -, -, hcode, -, hy, hlen, hl⟩, hin, hse⟩ := cw
  obtain ⟨hx, hb, hml, ho, -⟩ := S
  obtain ⟨-, ⟨cellB, hcB, hoB, hclB⟩, hPc⟩ := hp
  intro T hT X
  rcases vx_callV X hx (C := C) (bytes := bytes) (maxL := maxL) (ret := ret) ho hl hin hse hcode hy hK (by rw [hT]; exact hcB) hoB hclB hg (hsize.trans hml.symm) (argsL := As) (rest := rest) (fun sig h => hn.trans (hlen sig h)) hstack hW (by rw [hb]; exact hdg)
    (fun vm₁ hW₁ => ⟨hf.1, hf.2, hPc (T.setVm vm₁) hT hW₁⟩) with ⟨v, vm₁, ⟨U', l2, c2, s2⟩, hW₁, X', ⟨g', mk, t, L, e1, e2, hq, h1, hL, h2, h3⟩, st⟩ | ⟨q, vm₁, ⟨U', l2, c2, s2⟩, hW₁, X', ⟨g', mk, t, L, E, ce, e1, e2, hq, hce, hcv, hcl, h1, hL, h2, h3⟩, st⟩
  · dsimp only [Pt.U, Pt.locs, Pt.cells, Pt.slots] at X' e1 e2 h1 h2 h3 st
    subst h1; subst h2; subst h3
    exact Or.inl ⟨v, (T.setVm vm₁).calling g' mk (Value.ref b :: As).toArray, t, U', L, hT, X', hL, e1, e2, hq, st⟩
  · dsimp only [Pt.U, Pt.locs, Pt.cells, Pt.slots] at X' e1 e2 h1 h2 h3 st hcl
    subst h1; subst h2; subst h3
    exact Or.inr ⟨q, (T.setVm vm₁).calling g' mk (Value.ref b :: As).toArray, t, U', L, E, ce, hT, X', hL, e1, e2, hq, hce, hcv, vx_cls hW₁ hcl, st⟩
theorem vx_runS (S : CallFix p m c cc nL s args Ts own) (hM : vx_Met l y ws rm Pc Qc XC mc ms free) (cw : CallB R s args own index y bytes maxL ret ws rm mc ms n ∧ (Cond.static y).before args s = true) (hp : PreS s H Pc As)
    (hg : g.method = m) (hn : As.length = n) (hsize : g.locals.size = nL) (hstack : g.stack = As.reverse ++ rest) (hW : 2 * g.monitorRoom + (rest.map fun v => v.category).sum ≤ 8) (hdg : decode cc g.pc = .ok (.invokestatic index, 3)) (hf : cells + mc ≤ R.cells ∧ slots + ms ≤ R.slots) :
    vx_Run p l e R s m args below meth c H locs cells slots mc ms g rest (Qc As.toArray) XC free := by
  have hK : vx_Back l R p e below s args y 3 8 (PreOf R mc ms Pc) (PostOf Qc mc ms free) (vx_Post XC mc ms free) := vx_callBack cw.1 hM hp.1
  obtain ⟨⟨-, -, -, -, -, -, hcode, hini, hy, hlen, hl⟩, hstt⟩ := cw
  obtain ⟨hx, hb, hml, ho, -⟩ := S
  intro T hT X
  rcases vx_callS X hx (bytes := bytes) (maxL := maxL) (ret := ret) ho hl hstt hini hcode hy hK hg (hsize.trans hml.symm) (argsL := As) (rest := rest) (fun sig h => hn.trans (hlen sig h)) hstack hW (by rw [hb]; exact hdg)
    (fun vm₁ hW₁ => ⟨hf.1, hf.2, hp.2 (T.setVm vm₁) hT hW₁⟩) with ⟨v, vm₁, ⟨U', l2, c2, s2⟩, hW₁, X', ⟨g', mk, t, L, e1, e2, hq, h1, hL, h2, h3⟩, st⟩ | ⟨q, vm₁, ⟨U', l2, c2, s2⟩, hW₁, X', ⟨g', mk, t, L, E, ce, e1, e2, hq, hce, hcv, hcl, h1, hL, h2, h3⟩, st⟩
  · dsimp only [Pt.U, Pt.locs, Pt.cells, Pt.slots] at X' e1 e2 h1 h2 h3 st
    subst h1; subst h2; subst h3
    exact Or.inl ⟨v, (T.setVm vm₁).calling g' mk As.toArray, t, U', L, hT, X', hL, e1, e2, hq, st⟩
  · dsimp only [Pt.U, Pt.locs, Pt.cells, Pt.slots] at X' e1 e2 h1 h2 h3 st hcl
    subst h1; subst h2; subst h3
    exact Or.inr ⟨q, (T.setVm vm₁).calling g' mk As.toArray, t, U', L, E, ce, hT, X', hL, e1, e2, hq, hce, hcv, vx_cls hW₁ hcl, st⟩
end Runs
section Rows
variable {p : Program} {l : Launch} {e : Env} {R : Room} {s : State} {m : MethodId} {args : Array Value} {below : List Frame} {meth : Method} {c : Code} {H : Heap} {locs : List Loc} {cells slots : Nat} {Q : State → Prop}
variable {mc ms : Nat} {free : Addr → Prop} {A0 A1 : Nat → Prop} {H0 : Heap} {a : Array Value} {pc : Nat} {ls : Array Slot} {st0 rest : List Value}
theorem vx_keep {st₀ t T' : State} {L : List Loc} (h0 : st₀.heap = H) (e1 : T'.heap = t.heap) (hS : va_S A0 H0 H locs) (hA : ∀ q, q < H.size → A1 q → A0 q) (hf : ∀ q, free q → A0 q) (hL : ∀ q ∈ L, free q.base) (hF : va_F A1 st₀ t) :
    H.size ≤ T'.heap.size ∧ (∀ q : Nat, q < H.size → ¬ A1 q → T'.heap[q]? = H[q]?) ∧ va_S A0 H0 T'.heap (locs ++ L) := by
  obtain ⟨hz, hk⟩ := hF
  rw [h0] at hz hk
  exact ⟨by rw [e1]; exact hz, fun q h1 h2 => by rw [e1]; exact hk q h1 h2,
    ⟨Nat.le_trans hS.1 (by rw [e1]; exact hz), fun q h1 h2 => by rw [e1, hk q (Nat.lt_of_lt_of_le h1 hS.1) (fun z => h2 (hA q (Nat.lt_of_lt_of_le h1 hS.1) z))]; exact hS.2.1 q h1 h2, fun q hq => by
      rcases List.mem_append.mp hq with h | h
      · exact hS.2.2 q h
      · exact hf _ (hL q h)⟩⟩
theorem vx_calli {S SX : Type} {post : Int32 → S → Prop} {px : SX → Prop} {B : S → State → Prop} {BX : String → SX → State → Prop} {AX : Nat → Prop} (hr : vx_Run p l e R s m args below meth c H locs cells slots mc ms (F0 m pc ls st0) rest (va_Qi post B A1 a) (vx_X px BX AX) free) (hS : va_S A0 H0 H locs) (hA : ∀ q, q < H.size → A1 q → A0 q) (hf : ∀ q, free q → A0 q) (hAX : ∀ q, q < H.size → AX q → A0 q)
    (kx : ∀ (E : String) (ce : Cell) (q9 : Addr) (u : SX) (t : State) (H1 : Heap) (locs1 : List Loc), t.heap = H1 → s.vm.Alike t.vm → px u → BX E u t → H.size ≤ H1.size → (∀ q : Nat, q < H.size → ¬ AX q → H1[q]? = H[q]?) → va_S A0 H0 H1 locs1 → H1[q9]? = some ce → ce.vm = .none → s.vm.findClass E = some ce.cls → vx_W p l e R s m args below meth c H1 locs1 (cells + mc) (slots + ms) Q (F0 m pc ls rest) q9)
    (kk : ∀ (r : Int32) (u : S) (t : State) (H1 : Heap) (locs1 : List Loc), t.heap = H1 → s.vm.Alike t.vm → post r u → B u t → H.size ≤ H1.size → (∀ q : Nat, q < H.size → ¬ A1 q → H1[q]? = H[q]?) → va_S A0 H0 H1 locs1 → W p l e R s m args below meth c H1 locs1 (cells + mc) (slots + ms) Q (F0 m (pc + 3) ls (.int r :: rest))) : W p l e R s m args below meth c H locs cells slots Q (F0 m pc ls st0) := by
  intro T hT X
  rcases hr T hT X with ⟨v, st₀, t, T', L, h0, X', hL, e1, e2, ⟨⟨r, u, hv, hp, hb⟩, hF⟩, st⟩ | ⟨q, st₀, t, T', L, E, ce, h0, X', hL, e1, e2, ⟨u, hp, hb, hF⟩, hce, hcv, hcl, st⟩
  · cases hv
    obtain ⟨k1, k2, k3⟩ := vx_keep h0 e1 hS hA hf hL hF
    obtain ⟨t2, a1, b1⟩ := kk r u t T'.heap (locs ++ L) e1.symm (by rw [← e2]; exact X'.warmed.alike) hp hb k1 k2 k3 T' rfl X'
    exact ⟨t2, st t2 a1, b1⟩
  · obtain ⟨k1, k2, k3⟩ := vx_keep h0 e1 hS hAX hf hL hF
    obtain ⟨t2, a1, b1⟩ := kx E ce q u t T'.heap (locs ++ L) e1.symm (by rw [← e2]; exact X'.warmed.alike) hp hb k1 k2 k3 (by rw [e1]; exact hce) hcv hcl T' rfl X'
    exact ⟨t2, st.trans a1, b1⟩
theorem vx_calll {S SX : Type} {post : Int64 → S → Prop} {px : SX → Prop} {B : S → State → Prop} {BX : String → SX → State → Prop} {AX : Nat → Prop} (hr : vx_Run p l e R s m args below meth c H locs cells slots mc ms (F0 m pc ls st0) rest (va_Ql post B A1 a) (vx_X px BX AX) free) (hS : va_S A0 H0 H locs) (hA : ∀ q, q < H.size → A1 q → A0 q) (hf : ∀ q, free q → A0 q) (hAX : ∀ q, q < H.size → AX q → A0 q)
    (kx : ∀ (E : String) (ce : Cell) (q9 : Addr) (u : SX) (t : State) (H1 : Heap) (locs1 : List Loc), t.heap = H1 → s.vm.Alike t.vm → px u → BX E u t → H.size ≤ H1.size → (∀ q : Nat, q < H.size → ¬ AX q → H1[q]? = H[q]?) → va_S A0 H0 H1 locs1 → H1[q9]? = some ce → ce.vm = .none → s.vm.findClass E = some ce.cls → vx_W p l e R s m args below meth c H1 locs1 (cells + mc) (slots + ms) Q (F0 m pc ls rest) q9)
    (kk : ∀ (r : Int64) (u : S) (t : State) (H1 : Heap) (locs1 : List Loc), t.heap = H1 → s.vm.Alike t.vm → post r u → B u t → H.size ≤ H1.size → (∀ q : Nat, q < H.size → ¬ A1 q → H1[q]? = H[q]?) → va_S A0 H0 H1 locs1 → W p l e R s m args below meth c H1 locs1 (cells + mc) (slots + ms) Q (F0 m (pc + 3) ls (.long r :: rest))) : W p l e R s m args below meth c H locs cells slots Q (F0 m pc ls st0) := by
  intro T hT X
  rcases hr T hT X with ⟨v, st₀, t, T', L, h0, X', hL, e1, e2, ⟨⟨r, u, hv, hp, hb⟩, hF⟩, st⟩ | ⟨q, st₀, t, T', L, E, ce, h0, X', hL, e1, e2, ⟨u, hp, hb, hF⟩, hce, hcv, hcl, st⟩
  · cases hv
    obtain ⟨k1, k2, k3⟩ := vx_keep h0 e1 hS hA hf hL hF
    obtain ⟨t2, a1, b1⟩ := kk r u t T'.heap (locs ++ L) e1.symm (by rw [← e2]; exact X'.warmed.alike) hp hb k1 k2 k3 T' rfl X'
    exact ⟨t2, st t2 a1, b1⟩
  · obtain ⟨k1, k2, k3⟩ := vx_keep h0 e1 hS hAX hf hL hF
    obtain ⟨t2, a1, b1⟩ := kx E ce q u t T'.heap (locs ++ L) e1.symm (by rw [← e2]; exact X'.warmed.alike) hp hb k1 k2 k3 (by rw [e1]; exact hce) hcv hcl T' rfl X'
    exact ⟨t2, st.trans a1, b1⟩
theorem vx_callf {S SX : Type} {post : UInt32 → S → Prop} {px : SX → Prop} {B : S → State → Prop} {BX : String → SX → State → Prop} {AX : Nat → Prop} (hr : vx_Run p l e R s m args below meth c H locs cells slots mc ms (F0 m pc ls st0) rest (va_Qf post B A1 a) (vx_X px BX AX) free) (hS : va_S A0 H0 H locs) (hA : ∀ q, q < H.size → A1 q → A0 q) (hf : ∀ q, free q → A0 q) (hAX : ∀ q, q < H.size → AX q → A0 q)
    (kx : ∀ (E : String) (ce : Cell) (q9 : Addr) (u : SX) (t : State) (H1 : Heap) (locs1 : List Loc), t.heap = H1 → s.vm.Alike t.vm → px u → BX E u t → H.size ≤ H1.size → (∀ q : Nat, q < H.size → ¬ AX q → H1[q]? = H[q]?) → va_S A0 H0 H1 locs1 → H1[q9]? = some ce → ce.vm = .none → s.vm.findClass E = some ce.cls → vx_W p l e R s m args below meth c H1 locs1 (cells + mc) (slots + ms) Q (F0 m pc ls rest) q9)
    (kk : ∀ (r : UInt32) (u : S) (t : State) (H1 : Heap) (locs1 : List Loc), t.heap = H1 → s.vm.Alike t.vm → post r u → B u t → H.size ≤ H1.size → (∀ q : Nat, q < H.size → ¬ A1 q → H1[q]? = H[q]?) → va_S A0 H0 H1 locs1 → W p l e R s m args below meth c H1 locs1 (cells + mc) (slots + ms) Q (F0 m (pc + 3) ls (.float r :: rest))) : W p l e R s m args below meth c H locs cells slots Q (F0 m pc ls st0) := by
  intro T hT X
  rcases hr T hT X with ⟨v, st₀, t, T', L, h0, X', hL, e1, e2, ⟨⟨r, u, hv, hp, hb⟩, hF⟩, st⟩ | ⟨q, st₀, t, T', L, E, ce, h0, X', hL, e1, e2, ⟨u, hp, hb, hF⟩, hce, hcv, hcl, st⟩
  · cases hv
    obtain ⟨k1, k2, k3⟩ := vx_keep h0 e1 hS hA hf hL hF
    obtain ⟨t2, a1, b1⟩ := kk r u t T'.heap (locs ++ L) e1.symm (by rw [← e2]; exact X'.warmed.alike) hp hb k1 k2 k3 T' rfl X'
    exact ⟨t2, st t2 a1, b1⟩
  · obtain ⟨k1, k2, k3⟩ := vx_keep h0 e1 hS hAX hf hL hF
    obtain ⟨t2, a1, b1⟩ := kx E ce q u t T'.heap (locs ++ L) e1.symm (by rw [← e2]; exact X'.warmed.alike) hp hb k1 k2 k3 (by rw [e1]; exact hce) hcv hcl T' rfl X'
    exact ⟨t2, st.trans a1, b1⟩
theorem vx_calld {S SX : Type} {post : UInt64 → S → Prop} {px : SX → Prop} {B : S → State → Prop} {BX : String → SX → State → Prop} {AX : Nat → Prop} (hr : vx_Run p l e R s m args below meth c H locs cells slots mc ms (F0 m pc ls st0) rest (va_Qd post B A1 a) (vx_X px BX AX) free) (hS : va_S A0 H0 H locs) (hA : ∀ q, q < H.size → A1 q → A0 q) (hf : ∀ q, free q → A0 q) (hAX : ∀ q, q < H.size → AX q → A0 q)
    (kx : ∀ (E : String) (ce : Cell) (q9 : Addr) (u : SX) (t : State) (H1 : Heap) (locs1 : List Loc), t.heap = H1 → s.vm.Alike t.vm → px u → BX E u t → H.size ≤ H1.size → (∀ q : Nat, q < H.size → ¬ AX q → H1[q]? = H[q]?) → va_S A0 H0 H1 locs1 → H1[q9]? = some ce → ce.vm = .none → s.vm.findClass E = some ce.cls → vx_W p l e R s m args below meth c H1 locs1 (cells + mc) (slots + ms) Q (F0 m pc ls rest) q9)
    (kk : ∀ (r : UInt64) (u : S) (t : State) (H1 : Heap) (locs1 : List Loc), t.heap = H1 → s.vm.Alike t.vm → post r u → B u t → H.size ≤ H1.size → (∀ q : Nat, q < H.size → ¬ A1 q → H1[q]? = H[q]?) → va_S A0 H0 H1 locs1 → W p l e R s m args below meth c H1 locs1 (cells + mc) (slots + ms) Q (F0 m (pc + 3) ls (.double r :: rest))) : W p l e R s m args below meth c H locs cells slots Q (F0 m pc ls st0) := by
  intro T hT X
  rcases hr T hT X with ⟨v, st₀, t, T', L, h0, X', hL, e1, e2, ⟨⟨r, u, hv, hp, hb⟩, hF⟩, st⟩ | ⟨q, st₀, t, T', L, E, ce, h0, X', hL, e1, e2, ⟨u, hp, hb, hF⟩, hce, hcv, hcl, st⟩
  · cases hv
    obtain ⟨k1, k2, k3⟩ := vx_keep h0 e1 hS hA hf hL hF
    obtain ⟨t2, a1, b1⟩ := kk r u t T'.heap (locs ++ L) e1.symm (by rw [← e2]; exact X'.warmed.alike) hp hb k1 k2 k3 T' rfl X'
    exact ⟨t2, st t2 a1, b1⟩
  · obtain ⟨k1, k2, k3⟩ := vx_keep h0 e1 hS hAX hf hL hF
    obtain ⟨t2, a1, b1⟩ := kx E ce q u t T'.heap (locs ++ L) e1.symm (by rw [← e2]; exact X'.warmed.alike) hp hb k1 k2 k3 (by rw [e1]; exact hce) hcv hcl T' rfl X'
    exact ⟨t2, st.trans a1, b1⟩
theorem vx_callv {S SX : Type} {post : S → Prop} {px : SX → Prop} {B : S → State → Prop} {BX : String → SX → State → Prop} {AX : Nat → Prop} (hr : vx_Run p l e R s m args below meth c H locs cells slots mc ms (F0 m pc ls st0) rest (va_Qv post B A1 a) (vx_X px BX AX) free) (hS : va_S A0 H0 H locs) (hA : ∀ q, q < H.size → A1 q → A0 q) (hf : ∀ q, free q → A0 q) (hAX : ∀ q, q < H.size → AX q → A0 q)
    (kx : ∀ (E : String) (ce : Cell) (q9 : Addr) (u : SX) (t : State) (H1 : Heap) (locs1 : List Loc), t.heap = H1 → s.vm.Alike t.vm → px u → BX E u t → H.size ≤ H1.size → (∀ q : Nat, q < H.size → ¬ AX q → H1[q]? = H[q]?) → va_S A0 H0 H1 locs1 → H1[q9]? = some ce → ce.vm = .none → s.vm.findClass E = some ce.cls → vx_W p l e R s m args below meth c H1 locs1 (cells + mc) (slots + ms) Q (F0 m pc ls rest) q9)
    (kk : ∀ (u : S) (t : State) (H1 : Heap) (locs1 : List Loc), t.heap = H1 → s.vm.Alike t.vm → post u → B u t → H.size ≤ H1.size → (∀ q : Nat, q < H.size → ¬ A1 q → H1[q]? = H[q]?) → va_S A0 H0 H1 locs1 → W p l e R s m args below meth c H1 locs1 (cells + mc) (slots + ms) Q (F0 m (pc + 3) ls (rest))) : W p l e R s m args below meth c H locs cells slots Q (F0 m pc ls st0) := by
  intro T hT X
  rcases hr T hT X with ⟨v, st₀, t, T', L, h0, X', hL, e1, e2, ⟨⟨u, hv, hp, hb⟩, hF⟩, st⟩ | ⟨q, st₀, t, T', L, E, ce, h0, X', hL, e1, e2, ⟨u, hp, hb, hF⟩, hce, hcv, hcl, st⟩
  · cases hv
    obtain ⟨k1, k2, k3⟩ := vx_keep h0 e1 hS hA hf hL hF
    obtain ⟨t2, a1, b1⟩ := kk u t T'.heap (locs ++ L) e1.symm (by rw [← e2]; exact X'.warmed.alike) hp hb k1 k2 k3 T' rfl X'
    exact ⟨t2, st t2 a1, b1⟩
  · obtain ⟨k1, k2, k3⟩ := vx_keep h0 e1 hS hAX hf hL hF
    obtain ⟨t2, a1, b1⟩ := kx E ce q u t T'.heap (locs ++ L) e1.symm (by rw [← e2]; exact X'.warmed.alike) hp hb k1 k2 k3 (by rw [e1]; exact hce) hcv hcl T' rfl X'
    exact ⟨t2, st.trans a1, b1⟩
end Rows
section Ends
variable {p : Program} {l : Launch} {e : Env} {R : Room} {s : State} {m : MethodId} {args : Array Value} {below : List Frame} {meth : Method} {c : Code} {H : Heap} {locs : List Loc} {cells slots : Nat} {Q : State → Prop}
variable {mc ms : Nat} {free : Addr → Prop} {A0 A1 : Nat → Prop} {H0 : Heap} {a : Array Value} {ls : Array Slot} {st0 rest : List Value}
variable {Qc : Array Value → State → Outcome → State → Prop} {XC : String → State → State → Prop}
def vx_MQ (below : List Frame) (Qc : Array Value → State → Outcome → State → Prop) (XC : String → State → State → Prop) (a : Array Value) (s : State) (mc ms : Nat) (free : Addr → Prop) : State → Prop := fun t =>
  ∃ o, t.status = .running ∧ Ended t below o ∧ vx_Q Qc XC mc ms free a s o t
theorem vx_ret {g : JFrame} {mc ms : Nat} (k : W p l e R s m args below meth c H locs cells slots (MQ below Qc args s mc ms free) g) : W p l e R s m args below meth c H locs cells slots (vx_MQ below Qc XC args s mc ms free) g := by
  intro T hT X
  obtain ⟨t, a1, o, b1, b2, b3, b4⟩ := k T hT X
  exact ⟨t, a1, o, b1, b2, Or.inl ⟨b3, b4⟩⟩
theorem vx_widen {g : JFrame} {q : Addr} {k n : Nat} (h1 : cells ≤ k) (h2 : slots ≤ n) (kk : vx_W p l e R s m args below meth c H locs k n Q g q) : vx_W p l e R s m args below meth c H locs cells slots Q g q := fun T hT X => kk T hT (stand_widen X h1 h2)
theorem vx_out {pc : Nat} {E : String} {ce : Cell} {q : Addr} {mc ms : Nat} (hout : ∀ x ∈ c.exceptionTable.toList, covers x pc = false) (hlocks : meth.locks = false) (hcell : H[q]? = some ce) (hv : ce.vm = .none) (hcl : s.vm.findClass E = some ce.cls)
    (hx : ∀ t : State, t.heap = H → s.vm.Alike t.vm → XC E s t) (hf : ∀ z ∈ locs, free z.base) (hc : cells ≤ mc) (hs : slots ≤ ms) :
    vx_W p l e R s m args below meth c H locs cells slots (vx_MQ below Qc XC args s mc ms free) (F0 m pc ls rest) q := by
  intro T hT X
  obtain ⟨st1, hrun, hend, hW, hsm⟩ := X.leaveThrown q (g := F0 m pc ls rest) rfl rfl rfl hout hlocks
  have hcell9 : (T.setFrames (.throwing q :: below)).heap[q]? = some ce := by
    show T.heap[q]? = some ce
    rw [hT]; exact hcell
  exact ⟨_, st1, .threw q, hrun, hend, Or.inr ⟨q, rfl, E, ce, locs, hx _ hT hW.alike, hcell9, hv, hcl, hW, hsm.mono hc hs, hf⟩⟩
theorem vx_frame {U : State} {k n : Nat} (h : s.sameButNew ({ U with vm := s.vm } : State) locs k n) : s.heap.size ≤ U.heap.size ∧ ∀ q : Nat, q < s.heap.size → (∀ z ∈ locs, z.base ≠ q) → U.heap[q]? = s.heap[q]? := by
  obtain ⟨-, h2, -, -, -, h6⟩ := h
  refine ⟨h2, fun q hq hz => ?_⟩
  obtain ⟨c9, e1, e2, e3, e4⟩ := h6 q _ (Array.getElem?_eq_getElem hq)
  have hs : c9.slots = (s.heap[q]).slots := Array.ext_getElem? fun i => e4 i fun hm => hz _ hm rfl
  have h9 : c9 = s.heap[q] := by
    rw [hs] at e2
    exact e2
  have e5 : U.heap[q]? = some c9 := e1
  rw [e5, h9, Array.getElem?_eq_getElem hq]
theorem vx_ot_at {args a' : Array Value} {s U : State} {w : Cond} (hW : s.WarmedH U.vm) (hvm : s.vm = U.vm) (hg : vx_ot w = true) (h : w.before args s = true) : w.before a' U = true := by
  simp only [vx_ot, Bool.or_eq_true] at hg
  rcases hg with hg | hg
  · exact va_tabs hg hvm h
  · exact word_at hW (good_of_word hg) h
theorem vx_hat {args : Array Value} {s : State} {L B : List Cond} (h1 : ∀ w ∈ L.filter goodWord, w.before args s = true) (h2 : ∀ w ∈ L.filter (fun w => !goodWord w), w ∈ B) (h3 : ∀ w ∈ B, w.before args s = true) : ∀ w ∈ L, w.before args s = true := by
  intro w hw
  by_cases g : goodWord w = true
  · exact h1 w (List.mem_filter.mpr ⟨hw, g⟩)
  · refine h3 w (h2 w (List.mem_filter.mpr ⟨hw, ?_⟩))
    show (!goodWord w) = true
    cases hgw : goodWord w
    · rfl
    · exact absurd hgw g
theorem vx_c {args : Array Value} {s : State} {w : Cond} {B : List Cond} (h : w.before args s = true) (t : ∀ w ∈ B, w.before args s = true) : ∀ w' ∈ w :: B, w'.before args s = true := fun w' h' => (List.mem_cons.mp h').elim (fun e => by rw [e]; exact h) (t w')
theorem vx_n {args : Array Value} {s : State} : ∀ w ∈ ([] : List Cond), w.before args s = true := fun _ h => nomatch h
theorem vx_own {args : Array Value} {s : State} {L : List Cond} (h1 : ∀ w ∈ L.filter vx_no, w.before args s = true)
    (hU : (Cond.isRef (.static Bundle.tN "UNASSIGNED_STACK" Bundle.steD)).before args s = true) (hN : (Cond.isRef (.static Bundle.tN "SUPPRESSED_SENTINEL" Bundle.listD)).before args s = true)
    (lU : (Cond.laysStatic Bundle.tN "UNASSIGNED_STACK" Bundle.steD).before args s = true) (lN : (Cond.laysStatic Bundle.tN "SUPPRESSED_SENTINEL" Bundle.listD).before args s = true) : ∀ w ∈ L, w.before args s = true := by
  intro w hw
  by_cases e1 : w = .isRef (.static Bundle.tN "UNASSIGNED_STACK" Bundle.steD)
  · rw [e1]; exact hU
  · by_cases e2 : w = .isRef (.static Bundle.tN "SUPPRESSED_SENTINEL" Bundle.listD)
    · rw [e2]; exact hN
    · by_cases e3 : w = .laysStatic Bundle.tN "UNASSIGNED_STACK" Bundle.steD
      · rw [e3]; exact lU
      · by_cases e4 : w = .laysStatic Bundle.tN "SUPPRESSED_SENTINEL" Bundle.listD
        · rw [e4]; exact lN
        · exact h1 w (List.mem_filter.mpr ⟨hw, by unfold vx_no; rw [decide_eq_true e1, decide_eq_true e2, decide_eq_true e3, decide_eq_true e4]; rfl⟩)
def vx_L (C n d : String) (A : Nat → Prop) (U : State) (H : Heap) : Prop := ∃ (c : ClassId) (k : Class) (i : Nat) (f : Field) (a : Nat) (cell : Cell), U.vm.findClass C = some c ∧ U.fieldFound? C n d = some (c, k, i, f) ∧ f.isStatic = true ∧ k.statics = some a ∧ H[a]? = some cell ∧ cell.vm.isStatics = true ∧ cell.cls = c ∧ f.slot < cell.slots.size ∧ k.staticTypes[f.slot]? = some f.type ∧ ¬ A a
theorem vx_L.moved {C n d : String} {A : Nat → Prop} {u U : State} {H : Heap} (hvm : u.vm.Alike U.vm) (h : vx_L C n d A u H) : vx_L C n d A U H := by
  obtain ⟨c, k, i, f, a, cell, h1, h2, h3, h4, h5, h6, h7, h8, h9, h10⟩ := h
  obtain ⟨k', hi', he⟩ := State.fieldFound?_setVm hvm h2
  exact ⟨c, k', i, f, a, cell, by rw [hvm.findClass]; exact h1, hi', h3, by rw [he]; exact h4, h5, h6, h7, h8, by rw [he]; exact h9, h10⟩
theorem vx_L.kept {C n d : String} {A : Nat → Prop} {U : State} {H H1 : Heap} (h : vx_L C n d A U H) (hq : ∀ a : Nat, a < H.size → ¬ A a → H1[a]? = H[a]?) : vx_L C n d A U H1 := by
  obtain ⟨c, k, i, f, a, cell, h1, h2, h3, h4, h5, h6, h7, h8, h9, h10⟩ := h
  exact ⟨c, k, i, f, a, cell, h1, h2, h3, h4, by rw [hq a (Array.getElem?_eq_some_iff.mp h5).1 h10]; exact h5, h6, h7, h8, h9, h10⟩
theorem vx_L.narrow {C n d : String} {A B : Nat → Prop} {U : State} {H : Heap} (h : vx_L C n d A U H) (hAB : ∀ q, B q → A q) : vx_L C n d B U H := by
  obtain ⟨c, k, i, f, a, cell, h1, h2, h3, h4, h5, h6, h7, h8, h9, h10⟩ := h
  exact ⟨c, k, i, f, a, cell, h1, h2, h3, h4, h5, h6, h7, h8, h9, fun z => h10 (hAB _ z)⟩
theorem vx_L.word {C n d : String} {A : Nat → Prop} {s : State} {args : Array Value} (h : vx_L C n d A s s.heap) : (Cond.laysStatic C n d).before args s = true := by
  obtain ⟨c, k, i, f, a, cell, h1, h2, h3, h4, h5, h6, h7, h8, h9, -⟩ := h
  show (Cond.laysStatic C n d).holds args s none s [] = true
  exact Cond.laysStatic_of h1 h2 h3 h4 h5 h6 h7 h8 h9
def vx_Zq (C n d : String) (A : Nat → Prop) (U : State) (H : Heap) : Prop := va_Zq C n d A U H ∧ vx_L C n d A U H
theorem vx_Zq.moved {C n d : String} {A : Nat → Prop} {u U : State} {H : Heap} (hvm : u.vm.Alike U.vm) (h : vx_Zq C n d A u H) : vx_Zq C n d A U H := ⟨va_Zq.moved hvm h.1, vx_L.moved hvm h.2⟩
theorem vx_Zq.kept {C n d : String} {A : Nat → Prop} {U : State} {H H1 : Heap} (h : vx_Zq C n d A U H) (hq : ∀ a : Nat, a < H.size → ¬ A a → H1[a]? = H[a]?) : vx_Zq C n d A U H1 := ⟨va_Zq.kept h.1 hq, vx_L.kept h.2 hq⟩
theorem vx_Zq.narrow {C n d : String} {A B : Nat → Prop} {U : State} {H : Heap} (h : vx_Zq C n d A U H) (hAB : ∀ q, B q → A q) : vx_Zq C n d B U H := ⟨va_Zq.narrow h.1 hAB, vx_L.narrow h.2 hAB⟩
theorem vx_Zqof {args : Array Value} {s : State} {C n d : String} {A : Nat → Prop} (hl : (Cond.laysStatic C n d).before args s = true) (hini : (Cond.initialized C).before args s = true) (h : (Cond.isRef (.static C n d)).before args s = true) (hA : ∀ a : Nat, a < s.heap.size → ¬ A a) : vx_Zq C n d A s s.heap := by
  refine ⟨va_Zqof hl hini h hA, ?_⟩
  obtain ⟨c, k, i, f, a, cell, h1, h2, h3, h4, h5, h6, h7, h8, h9⟩ := Cond.laysStatic_spec hl
  exact ⟨c, k, i, f, a, cell, h1, h2, h3, h4, h5, h6, h7, h8, h9, hA a (Array.getElem?_eq_some_iff.mp h5).1⟩
theorem vx_isRef {C n d : String} {v : Value} {A : Nat → Prop} {s : State} {args : Array Value} (h : va_Z C n d v A s s.heap) (hv : v.isRef = true) : (Cond.isRef (.static C n d)).before args s = true := by
  obtain ⟨cf, kf, fi, f, a, cell, h1, h2, h3, h4, h5, h6, h7, -⟩ := h
  have he : (Term.static C n d).eval args s none [] s = some v := by
    simp [Term.eval, State.fieldNamed?, h1, h2, h4, h5, h6, h7]
  simp only [Cond.before, Cond.holds, Cond.value, he]
  cases v <;> simp_all [Value.isRef]
theorem vx_isRefq {C n d : String} {A : Nat → Prop} {s : State} {args : Array Value} (h : va_Zq C n d A s s.heap) : (Cond.isRef (.static C n d)).before args s = true := by
  rcases h with h | ⟨t, h⟩
  · exact vx_isRef h rfl
  · exact vx_isRef h rfl
theorem vx_rebase {T : State} (X : Stand p l e R s m args below meth c T locs cells slots) {R' : Room} (hf : R'.frames ≤ R.frames) (hl : R'.locals ≤ R.locals) (hc : cells + R'.cells ≤ R.cells) (hs : slots + R'.slots ≤ R.slots) :
    Stand p l e R' ((T.setVm s.vm).setFrames (.invoking m args :: below)) m args below meth c T [] 0 0 := by
  have htop : (T.setVm s.vm).topJava?.isSome := X.here.top
  have hF : ((T.setVm s.vm).setFrames (.invoking m args :: below)).frames = .invoking m args :: below := State.frames_setFrames _ (State.cur_lt_of_top htop)
  obtain ⟨g₀, hg0⟩ := Option.isSome_iff_exists.mp htop
  obtain ⟨r, hr⟩ := State.topJava?_eq_some.mp hg0
  have hl9 : e.platform.stackLimits (T.setVm s.vm).me = e.platform.stackLimits s.me := X.limits
  have hb9 : (T.setVm s.vm).me.stackBytes = s.me.stackBytes := X.bytes
  refine ⟨X.admits, X.cas, X.clock, hF, ?_, X.hears, X.method, X.code, X.here, X.tail, X.warmed, ?_, ?_, ?_⟩
  · have h := X.room
    have hU : ((T.setVm s.vm).setFrames (.invoking m args :: below)).localsInUse = s.localsInUse := by
      rw [State.localsInUse_invoking hF (meth := meth) (c := c) X.method X.code, State.localsInUse_invoking X.frames X.method X.code]
    simp only [State.hasRoom, Bool.and_eq_true, decide_eq_true_eq] at h ⊢
    obtain ⟨⟨⟨⟨h1, h2, h3, h4, h5, h6⟩, h7⟩, h8⟩, h9⟩ := h
    rw [X.frames, List.length_cons] at h2 h3
    have q1 := X.heapSize
    have q2 := X.used
    simp only [hF, hU, List.length_cons, State.stackLimits_setFrames, State.stackBytes_setFrames, hl9, hb9]
    refine ⟨⟨⟨⟨by omega, by omega, by omega, by omega, by omega, h6⟩, ?_⟩, ?_⟩, X.book⟩
    · show T.heap.size + R'.cells ≤ e.platform.maxCells
      omega
    · show T.slotsUsed + R'.slots ≤ e.platform.maxSlots
      omega
  · rw [State.stackLimits_setFrames]; rfl
  · rw [State.stackBytes_setFrames]; rfl
  · refine ⟨?_, Nat.le_refl _, Nat.le_refl _, ?_, ?_, fun a c9 h9 => ⟨c9, h9, rfl, rfl, fun _ _ => rfl⟩⟩
    · obtain ⟨t, ht, -⟩ := State.frames_cons hr
      show T.setVm s.vm = { ((T.setVm s.vm).setFrames (.invoking m args :: below)).setFrames (T.setVm s.vm).frames with heap := T.heap, slotsUsed := T.slotsUsed }
      rw [State.setFrames_setFrames, State.setFrames_self ht]
      rfl
    · show T.slotsUsed = T.slotsUsed + ((T.heap.toList.drop T.heap.size).map (·.slots.size)).sum
      rw [List.drop_eq_nil_of_le (Nat.le_of_eq Array.length_toList)]
      rfl
    · show ((T.heap.toList.drop T.heap.size).map (·.slots.size)).sum ≤ 0
      rw [List.drop_eq_nil_of_le (Nat.le_of_eq Array.length_toList)]
      exact Nat.le_refl _
theorem vx_throw0 {cc : ByteArray} {pc : Nat} (hexec : p.tables.exec = Jvm.exec) (hb : c.code = cc) (hl : l.stackTraces = false) {own cls : String} {names : List String} {ik ic mc ms : Nat} {A : Nat → Prop}
    (hown : s.vm.findClass own = some m.cls) (hcls : Bundle.fit cls = true) (hnames : ∀ n ∈ names, Bundle.fit n = true)
    (hk : (Cond.classLink own ik cls).before args s = true) (hini : (Cond.initialized cls).before args s = true) (hat : ∀ w ∈ vx_at0 own ic cls names, w.before args s = true)
    (hgood : ∀ w ∈ Cond.classLink own ik cls :: Cond.initialized cls :: vx_at0 own ic cls names, vx_ot w = true)
    (hU : vx_Zq Bundle.tN "UNASSIGNED_STACK" Bundle.steD A s s.heap) (hN : vx_Zq Bundle.tN "SUPPRESSED_SENTINEL" Bundle.listD A s s.heap) (hS : va_S A s.heap H locs) (hsize : ls.size = c.maxLocals)
    (d0 : decode cc pc = .ok (.new ik, 3)) (d3 : decode cc (pc + 3) = .ok (.dup, 1)) (d4 : decode cc (pc + 4) = .ok (.invokespecial ic, 3)) (d7 : decode cc (pc + 7) = .ok (.athrow, 1))
    (hout : ∀ x ∈ c.exceptionTable.toList, covers x (pc + 7) = false)
    (hRframes : names.length + 3 < R.frames) (hRlocals : (rest.map fun v => v.category).sum + (13 * (names.length + 1) + 42) ≤ R.locals) (hRcells : cells + 1 ≤ R.cells) (hRslots : slots + 6 ≤ R.slots) (hlocks : meth.locks = false)
    (hx : ∀ t : State, s.vm.Alike t.vm → H.size ≤ t.heap.size → (∀ q : Nat, q < H.size → t.heap[q]? = H[q]?) → XC cls s t)
    (hf : ∀ z ∈ locs, free z.base) (hc : cells + 1 ≤ mc) (hs : slots + 6 ≤ ms) :
    W p l e R s m args below meth c H locs cells slots (vx_MQ below Qc XC args s mc ms free) (F0 m pc ls rest) := by
  intro T hT X
  have htr : e.platform.stackTraces = false := (show e.platform.stackTraces = l.stackTraces by rw [X.admits.platform]).trans hl
  have Y := vx_rebase X (R' := { frames := R.frames, locals := R.locals, cells := 1, slots := 6 }) (Nat.le_refl _) (Nat.le_refl _) hRcells hRslots
  obtain ⟨s', hA⟩ : ∃ z, z = (T.setVm s.vm).setFrames (.invoking m args :: below) := ⟨_, rfl⟩
  rw [← hA] at Y
  have hvm : s'.vm = s.vm := by rw [hA]; rfl
  have hhp : s'.heap = H := by rw [hA]; exact hT
  have hW0 : s.WarmedH s'.vm := by rw [hvm]; exact State.WarmedH.refl s
  have hat' : ∀ w ∈ vx_at0 own ic cls names, w.before args s' = true := fun w hw => vx_ot_at hW0 hvm.symm (hgood w (List.mem_cons_of_mem _ (List.mem_cons_of_mem _ hw))) (hat w hw)
  have hk' : (Cond.classLink own ik cls).before args s' = true := vx_ot_at hW0 hvm.symm (hgood _ List.mem_cons_self) hk
  have hini' : (Cond.initialized cls).before args s' = true := vx_ot_at hW0 hvm.symm (hgood _ (List.mem_cons_of_mem _ List.mem_cons_self)) hini
  have hU' : vx_Zq Bundle.tN "UNASSIGNED_STACK" Bundle.steD A s' s'.heap := by rw [hhp]; exact vx_Zq.moved hW0.alike (hU.kept hS.2.1)
  have hN' : vx_Zq Bundle.tN "SUPPRESSED_SENTINEL" Bundle.listD A s' s'.heap := by rw [hhp]; exact vx_Zq.moved hW0.alike (hN.kept hS.2.1)
  have h : ∀ w ∈ Bundle.ownAtoms0 own ic cls names, w.before args s' = true := vx_own hat' (vx_isRefq hU'.1) (vx_isRefq hN'.1) hU'.2.word hN'.2.word
  have hown' : s'.vm.findClass own = some m.cls := by rw [hvm]; exact hown
  have hins : (Cond.instantiable cls 6).before args s' = true := h _ (by simp [Bundle.ownAtoms0])
  obtain ⟨vm₁, cX, kX, hfX, hkX, -, -, X₁, st1⟩ := Y.newCold hexec (own := own) (C := cls) (index := ik) (n := 6) hown' hk' hins hini'
    (g := F0 m pc ls rest) rfl (by rw [hb]; exact d0) (Nat.le_refl _) (Nat.le_refl _)
  generalize hT1 : (T.setVm vm₁).pushCell { cls := cX, slots := kX.instanceTypes.map defaultValue, vm := .none } = T1 at X₁ st1
  have hcat : (Value.ref T.heap.size).category = 1 := rfl
  have hcellA : T1.heap[T.heap.size]? = some (freshCell cX kX) := by rw [← hT1]; exact State.heap_pushCell_size _ _
  have d3' : decode c.code (pc + 3) = .ok (.dup, 1) := by rw [hb]; exact d3
  obtain ⟨U, hsteps, hrun, hend, hW, hsame, ce, hce, hO⟩ := X₁.ctorThrow0 hexec htr (own := own) (cls := cls) (names := names) (ic := ic) hown' hcls hnames h (fun x hx => nomatch hx) hfX hkX hcellA (by rw [hhp, hT]; exact Nat.le_refl _)
    (g := { method := m, pc := pc + 4, locals := ls, stack := .ref T.heap.size :: .ref T.heap.size :: rest, locked := none }) rfl hsize rfl rfl (rest := rest) rfl
    (by rw [hb]; exact d4) (by rw [hb]; exact d7) hout hRframes (by simp only [List.map_cons, List.sum_cons, hcat]; omega) hlocks
  obtain ⟨f1, f2⟩ := vx_frame hsame
  rw [hhp] at f1 f2
  have hWs : s.WarmedH U.vm := State.WarmedH.trans hW0 hW
  have hcl : s.vm.findClass cls = some ce.cls := by
    have h9 := hO.cls
    rw [hvm] at h9
    exact h9
  have hall : s.sameButNew ({ U with vm := s.vm } : State) locs mc ms := by
    subst hA
    obtain ⟨e1, e2⟩ := hsame
    rw [State.setFrames_setFrames] at e1
    have h2 : (T.setVm s.vm).sameButNew ({ U with vm := s.vm } : State) [] (0 + 1) (0 + 6) := ⟨e1, e2⟩
    have h3 := X.same.trans h2
    rw [List.append_nil] at h3
    exact h3.mono hc hs
  refine ⟨U, ?_, .threw T.heap.size, hrun, hend, Or.inr ⟨T.heap.size, rfl, cls, ce, locs, hx U hWs.alike f1 (fun q hq => f2 q hq (fun z hz => nomatch hz)), hce, hO.vm, hcl, hWs, hall, hf⟩⟩
  refine st1 _ ?_
  show Steps p.tables e below (T1.setTop { method := m, pc := pc + 3, locals := ls, stack := .ref T.heap.size :: rest, locked := none }) _
  jvm_step X₁.here [X₁.here.top, hexec, d3', Value.category]
  exact hsteps
theorem vx_throwS {cc : ByteArray} {pc : Nat} (hexec : p.tables.exec = Jvm.exec) (hb : c.code = cc) (hl : l.stackTraces = false) {own cls text : String} {names : List String} {ik is ic mc ms sa : Nat} {A : Nat → Prop}
    (hown : s.vm.findClass own = some m.cls) (hcls : Bundle.fit cls = true) (hnames : ∀ n ∈ names, Bundle.fit n = true)
    (hk : (Cond.classLink own ik cls).before args s = true) (hini : (Cond.initialized cls).before args s = true) (hstr : vk_R own is text sa s) (hat : ∀ w ∈ vx_atS own ic cls names, w.before args s = true)
    (hgood : ∀ w ∈ Cond.classLink own ik cls :: Cond.initialized cls :: vx_atS own ic cls names, vx_ot w = true)
    (hU : vx_Zq Bundle.tN "UNASSIGNED_STACK" Bundle.steD A s s.heap) (hN : vx_Zq Bundle.tN "SUPPRESSED_SENTINEL" Bundle.listD A s s.heap) (hS : va_S A s.heap H locs) (hsize : ls.size = c.maxLocals)
    (d0 : decode cc pc = .ok (.new ik, 3)) (d3 : decode cc (pc + 3) = .ok (.dup, 1)) (d4 : decode cc (pc + 4) = .ok (.ldc is, 2)) (d6 : decode cc (pc + 6) = .ok (.invokespecial ic, 3)) (d9 : decode cc (pc + 9) = .ok (.athrow, 1))
    (hout : ∀ x ∈ c.exceptionTable.toList, covers x (pc + 9) = false)
    (hRframes : names.length + 3 < R.frames) (hRlocals : (rest.map fun v => v.category).sum + (13 * (names.length + 1) + 43) ≤ R.locals) (hRcells : cells + 1 ≤ R.cells) (hRslots : slots + 6 ≤ R.slots) (hlocks : meth.locks = false)
    (hx : ∀ t : State, s.vm.Alike t.vm → H.size ≤ t.heap.size → (∀ q : Nat, q < H.size → t.heap[q]? = H[q]?) → XC cls s t)
    (hf : ∀ z ∈ locs, free z.base) (hc : cells + 1 ≤ mc) (hs : slots + 6 ≤ ms) :
    W p l e R s m args below meth c H locs cells slots (vx_MQ below Qc XC args s mc ms free) (F0 m pc ls rest) := by
  intro T hT X
  have htr : e.platform.stackTraces = false := (show e.platform.stackTraces = l.stackTraces by rw [X.admits.platform]).trans hl
  have Y := vx_rebase X (R' := { frames := R.frames, locals := R.locals, cells := 1, slots := 6 }) (Nat.le_refl _) (Nat.le_refl _) hRcells hRslots
  obtain ⟨s', hA⟩ : ∃ z, z = (T.setVm s.vm).setFrames (.invoking m args :: below) := ⟨_, rfl⟩
  rw [← hA] at Y
  have hvm : s'.vm = s.vm := by rw [hA]; rfl
  have hhp : s'.heap = H := by rw [hA]; exact hT
  have hW0 : s.WarmedH s'.vm := by rw [hvm]; exact State.WarmedH.refl s
  have hat' : ∀ w ∈ vx_atS own ic cls names, w.before args s' = true := fun w hw => vx_ot_at hW0 hvm.symm (hgood w (List.mem_cons_of_mem _ (List.mem_cons_of_mem _ hw))) (hat w hw)
  have hk' : (Cond.classLink own ik cls).before args s' = true := vx_ot_at hW0 hvm.symm (hgood _ List.mem_cons_self) hk
  have hini' : (Cond.initialized cls).before args s' = true := vx_ot_at hW0 hvm.symm (hgood _ (List.mem_cons_of_mem _ List.mem_cons_self)) hini
  have hU' : vx_Zq Bundle.tN "UNASSIGNED_STACK" Bundle.steD A s' s'.heap := by rw [hhp]; exact vx_Zq.moved hW0.alike (hU.kept hS.2.1)
  have hN' : vx_Zq Bundle.tN "SUPPRESSED_SENTINEL" Bundle.listD A s' s'.heap := by rw [hhp]; exact vx_Zq.moved hW0.alike (hN.kept hS.2.1)
  have h : ∀ w ∈ Bundle.ownAtoms own ic cls names, w.before args s' = true := vx_own hat' (vx_isRefq hU'.1) (vx_isRefq hN'.1) hU'.2.word hN'.2.word
  have hown' : s'.vm.findClass own = some m.cls := by rw [hvm]; exact hown
  have hins : (Cond.instantiable cls 6).before args s' = true := h _ (by simp [Bundle.ownAtoms])
  obtain ⟨vm₁, cX, kX, hfX, hkX, -, -, X₁, st1⟩ := Y.newCold hexec (own := own) (C := cls) (index := ik) (n := 6) hown' hk' hins hini'
    (g := F0 m pc ls rest) rfl (by rw [hb]; exact d0) (Nat.le_refl _) (Nat.le_refl _)
  generalize hT1 : (T.setVm vm₁).pushCell { cls := cX, slots := kX.instanceTypes.map defaultValue, vm := .none } = T1 at X₁ st1
  have hcat : (Value.ref T.heap.size).category = 1 := rfl
  have hcellA : T1.heap[T.heap.size]? = some (freshCell cX kX) := by rw [← hT1]; exact State.heap_pushCell_size _ _
  have d3' : decode c.code (pc + 3) = .ok (.dup, 1) := by rw [hb]; exact d3
  have d4' : decode c.code (pc + 4) = .ok (.ldc is, 2) := by rw [hb]; exact d4
  have hstr' : vk_R own is text sa s' := vk_R.warm hW0 hstr
  obtain ⟨U, hsteps, hrun, hend, hW, hsame, ce, hce, hO⟩ := X₁.ctorThrowS hexec htr (own := own) (cls := cls) (names := names) (ic := ic) hown' hcls hnames h (fun x hx => nomatch hx) hfX hkX hcellA (by rw [hhp, hT]; exact Nat.le_refl _) (msg := .ref sa) rfl
    (g := { method := m, pc := pc + 6, locals := ls, stack := .ref sa :: .ref T.heap.size :: .ref T.heap.size :: rest, locked := none }) rfl hsize rfl rfl (rest := rest) rfl
    (by rw [hb]; exact d6) (by rw [hb]; exact d9) hout hRframes (by simp only [List.map_cons, List.sum_cons, hcat]; omega) hlocks
  obtain ⟨f1, f2⟩ := vx_frame hsame
  rw [hhp] at f1 f2
  have hWs : s.WarmedH U.vm := State.WarmedH.trans hW0 hW
  have hcl : s.vm.findClass cls = some ce.cls := by
    have h9 := hO.cls
    rw [hvm] at h9
    exact h9
  have hall : s.sameButNew ({ U with vm := s.vm } : State) locs mc ms := by
    subst hA
    obtain ⟨e1, e2⟩ := hsame
    rw [State.setFrames_setFrames] at e1
    have h2 : (T.setVm s.vm).sameButNew ({ U with vm := s.vm } : State) [] (0 + 1) (0 + 6) := ⟨e1, e2⟩
    have h3 := X.same.trans h2
    rw [List.append_nil] at h3
    exact h3.mono hc hs
  refine ⟨U, ?_, .threw T.heap.size, hrun, hend, Or.inr ⟨T.heap.size, rfl, cls, ce, locs, hx U hWs.alike f1 (fun q hq => f2 q hq (fun z hz => nomatch hz)), hce, hO.vm, hcl, hWs, hall, hf⟩⟩
  refine st1 _ ?_
  show Steps p.tables e below (T1.setTop { method := m, pc := pc + 3, locals := ls, stack := .ref T.heap.size :: rest, locked := none }) _
  jvm_step X₁.here [X₁.here.top, hexec, d3', Value.category]
  exact X₁.ldcString hexec (own := own) (text := text) (index := is) (a := sa) hown' hstr'.1 hstr'.2
    (g := { method := m, pc := pc + 4, locals := ls, stack := .ref T.heap.size :: .ref T.heap.size :: rest, locked := none }) rfl d4' _ hsteps
theorem vx_throwSW {cc : ByteArray} {pc : Nat} (hexec : p.tables.exec = Jvm.exec) (hb : c.code = cc) (hl : l.stackTraces = false) {own cls text : String} {names : List String} {ik is ic mc ms sa : Nat} {A : Nat → Prop}
    (hown : s.vm.findClass own = some m.cls) (hcls : Bundle.fit cls = true) (hnames : ∀ n ∈ names, Bundle.fit n = true)
    (hk : (Cond.classLink own ik cls).before args s = true) (hini : (Cond.initialized cls).before args s = true) (hstr : vk_R own is text sa s) (hat : ∀ w ∈ vx_atS own ic cls names, w.before args s = true)
    (hgood : ∀ w ∈ Cond.classLink own ik cls :: Cond.initialized cls :: vx_atS own ic cls names, vx_ot w = true)
    (hU : vx_Zq Bundle.tN "UNASSIGNED_STACK" Bundle.steD A s s.heap) (hN : vx_Zq Bundle.tN "SUPPRESSED_SENTINEL" Bundle.listD A s s.heap) (hS : va_S A s.heap H locs) (hsize : ls.size = c.maxLocals)
    (d0 : decode cc pc = .ok (.new ik, 3)) (d3 : decode cc (pc + 3) = .ok (.dup, 1)) (d4 : decode cc (pc + 4) = .ok (.ldc_w is, 3)) (d7 : decode cc (pc + 7) = .ok (.invokespecial ic, 3)) (d10 : decode cc (pc + 10) = .ok (.athrow, 1))
    (hout : ∀ x ∈ c.exceptionTable.toList, covers x (pc + 10) = false)
    (hRframes : names.length + 3 < R.frames) (hRlocals : (rest.map fun v => v.category).sum + (13 * (names.length + 1) + 43) ≤ R.locals) (hRcells : cells + 1 ≤ R.cells) (hRslots : slots + 6 ≤ R.slots) (hlocks : meth.locks = false)
    (hx : ∀ t : State, s.vm.Alike t.vm → H.size ≤ t.heap.size → (∀ q : Nat, q < H.size → t.heap[q]? = H[q]?) → XC cls s t)
    (hf : ∀ z ∈ locs, free z.base) (hc : cells + 1 ≤ mc) (hs : slots + 6 ≤ ms) :
    W p l e R s m args below meth c H locs cells slots (vx_MQ below Qc XC args s mc ms free) (F0 m pc ls rest) := by
  intro T hT X
  have htr : e.platform.stackTraces = false := (show e.platform.stackTraces = l.stackTraces by rw [X.admits.platform]).trans hl
  have Y := vx_rebase X (R' := { frames := R.frames, locals := R.locals, cells := 1, slots := 6 }) (Nat.le_refl _) (Nat.le_refl _) hRcells hRslots
  obtain ⟨s', hA⟩ : ∃ z, z = (T.setVm s.vm).setFrames (.invoking m args :: below) := ⟨_, rfl⟩
  rw [← hA] at Y
  have hvm : s'.vm = s.vm := by rw [hA]; rfl
  have hhp : s'.heap = H := by rw [hA]; exact hT
  have hW0 : s.WarmedH s'.vm := by rw [hvm]; exact State.WarmedH.refl s
  have hat' : ∀ w ∈ vx_atS own ic cls names, w.before args s' = true := fun w hw => vx_ot_at hW0 hvm.symm (hgood w (List.mem_cons_of_mem _ (List.mem_cons_of_mem _ hw))) (hat w hw)
  have hk' : (Cond.classLink own ik cls).before args s' = true := vx_ot_at hW0 hvm.symm (hgood _ List.mem_cons_self) hk
  have hini' : (Cond.initialized cls).before args s' = true := vx_ot_at hW0 hvm.symm (hgood _ (List.mem_cons_of_mem _ List.mem_cons_self)) hini
  have hU' : vx_Zq Bundle.tN "UNASSIGNED_STACK" Bundle.steD A s' s'.heap := by rw [hhp]; exact vx_Zq.moved hW0.alike (hU.kept hS.2.1)
  have hN' : vx_Zq Bundle.tN "SUPPRESSED_SENTINEL" Bundle.listD A s' s'.heap := by rw [hhp]; exact vx_Zq.moved hW0.alike (hN.kept hS.2.1)
  have h : ∀ w ∈ Bundle.ownAtoms own ic cls names, w.before args s' = true := vx_own hat' (vx_isRefq hU'.1) (vx_isRefq hN'.1) hU'.2.word hN'.2.word
  have hown' : s'.vm.findClass own = some m.cls := by rw [hvm]; exact hown
  have hins : (Cond.instantiable cls 6).before args s' = true := h _ (by simp [Bundle.ownAtoms])
  obtain ⟨vm₁, cX, kX, hfX, hkX, -, -, X₁, st1⟩ := Y.newCold hexec (own := own) (C := cls) (index := ik) (n := 6) hown' hk' hins hini'
    (g := F0 m pc ls rest) rfl (by rw [hb]; exact d0) (Nat.le_refl _) (Nat.le_refl _)
  generalize hT1 : (T.setVm vm₁).pushCell { cls := cX, slots := kX.instanceTypes.map defaultValue, vm := .none } = T1 at X₁ st1
  have hcat : (Value.ref T.heap.size).category = 1 := rfl
  have hcellA : T1.heap[T.heap.size]? = some (freshCell cX kX) := by rw [← hT1]; exact State.heap_pushCell_size _ _
  have d3' : decode c.code (pc + 3) = .ok (.dup, 1) := by rw [hb]; exact d3
  have d4' : decode c.code (pc + 4) = .ok (.ldc_w is, 3) := by rw [hb]; exact d4
  have hstr' : vk_R own is text sa s' := vk_R.warm hW0 hstr
  obtain ⟨U, hsteps, hrun, hend, hW, hsame, ce, hce, hO⟩ := X₁.ctorThrowS hexec htr (own := own) (cls := cls) (names := names) (ic := ic) hown' hcls hnames h (fun x hx => nomatch hx) hfX hkX hcellA (by rw [hhp, hT]; exact Nat.le_refl _) (msg := .ref sa) rfl
    (g := { method := m, pc := pc + 7, locals := ls, stack := .ref sa :: .ref T.heap.size :: .ref T.heap.size :: rest, locked := none }) rfl hsize rfl rfl (rest := rest) rfl
    (by rw [hb]; exact d7) (by rw [hb]; exact d10) hout hRframes (by simp only [List.map_cons, List.sum_cons, hcat]; omega) hlocks
  obtain ⟨f1, f2⟩ := vx_frame hsame
  rw [hhp] at f1 f2
  have hWs : s.WarmedH U.vm := State.WarmedH.trans hW0 hW
  have hcl : s.vm.findClass cls = some ce.cls := by
    have h9 := hO.cls
    rw [hvm] at h9
    exact h9
  have hall : s.sameButNew ({ U with vm := s.vm } : State) locs mc ms := by
    subst hA
    obtain ⟨e1, e2⟩ := hsame
    rw [State.setFrames_setFrames] at e1
    have h2 : (T.setVm s.vm).sameButNew ({ U with vm := s.vm } : State) [] (0 + 1) (0 + 6) := ⟨e1, e2⟩
    have h3 := X.same.trans h2
    rw [List.append_nil] at h3
    exact h3.mono hc hs
  refine ⟨U, ?_, .threw T.heap.size, hrun, hend, Or.inr ⟨T.heap.size, rfl, cls, ce, locs, hx U hWs.alike f1 (fun q hq => f2 q hq (fun z hz => nomatch hz)), hce, hO.vm, hcl, hWs, hall, hf⟩⟩
  refine st1 _ ?_
  show Steps p.tables e below (T1.setTop { method := m, pc := pc + 3, locals := ls, stack := .ref T.heap.size :: rest, locked := none }) _
  jvm_step X₁.here [X₁.here.top, hexec, d3', Value.category]
  exact X₁.ldcStringW hexec (own := own) (text := text) (index := is) (a := sa) hown' hstr'.1 hstr'.2
    (g := { method := m, pc := pc + 4, locals := ls, stack := .ref T.heap.size :: .ref T.heap.size :: rest, locked := none }) rfl d4' _ hsteps
end Ends
section Bodies
variable {l : Launch}
theorem vx_ofW {y : MethodName} {ws ws' : List Cond} {rm : Room} {Pc : Array Value → State → Prop} {Qc : Array Value → State → Outcome → State → Prop} {XC : String → State → State → Prop} {mc ms : Nat} {free : Addr → Prop} {cc : ByteArray} {maxL : Nat} {ret : Option FieldType}
    (hy : plainName y.cls = true) (hw : ws = Cond.code y cc maxL ret :: ws')
    (body : ∀ p e s m args below meth c s₁, BodyLoose p l y (headSpec ws rm) cc maxL ret e s m args below meth c s₁ → c.maxLocals = maxL → (∀ x ∈ c.exceptionTable.toList, False) → Pc args s →
      W p l e (headSpec ws rm).room s m args below meth c s.heap [] 0 0 (vx_MQ below Qc XC args s mc ms free) (entryFrame m args maxL)) : vx_Met l y ws rm Pc Qc XC mc ms free := by
  refine MetFree.of_bodyS (code := cc) (maxLocals := maxL) (ret := ret) hy ?_ ?_
  · intro args s m h hn
    obtain ⟨meth, c, h1, h2, h3, h4, h5, h6, -, -⟩ := Cond.code_spec hn (atoms_spec (ws := ws) h _ (by rw [hw]; exact List.mem_cons_self))
    exact ⟨meth, c, h1, h2, h3, h4, h5, h6⟩
  · intro p e s m args below meth c s₁ B hml hP _
    have hh0 : s₁.heap = s.heap := by rw [B.state]; rfl
    have ht : ∀ x ∈ c.exceptionTable.toList, False := by
      obtain ⟨meth9, c9, h1, h2, -, -, -, -, h7, -⟩ := Cond.code_spec B.named (atoms_spec (ws := ws) B.pre _ (by rw [hw]; exact List.mem_cons_self))
      cases Option.some.inj (h1.symm.trans B.method)
      cases Option.some.inj (h2.symm.trans (Stand.of_body B).code)
      intro x hx
      rw [Array.isEmpty_iff.mp h7] at hx
      cases hx
    obtain ⟨t, a1, o, b1, b2, b3⟩ := body p e s m args below meth c s₁ B hml ht hP s₁ hh0 (Stand.of_body B)
    exact ⟨t, o, a1, b1, b2, b3⟩
theorem vx_table {p : Program} {x y : MethodName} {S : Spec} {cc bytes : ByteArray} {maxL maxL' : Nat} {ret ret' : Option FieldType} {e : Env} {s s₁ : State} {m : MethodId} {args : Array Value} {below : List Frame} {meth : Method} {c : Code} {hh : List (Nat × Nat × Nat × Nat)}
    (B : BodyLoose p l y S cc maxL ret e s m args below meth c s₁) (h : (Cond.codeWith y bytes maxL' ret' hh).before args s = true) : c.exceptionTable.toList = tableOf hh := by
  obtain ⟨m9, meth9, c9, hn9, h1, h2, -, -, h6, -⟩ := Cond.codeWith_spec h
  cases Option.some.inj (hn9.symm.trans B.named)
  cases Option.some.inj (h1.symm.trans B.method)
  cases Option.some.inj (h2.symm.trans (Stand.of_body B).code)
  rw [← h6, table_eq]
end Bodies
end VXA
/-! ===== END ===== -/
/-! ===== BEGIN a static call of a method with an exception table ===== -/
section VXS
variable {p : Program} {l : Launch} {e : Env} {R : Room} {s : State} {m : MethodId} {args : Array Value} {below : List Frame} {meth : Method} {c : Code} {T : State} {H : Heap} {locs : List Loc} {cells slots : Nat}
abbrev vx_CSW (R : Room) (s : State) (args : Array Value) (own : String) (index : Nat) (y : MethodName) (bytes : ByteArray) (maxL : Nat) (ret : Option FieldType) (hh : List (Nat × Nat × Nat × Nat)) (ws : List Cond) (rm : Room) (mc ms n : Nat) : Prop :=
  (rm.cells = mc ∧ rm.slots = ms ∧ rm.frames + 1 ≤ R.frames ∧ 8 + (maxL + 11) + rm.locals ≤ R.locals ∧ (∀ w ∈ ws, ∀ (a' : Array Value) (U : State), s.WarmedH U.vm → w.before a' U = true) ∧ Cond.codeWith y bytes maxL ret hh ∈ ws) ∧
  (Cond.codeWith y bytes maxL ret hh).before args s = true ∧ (Cond.initialized y.cls).before args s = true ∧ (y.cls ≠ "java/lang/invoke/MethodHandle" ∧ y.cls ≠ "java/lang/invoke/VarHandle") ∧
  (∀ sig, parseMethodDescriptor y.desc = some sig → n = sig.parameters.length) ∧ (Cond.methodLink own index y).before args s = true ∧ (Cond.static y).before args s = true
theorem vx_cwSW {own : String} {index maxL mc ms : Nat} {y : MethodName} {bytes : ByteArray} {ret : Option FieldType} {hh : List (Nat × Nat × Nat × Nat)} {Ts ws ws' : List Cond} {rm : Room} (n : Nat) (ht : ∀ w ∈ Ts, w.before args s = true) (hT : GoodIn Ts (va_wsS own index y ws)) (hw : ws = Cond.codeWith y bytes maxL ret hh :: ws') (hrc : rm.cells = mc) (hrs : rm.slots = ms)
    (hd : y.cls ≠ "java/lang/invoke/MethodHandle" ∧ y.cls ≠ "java/lang/invoke/VarHandle" ∧ (parseMethodDescriptor y.desc).map (fun d => d.parameters.length) = some n) (hR : rm.frames + 1 ≤ R.frames ∧ 8 + (maxL + 11) + rm.locals ≤ R.locals) :
    vx_CSW R s args own index y bytes maxL ret hh ws rm mc ms n := by
  have ok : ∀ w ∈ va_wsS own index y ws, w.before args s = true := fun w h => ht w (hT w h).1
  have hG : GoodIn Ts ws := fun w h => hT w (by unfold va_wsS; exact List.mem_append_right _ h)
  have hc : Cond.codeWith y bytes maxL ret hh ∈ ws := by rw [hw]; exact List.mem_cons_self
  refine ⟨⟨hrc, hrs, hR.1, hR.2, pay_in ht hG, hc⟩, ht _ (hG _ hc).1, ok _ (by simp [va_wsS]), ⟨hd.1, hd.2.1⟩, fun sig h => ?_, ok _ (by simp [va_wsS]), ok _ (by simp [va_wsS])⟩
  have h2 := hd.2.2
  rw [h] at h2
  exact (Option.some.inj h2).symm
theorem vx_callSW (X : Stand p l e R s m args below meth c T locs cells slots) (hexec : p.tables.exec = Jvm.exec) {own : String} {index : Nat} {y : MethodName} {bytes : ByteArray} {maxL : Nat} {ret : Option FieldType} {hh : List (Nat × Nat × Nat × Nat)}
    (hown : s.vm.findClass own = some m.cls) (hlink : (Cond.methodLink own index y).before args s = true) (hstat : (Cond.static y).before args s = true) (hinit : (Cond.initialized y.cls).before args s = true)
    (hcode : (Cond.codeWith y bytes maxL ret hh).before args s = true) (hy : y.cls ≠ "java/lang/invoke/MethodHandle" ∧ y.cls ≠ "java/lang/invoke/VarHandle")
    {W9 : Nat} {Pre : Pt → Array Value → Prop} {Post : Pt → Array Value → Option Value → Pt → Prop} (hK : Back l R p e below s args y 3 W9 Pre Post)
    {g : JFrame} (hg : g.method = m) (hsize : g.locals.size = c.maxLocals) {argsL rest : List Value} (hlen : ∀ sig, parseMethodDescriptor y.desc = some sig → argsL.length = sig.parameters.length)
    (hstack : g.stack = argsL.reverse ++ rest) (hW : 2 * g.monitorRoom + (rest.map fun v => v.category).sum ≤ W9) (hdg : decode c.code g.pc = .ok (.invokestatic index, 3))
    (hpre : ∀ vm₁, s.WarmedH vm₁ → Pre ⟨T.setVm vm₁, locs, cells, slots⟩ argsL.toArray) :
    ∃ (v : Option Value) (vm₁ : Vm) (B : Pt), s.WarmedH vm₁ ∧ Stand p l e R s m args below meth c B.U B.locs B.cells B.slots ∧ Post ⟨T.setVm vm₁, locs, cells, slots⟩ argsL.toArray v B ∧
      ∀ target, Steps p.tables e below (B.U.setTop { g with pc := g.pc + 3, stack := v.toList ++ rest }) target → Steps p.tables e below (T.setTop g) target := by
  obtain ⟨mk, methM, cM, hnamed, hmethM, -, -, -, -, -, -, hsigM⟩ := Cond.codeWith_spec hcode
  have hstatic : methM.isStatic = true := Cond.static_spec hnamed hmethM hstat
  obtain ⟨kP, hkP, -⟩ := className_of_methodNamed hnamed
  have hinitP : kP.init = .initialized := Cond.initialized_spec (findClass_of_methodNamed hnamed) hkP hinit
  obtain ⟨vm₁, X₁, hstep₁⟩ := X.invokestatic hexec hown hlink hnamed hmethM hstatic hkP hinitP hy (g := g) hg (argsL := argsL) (rest := rest) (hlen _ hsigM) hstack hdg
  obtain ⟨v, B, X', hpost, hsteps⟩ := hK m meth c ⟨T.setVm vm₁, locs, cells, slots⟩ { g with stack := rest } (.invokestatic index) mk argsL.toArray X₁ hg hsize hdg hW (X₁.named hnamed) (hpre vm₁ X₁.warmed)
  exact ⟨v, vm₁, B, X₁.warmed, X', hpost, fun target h => hstep₁ _ fun acts => by rw [doInvoke_state]; exact hsteps.trans h⟩
theorem vx_runSW {y : MethodName} {bytes cc : ByteArray} {maxL nL mc ms n index : Nat} {ret : Option FieldType} {hh : List (Nat × Nat × Nat × Nat)} {ws : List Cond} {rm : Room} {Pc : Array Value → State → Prop} {Qc : Array Value → State → Outcome → State → Prop} {free : Addr → Prop} {Ts : List Cond} {own : String} {As rest : List Value} {g : JFrame}
    (S : CallFix p m c cc nL s args Ts own) (hM : Met l y ws rm Pc Qc mc ms free) (cw : vx_CSW R s args own index y bytes maxL ret hh ws rm mc ms n) (hp : PreS s H Pc As)
    (hg : g.method = m) (hn : As.length = n) (hsize : g.locals.size = nL) (hstack : g.stack = As.reverse ++ rest) (hW : 2 * g.monitorRoom + (rest.map fun v => v.category).sum ≤ 8) (hdg : decode cc g.pc = .ok (.invokestatic index, 3)) (hf : cells + mc ≤ R.cells ∧ slots + ms ≤ R.slots) :
    va_Run p l e R s m args below meth c H locs cells slots mc ms g rest (Qc As.toArray) (free) := by
  obtain ⟨⟨hrc, hrs, hfr, hlo, hws, hcw⟩, hcode, hini, hy, hlen, hl, hstt⟩ := cw
  have hK : Back l R p e below s args y 3 8 (PreOf R mc ms Pc) (PostOf Qc mc ms free) := va_backW (hh := hh) (bytes := bytes) (maxL := maxL) (ret := ret) hM hp.1 hrc hrs hfr hlo hws hcw (fun a' U hW => word_at hW (Or.inl (by first | rfl | simp [Cond.onTables, Cond.keeps, Cond.steady])) hini)
  obtain ⟨hx, hb, hml, ho, -⟩ := S
  intro T hT X
  obtain ⟨v, vm₁, ⟨U', l2, c2, s2⟩, hW₁, X', ⟨g', mk, t, L, e1, e2, hq, h1, hL, h2, h3⟩, st⟩ := vx_callSW X hx (hh := hh) (bytes := bytes) (maxL := maxL) (ret := ret) ho hl hstt hini hcode hy hK hg (hsize.trans hml.symm) (argsL := As) (rest := rest) (fun sig h => hn.trans (hlen sig h)) hstack hW (by rw [hb]; exact hdg)
    (fun vm₁ hW₁ => ⟨hf.1, hf.2, hp.2 (T.setVm vm₁) hT hW₁⟩)
  dsimp only [Pt.U, Pt.locs, Pt.cells, Pt.slots] at X' e1 e2 h1 h2 h3 st
  subst h1; subst h2; subst h3
  exact ⟨v, (T.setVm vm₁).calling g' mk As.toArray, t, U', L, hT, X', hL, e1, e2, hq, st⟩
theorem vx_lt {D : va_G} {cl : List vw_C} {ws : va_W} {H1 : Heap} (h : va_P D cl ws H1) {k : Nat} {q : Nat × va_E} (hk : ws[k]? = some q) : q.1 < H1.size := (h k q hk).lt
end VXS
/-! ===== END ===== -/
theorem vx_ofWH {l : Launch} {y : MethodName} {ws ws' : List Cond} {rm : Room} {Pc : Array Value → State → Prop} {Qc : Array Value → State → Outcome → State → Prop} {XC : String → State → State → Prop} {mc ms : Nat} {free : Addr → Prop} {cc : ByteArray} {maxL : Nat} {ret : Option FieldType} {hh : List (Nat × Nat × Nat × Nat)}
    (hy : plainName y.cls = true) (hw : ws = Cond.codeWith y cc maxL ret hh :: ws')
    (body : ∀ p e s m args below meth c s₁, BodyLoose p l y (headSpec ws rm) cc maxL ret e s m args below meth c s₁ → c.maxLocals = maxL → Pc args s →
      W p l e (headSpec ws rm).room s m args below meth c s.heap [] 0 0 (vx_MQ below Qc XC args s mc ms free) (entryFrame m args maxL)) : vx_Met l y ws rm Pc Qc XC mc ms free := by
  refine MetFree.of_bodyS (code := cc) (maxLocals := maxL) (ret := ret) hy ?_ ?_
  · intro args s m h hn
    obtain ⟨m9, meth, c, hn9, h1, h2, h3, h4, -, h5, h6, -⟩ := Cond.codeWith_spec (atoms_spec (ws := ws) h _ (by rw [hw]; exact List.mem_cons_self))
    cases hn.symm.trans hn9
    exact ⟨meth, c, h1, h2, h3, h4, h5, h6⟩
  · intro p e s m args below meth c s₁ B hml hP _
    have hh0 : s₁.heap = s.heap := by rw [B.state]; rfl
    obtain ⟨t, a1, o, b1, b2, b3⟩ := body p e s m args below meth c s₁ B hml hP s₁ hh0 (Stand.of_body B)
    exact ⟨t, o, a1, b1, b2, b3⟩
end
section
/-! a throw, caught by the one row of the method's own table -/
section VXC
variable {p : Program} {l : Launch} {e : Env} {R : Room} {s : State} {m : MethodId} {args : Array Value} {below : List Frame} {meth : Method} {c : Code} {H : Heap} {locs : List Loc} {cells slots : Nat} {Q : State → Prop}
theorem xc_find {S : State} {f : JFrame} {a : Addr} {x : ExceptionTableEntry} {cT : ClassId} {cell : Cell} (hm : S.vm.method? f.method = some meth) (hc : meth.code = some c) (htab : c.exceptionTable.toList = [x]) (hx : covers x f.pc = true) (h0 : x.catchType ≠ 0)
    (hl : S.vm.ClassLinks e.platform f.method.cls x.catchType cT) (hcell : S.heap[a]? = some cell) (hobj : ∀ k, cell.vm ≠ .statics k) (hk : ∃ k, S.vm.classes[cell.cls]? = some k) (hk2 : ∃ k, S.vm.classes[cT]? = some k) (hfit : S.vm.assignable cell.cls cT = true)
    (Q9 : Handler → Pre) (E9 : CtlPost) (d : Bool) (acts : List Action) : wp (findHandler f a) Q9 E9 e d acts S ↔ Q9 (.found x.handlerPc) d acts (S.setVm (S.vm.noted f.method.cls x.catchType (.cls cT))) := by
  rw [W.findHandler_eq hm hc, htab]
  have hx' := hx
  simp only [covers] at hx'
  obtain ⟨ha, ht⟩ := (resolveClass_links e.toSetting hl).op (op := VmOp.resolveClass f.method.cls x.catchType) rfl
  have hal : S.vm.Alike (S.vm.noted f.method.cls x.catchType (.cls cT)) := (Vm.Alike.refl S.vm).noted _ _ _
  obtain ⟨k1, hk1⟩ := hk
  obtain ⟨k2, hk2⟩ := hk2
  obtain ⟨k1', hk1', -⟩ := hal.2.2 _ _ hk1
  obtain ⟨k2', hk2', -⟩ := hal.2.2 _ _ hk2
  have hfit' : (S.vm.noted f.method.cls x.catchType (.cls cT)).assignable cell.cls cT = true := by rw [hal.assignable]; exact hfit
  simp [findHandler.go, hx', h0, ha, ht, hcell, hobj, hk1', hk2', hfit', VmOp.dirties, VmOp.acts]
theorem xc_step {S : State} {f : JFrame} {a : Addr} {r : List Frame} {pc : Nat} {vm' : Vm} (hfind : ∀ (Q9 : Handler → Pre) (E9 : CtlPost) (d : Bool) (acts : List Action), wp (findHandler f a) Q9 E9 e d acts S ↔ Q9 (.found pc) d acts (S.setVm vm')) :
    (stepThrowing e S a (.java f :: r)).1 = (S.setVm vm').setFrames (.java { f with pc := pc, stack := [.ref a] } :: r) := by
  simp only [stepThrowing, searchFrame, vmDo]
  generalize hr : Sem.go _ e false [] S = res
  obtain ⟨as, rfl, ha⟩ := Sem.eq_ok_of hr (a := Handler.found pc) (s' := S.setVm vm') (acts' := []) (by simp [hfind _ _ _ _])
  rfl
theorem xc_catch {own name E : String} {ce : Cell} {q : Addr} {x : ExceptionTableEntry} {pc : Nat} {ls : Array Slot} {rest : List Value} (hown : s.vm.findClass own = some m.cls) (htab : c.exceptionTable.toList = [x]) (hx : covers x pc = true) (h0 : x.catchType ≠ 0)
    (hlink : (Jvm.Cond.classLink own x.catchType name).before args s = true) (hcast : (Jvm.Cond.castable E name).before args s = true) (hcell : H[q]? = some ce) (hv : ce.vm = .none) (hcl : s.vm.findClass E = some ce.cls)
    (kk : W p l e R s m args below meth c H locs cells slots Q (F0 m x.handlerPc ls [.ref q])) : vx_W p l e R s m args below meth c H locs cells slots Q (F0 m pc ls rest) q := by
  intro T hT X
  have hpl : e.platform.magicAccessors = ({} : Platform).magicAccessors := by rw [X.admits.platform]
  obtain ⟨c3, c4, hc3, hc4, hasg⟩ := Cond.castable_spec hcast
  cases Option.some.inj (hc3.symm.trans hcl)
  obtain ⟨c5, hc5, hcl5⟩ := Cond.classLink_spec hown hlink e.platform hpl
  cases Option.some.inj (hc4.symm.trans hc5)
  have hW := X.warmed
  obtain ⟨dk, _, _, kt, hd, _, _, _, _, hkt, _, hrd⟩ := hcl5.here
  have hW' : s.WarmedH (T.vm.noted m.cls x.catchType (.cls c4)) := hW.noted hd hrd (State.rightAt_cls hcl5)
  have X' := X.noted hW'
  obtain ⟨t, a1, b1⟩ := kk (T.setVm (T.vm.noted m.cls x.catchType (.cls c4))) hT X'
  refine ⟨t, ?_, b1⟩
  obtain ⟨k0, hk0⟩ : ∃ k, s.vm.classes[ce.cls]? = some k := Vm.classAt_of_assignable hasg ⟨kt, hkt⟩
  obtain ⟨k0', hk0', -⟩ := hW.alike.2.2 _ _ hk0
  obtain ⟨kt', hkt', -⟩ := hW.alike.2.2 _ _ hkt
  have hf := xc_find (e := e) (meth := meth) (c := c) (S := (T.setTop (F0 m pc ls rest)).pushFrame (.throwing q)) (f := F0 m pc ls rest) (a := q) (x := x) (cT := c4) (cell := ce) X.method' X.code htab hx h0 (hW.classLinks hcl5) (by rw [← hT] at hcell; exact hcell) (fun k h => by rw [hv] at h; cases h) ⟨k0', hk0'⟩ ⟨kt', hkt'⟩ (by have h9 := hW.alike.assignable ce.cls c4; exact h9.trans hasg)
  have h := X.here
  obtain ⟨hgo, hw⟩ := At.throwing (g := F0 m pc ls rest) h q
  refine Steps.head hgo hw ?_
  rw [stepThread_throwing (frames_entered h.top _), xc_step hf]
  obtain ⟨g₀, hg⟩ := Option.isSome_iff_exists.mp h.top
  obtain ⟨r, hr⟩ := State.topJava?_eq_some.mp hg
  have hr' : (T.setVm (T.vm.noted m.cls x.catchType (.cls c4))).frames = .java g₀ :: r := hr
  rw [State.setTop_of_frames _ hr'] at a1
  have e1 : ∀ (u : State) (vm' : Vm) (F G : List Frame), ((u.setFrames F).setVm vm').setFrames G = (u.setVm vm').setFrames G := by
    intro u vm' F G
    have h1 : (u.setFrames F).setVm vm' = (u.setVm vm').setFrames F := rfl
    rw [h1, State.setFrames_setFrames]
  rw [hr, List.tail_cons, State.pushFrame, e1, State.setTop_of_frames _ hr, e1]
  exact a1
end VXC
end
section
/-! The interpreter is sound. xG: at pc with these locals, this stack and this picture the machine comes to Q. -/
def xG (p : Program) (l : Launch) (e : Env) (R : Room) (s : State) (m : MethodId) (args : Array Value) (below : List Frame) (meth : Method) (c : Code) (cells slots : Nat) (Q : State → Prop) (D : va_G) (T : List WE) (g : Nat → Nat) (cI cZ : ClassId) (A : Nat → Prop) (nL : Nat) (pc : Nat) (lv : LV) (st : List AV) (S : XS) : Prop := ∀ (H : Heap) (locs : List Loc) (ls : Array Slot), va_P D vwCl (ww T g cI cZ S) H → va_S A s.heap H locs → lv_has ls nL (lvc g lv) → W p l e R s m args below meth c H locs cells slots Q (F0 m pc ls (st.map (cv g)))
/-- the static tables stand -/
def stn (o : Nat) : String := if o = 40 then "MOST" else "AT_FIRST"
def stf (o : Nat) : Nat → Int32 := if o = 40 then mostf else firstf
def xTxt : String := "place() has not been called since the last change"
def xSt (g : Nat → Nat) (A : Nat → Prop) (s : State) (H : Heap) : Prop := (∀ o, o = 40 ∨ o = 41 → va_Z RX1 (stn o) "[I" (.ref (g o)) A s H ∧ va_T .int (g o) 6 (fun j => .int (stf o j)) A s H) ∧ (vx_Zq Bundle.tN "UNASSIGNED_STACK" Bundle.steD A s H ∧ vx_Zq Bundle.tN "SUPPRESSED_SENTINEL" Bundle.listD A s H) ∧ vk_R RX5 209 xTxt (g 42) s
theorem xSt.on {g : Nat → Nat} {A : Nat → Prop} {s U : State} {H : Heap} {locs : List Loc} (h : xSt g A s s.heap) (hS : va_S A s.heap H locs) (hU : U.heap = H) (hW : s.WarmedH U.vm) : xSt g A U U.heap := by
  rw [hU]
  exact ⟨fun o ho => ⟨((h.1 o ho).1.kept hS.2.1).moved hW.alike, ((h.1 o ho).2.kept hS.2.1).moved hW.alike⟩, ⟨(h.2.1.1.kept hS.2.1).moved hW.alike, (h.2.1.2.kept hS.2.1).moved hW.alike⟩, h.2.2.warm hW⟩
/-- what holds of the method's own machine -/
def xC (p : Program) (s : State) (m : MethodId) (c : Code) (D : va_G) (T : List WE) (g : Nat → Nat) (cI cZ : ClassId) (A : Nat → Prop) (nL : Nat) (cc : ByteArray) (own : String) : Prop := p.tables.exec = Jvm.exec ∧ c.code = cc ∧ c.maxLocals = nL ∧ s.vm.findClass own = some m.cls ∧ va_K D vwCl [(cI, .int), (cZ, .boolean)] s ∧ (∀ S, va_D A (ww T g cI cZ S)) ∧ xSt g A s s.heap
/-- a field's words -/
def xFw (s : State) (args : Array Value) (own : String) (idx ci k : Nat) (C : String) (Tf : u_T) (N : Nat) : Prop := vwCl[ci]? = some (C, Tf, N) ∧ k < N ∧ (∀ w ∈ u_ws C Tf N, w.before args s = true) ∧ ((Cond.fieldLink own idx (Tf k).1 (Tf k).2.1 (Tf k).2.2.1).before args s = true ∨ ∃ host, (Cond.fieldLinkNest own idx (Tf k).1 (Tf k).2.1 (Tf k).2.2.1 host).before args s = true)
def xF (s : State) (args : Array Value) (own : String) (q : CE) : Prop := match q.2.1 with
  | .getfield idx => ∃ C Tf N, xFw s args own idx (q.2.2.2.1.headD 0) (q.2.2.2.1.getD 1 0) C Tf N
  | .putfield idx => ∃ C Tf N, xFw s args own idx (q.2.2.2.1.headD 0) (q.2.2.2.1.getD 1 0) C Tf N ∧ (Tf (q.2.2.2.1.getD 1 0)).2.2.2 = false ∧ parseFieldDescriptor (Tf (q.2.2.2.1.getD 1 0)).2.2.1 = some (if q.2.2.2.1.getD 2 0 = 0 then .int else .boolean)
  | .ldc idx => (Jvm.Cond.constant own idx q.2.2.2.2).before args s = true
  | .ldc_w idx => (Jvm.Cond.constant own idx q.2.2.2.2).before args s = true
  | .getstatic idx => (q.2.2.2.1.headD 0 = 40 ∨ q.2.2.2.1.headD 0 = 41) ∧ (Jvm.Cond.fieldLink own idx RX1 (stn (q.2.2.2.1.headD 0)) "[I").before args s = true
  | _ => True
def xFt (s : State) (args : Array Value) (own : String) (q : Nat × Nat × Nat) : Prop := if q.2.1 = 9 then (q.2.2 = 40 ∨ q.2.2 = 41) ∧ (Jvm.Cond.fieldLink own q.1 RX1 (stn q.2.2) "[I").before args s = true else ∃ C Tf N, xFw s args own q.1 q.2.1 q.2.2 C Tf N
def xPt (s : State) (args : Array Value) (own : String) (q : Nat × Nat × Nat × Nat) : Prop := ∃ C Tf N, xFw s args own q.1 q.2.1 q.2.2.1 C Tf N ∧ (Tf q.2.2.1).2.2.2 = false ∧ parseFieldDescriptor (Tf q.2.2.1).2.2.1 = some (if q.2.2.2 = 0 then .int else .boolean)
theorem xF_of {s : State} {args : Array Value} {own : String} {ft : List (Nat × Nat × Nat)} {pt : List (Nat × Nat × Nat × Nat)} {kt : List (Nat × Int32)} (h1 : ∀ q ∈ ft, xFt s args own q) (h2 : ∀ q ∈ pt, xPt s args own q) (h3 : ∀ q ∈ kt, (Jvm.Cond.constant own q.1 q.2).before args s = true) {q : CE} (h : fck ft pt kt q = true) : xF s args own q := by
  obtain ⟨pc, i, np, ns, v⟩ := q
  unfold xF
  unfold fck at h
  dsimp only at h ⊢
  split at h
  · obtain ⟨e1, e2⟩ := Bool.and_eq_true_iff.mp h
    have h9 := h1 _ (of_decide_eq_true e1)
    unfold xFt at h9
    rw [if_neg (of_decide_eq_true e2)] at h9
    exact h9
  · exact h2 _ (of_decide_eq_true h)
  · exact h3 _ (of_decide_eq_true h)
  · exact h3 _ (of_decide_eq_true h)
  · exact h1 _ (of_decide_eq_true h)
  · split
    · rename_i a1 a2 a3 a4 a5
      exact (a1 _ rfl).elim
    · rename_i a1 a2 a3 a4 a5
      exact (a2 _ rfl).elim
    · rename_i a1 a2 a3 a4 a5
      exact (a3 _ rfl).elim
    · rename_i a1 a2 a3 a4 a5
      exact (a4 _ rfl).elim
    · rename_i a1 a2 a3 a4 a5
      exact (a5 _ rfl).elim
    · trivial
/-- a callee's row -/
def xCF (p : Program) (l : Launch) (e : Env) (R : Room) (s : State) (m : MethodId) (args : Array Value) (below : List Frame) (meth : Method) (c : Code) (cells slots : Nat) (Q : State → Prop) (D : va_G) (T : List WE) (g : Nat → Nat) (cI cZ : ClassId) (A : Nat → Prop) (nL : Nat) (cc : ByteArray) (R0 : RS) (q : CT) : Prop := ∀ (pc : Nat) (lv : LV) (As rest : List AV) (S : XS) (o : RS), As.length = q.2.2.1 → rest.length ≤ 8 → decode cc pc = .ok (bif q.1 then .invokestatic q.2.1 else .invokevirtual q.2.1, 3) → (q.1 = true ∨ rcv T q.2.2.2.2.1 As = true) → q.2.2.2.2.2 As S = some o → (match o.2 with
  | none => R0 = (o.1, none)
  | some v => xG p l e R s m args below meth c cells slots Q D T g cI cZ A nL (pc + 3) lv (v.toList ++ rest) o.1) → xG p l e R s m args below meth c cells slots Q D T g cI cZ A nL pc lv (As.reverse ++ rest) S
/-- the method's end -/
def xRt (p : Program) (l : Launch) (e : Env) (R : Room) (s : State) (m : MethodId) (args : Array Value) (below : List Frame) (meth : Method) (c : Code) (cells slots : Nat) (Q : State → Prop) (D : va_G) (T : List WE) (g : Nat → Nat) (cI cZ : ClassId) (A : Nat → Prop) (nL : Nat) (cc : ByteArray) (zb : Nat) (R0 : RS) : Prop := ∀ (pc : Nat) (S : XS) (v : Option AV) (H : Heap) (locs : List Loc) (ls : Array Slot), R0 = (S, some v) → va_P D vwCl (ww T g cI cZ S) H → va_S A s.heap H locs → (match v with
  | none => decode cc pc = .ok (.return_, 1) ∧ zb = 2
  | some (.inl x) => decode cc pc = .ok (.ireturn, 1) ∧ zb ≤ 1 ∧ (zb = 0 ∨ x = 0 ∨ x = 1)
  | some (.inr _) => decode cc pc = .ok (.areturn, 1) ∧ zb = 3) → W p l e R s m args below meth c H locs cells slots Q (F0 m pc ls (v.toList.map (cv g)))
theorem vw_known : ∀ (ci : Nat) (C : String) (Tf : u_T) (N : Nat), vwCl[ci]? = some (C, Tf, N) → ∃ ty0 : Nat → FieldType, (∀ k, k < N → parseFieldDescriptor (Tf k).2.2.1 = some (ty0 k)) ∧ (∀ a, a < N → ∀ b, b < N → a ≠ b → (Tf a).2.1 ≠ (Tf b).2.1) := by
  intro ci C Tf N h
  match ci, h with
  | 0, h => cases h; exact ⟨tyX0, tyX0_ok, nmX0⟩
  | 1, h => cases h; exact ⟨tyX1, tyX1_ok, nmX1⟩
  | 2, h => cases h; exact ⟨tyX2, tyX2_ok, nmX2⟩
  | 3, h => cases h; exact ⟨tyX3, tyX3_ok, nmX3⟩
  | 4, h => cases h; exact ⟨tyX4, tyX4_ok, nmX4⟩
  | 5, h => cases h; exact ⟨tyX5, tyX5_ok, nmX5⟩
  | 6, h => cases h; exact ⟨tyX6, tyX6_ok, nmX6⟩
  | k + 7, h => simp [vwCl] at h
theorem brc_some {cd : Jvm.ClassFile.Cond} {x y : Int32} {a b : Option RS} {R : RS} (h : brc cd x y a b = some R) : match cd with
    | .eq => (x = y → a = some R) ∧ (¬ x = y → b = some R)
    | .ne => (¬ x = y → a = some R) ∧ (x = y → b = some R)
    | .lt => (x < y → a = some R) ∧ (¬ x < y → b = some R)
    | .ge => (y ≤ x → a = some R) ∧ (¬ y ≤ x → b = some R)
    | .gt => (y < x → a = some R) ∧ (¬ y < x → b = some R)
    | .le => (x ≤ y → a = some R) ∧ (¬ x ≤ y → b = some R) := by
  cases cd <;> (unfold brc at h; dsimp only at h ⊢; constructor) <;> (intro hc; simpa [hc] using h)
theorem wfd_get {g : Nat → Nat} {S : XS} {k q : Nat} {fds : List (Option Nat)} {d : Option Nat} (h : fds[q]? = some d) : (fds.mapIdx (wfd g S k))[q]? = some (cv g (fdv S k q d)) := by
  rw [List.getElem?_mapIdx, h]
  cases d <;> rfl
theorem ww_setf {T : List WE} {g : Nat → Nat} {cI cZ : ClassId} {S : XS} {k q ci : Nat} {v : Int32} {fds : List (Option Nat)} (h : T[k]? = some (.inr (ci, fds))) (hq : fds[q]? = some none) : (ww T g cI cZ S).set k (g k, .inr (ci, (fds.mapIdx (wfd g S k)).set q (.int v))) = ww T g cI cZ (up2 S k q v) := by
  refine ww_set h ?_
  show _ = (g k, Sum.inr (ci, fds.mapIdx (wfd g (up2 S k q v) k)))
  have e : (fds.mapIdx (wfd g S k)).set q (.int v) = fds.mapIdx (wfd g (up2 S k q v) k) := by
    apply List.ext_getElem?
    intro j
    rw [List.getElem?_set, List.getElem?_mapIdx, List.getElem?_mapIdx, List.length_mapIdx]
    have hl : q < fds.length := (List.getElem?_eq_some_iff.mp hq).1
    by_cases e : q = j
    · subst e
      rw [if_pos rfl, if_pos hl, hq]
      show some _ = some (wfd g (up2 S k q v) k q none)
      unfold wfd
      simp [up2, upd]
    · rw [if_neg e]
      cases fds[j]? with
      | none => rfl
      | some d =>
        show some (wfd g S k j d) = some (wfd g (up2 S k q v) k j d)
        cases d with
        | some _ => rfl
        | none =>
          show some (Value.int (S k j)) = some (Value.int (up2 S k q v k j))
          simp [up2, upd, Ne.symm e]
  rw [e]
theorem narrow_b01 {x : Int32} (h : x = 0 ∨ x = 1) : narrow .boolean (.int x) = .int x := by
  rcases h with h | h <;> subst h <;> decide
theorem fits_b01 {x : Int32} (h : x = 0 ∨ x = 1) : fits .boolean (.int x) = true := by
  rcases h with h | h <;> subst h <;> decide
theorem lk_place {lv : LV} {i : Nat} {v : AV} (h : lk lv i = some v) : ∃ k : Nat, lv[k]? = some (i, v) := by
  induction lv with
  | nil => cases h
  | cons q t ih =>
    obtain ⟨j, w⟩ := q
    unfold lk at h
    cases e : Nat.beq j i with
    | true =>
      rw [e] at h
      cases Option.some.inj h
      cases Nat.eq_of_beq_eq_true e
      exact ⟨0, rfl⟩
    | false =>
      rw [e] at h
      obtain ⟨k, hk⟩ := ih h
      exact ⟨k + 1, hk⟩
theorem lvc_place {g : Nat → Nat} {lv : LV} {k i : Nat} {v : AV} (h : lv[k]? = some (i, v)) : (lvc g lv)[k]? = some (i, cv g v) := by
  unfold lvc
  rw [List.getElem?_map, h]
  rfl
set_option maxHeartbeats 4000000 in
theorem xa_stp {p : Program} {l : Launch} {e : Env} {R : Room} {s : State} {m : MethodId} {args : Array Value} {below : List Frame} {meth : Method} {c : Code} {cells slots : Nat} {Q : State → Prop} {D : va_G} {T : List WE} {g : Nat → Nat} {cI cZ : ClassId} {A : Nat → Prop} {nL : Nat} {cc : ByteArray} {own : String} {zb : Nat} {cs : List CT} {R0 : RS} (C0 : xC p s m c D T g cI cZ A nL cc own) (hcs : ∀ (j : Nat) (q : CT), cs[j]? = some q → xCF p l e R s m args below meth c cells slots Q D T g cI cZ A nL cc R0 q) (hrt : xRt p l e R s m args below meth c cells slots Q D T g cI cZ A nL cc zb R0)
    {pc np : Nat} {i : Instr} {ns : List Nat} {v : Int32} (hr : rok cc nL zb (pc, i, np, ns, v) = true) (hf : xF s args own (pc, i, np, ns, v)) {K : KT} (hK : ∀ pc lv st S, K pc lv st S = some R0 → xG p l e R s m args below meth c cells slots Q D T g cI cZ A nL pc lv st S)
    {lv : LV} {st : List AV} {S : XS} (h : stp T cs i np ns v lv st S K = some R0) : xG p l e R s m args below meth c cells slots Q D T g cI cZ A nL pc lv st S := by
  obtain ⟨hx, hb, hml, hown, hKK, hDD, hst⟩ := C0
  obtain ⟨hr1, ho⟩ := Bool.and_eq_true_iff.mp hr
  obtain ⟨hd0, hn0⟩ := Bool.and_eq_true_iff.mp hr1
  have hd : decode cc pc = .ok (i, np - pc) := of_decide_eq_true hd0
  have hn : ntab i = true → np = pc + ilen i := fun e => by
    rcases Bool.or_eq_true_iff.mp hn0 with q | q
    · have q : (!ntab i) = true := q
      rw [e] at q; cases q
    · exact of_decide_eq_true q
  clear hr hr1 hd0 hn0
  intro H locs ls hP hS hl
  unfold stp at h
  split at h
  · obtain rfl : np = pc + 1 := hn rfl
    rw [Nat.add_sub_cancel_left] at hd
    exact lv_iconst hx hb hd (of_decide_eq_true ho) (hK _ _ _ _ h H locs ls hP hS hl)
  · obtain rfl : np = pc + 2 := hn rfl
    rw [Nat.add_sub_cancel_left] at hd
    exact lv_bipush hx hb hd (of_decide_eq_true ho) (hK _ _ _ _ h H locs ls hP hS hl)
  · obtain rfl : np = pc + 3 := hn rfl
    rw [Nat.add_sub_cancel_left] at hd
    exact lv_sipush hx hb hd (of_decide_eq_true ho) (hK _ _ _ _ h H locs ls hP hS hl)
  · obtain rfl : np = pc + 2 := hn rfl
    rw [Nat.add_sub_cancel_left] at hd
    exact lv_ldc hx hb hown hf hd (hK _ _ _ _ h H locs ls hP hS hl)
  · obtain rfl : np = pc + 3 := hn rfl
    rw [Nat.add_sub_cancel_left] at hd
    exact lv_ldcw hx hb hown hf hd (hK _ _ _ _ h H locs ls hP hS hl)
  · obtain ⟨x, hx1, hh1⟩ := ldi_some h
    obtain rfl : np = pc + 1 := hn rfl
    rw [Nat.add_sub_cancel_left] at hd
    exact lv_iload_n hx hb hd rfl (lk_at hl hx1) (hK _ _ _ _ hh1 H locs ls hP hS hl)
  · obtain ⟨x, hx1, hh1⟩ := ldi_some h
    obtain rfl : np = pc + 2 := hn rfl
    rw [Nat.add_sub_cancel_left] at hd
    exact lv_iload hx hb hd (lk_at hl hx1) (hK _ _ _ _ hh1 H locs ls hP hS hl)
  · obtain ⟨x, hx1, hh1⟩ := ldr_some h
    obtain rfl : np = pc + 1 := hn rfl
    rw [Nat.add_sub_cancel_left] at hd
    exact lv_aload_n hx hb hd rfl (lk_at hl hx1) (hK _ _ _ _ hh1 H locs ls hP hS hl)
  · obtain ⟨x, hx1, hh1⟩ := ldr_some h
    obtain rfl : np = pc + 2 := hn rfl
    rw [Nat.add_sub_cancel_left] at hd
    exact lv_aload hx hb hd (lk_at hl hx1) (hK _ _ _ _ hh1 H locs ls hP hS hl)
  · obtain ⟨x, r, rfl, hh1⟩ := pi1_some h
    obtain rfl : np = pc + 1 := hn rfl
    rw [Nat.add_sub_cancel_left] at hd
    exact lv_istore_n hx hb hd rfl hl (of_decide_eq_true ho) rfl (fun ls hl => hK _ _ _ _ hh1 H locs ls hP hS (lv_dl (v := .inl x) rfl hl))
  · obtain ⟨x, r, rfl, hh1⟩ := pi1_some h
    obtain rfl : np = pc + 2 := hn rfl
    rw [Nat.add_sub_cancel_left] at hd
    exact lv_istore hx hb hd hl (of_decide_eq_true ho) rfl (fun ls hl => hK _ _ _ _ hh1 H locs ls hP hS (lv_dl (v := .inl x) rfl hl))
  · obtain ⟨x, r, rfl, hh1⟩ := pr1_some h
    obtain rfl : np = pc + 1 := hn rfl
    rw [Nat.add_sub_cancel_left] at hd
    exact lv_astore_n hx hb hd rfl hl (of_decide_eq_true ho) rfl (fun ls hl => hK _ _ _ _ hh1 H locs ls hP hS (lv_dl (v := .inr x) rfl hl))
  · obtain ⟨x, r, rfl, hh1⟩ := pr1_some h
    obtain rfl : np = pc + 2 := hn rfl
    rw [Nat.add_sub_cancel_left] at hd
    exact lv_astore hx hb hd hl (of_decide_eq_true ho) rfl (fun ls hl => hK _ _ _ _ hh1 H locs ls hP hS (lv_dl (v := .inr x) rfl hl))
  · obtain ⟨x, hx1, hh1⟩ := ldi_some h
    have ho2 := Bool.and_eq_true_iff.mp ho
    obtain ⟨k9, hk9⟩ := lk_place hx1
    obtain rfl : np = pc + 3 := hn rfl
    rw [Nat.add_sub_cancel_left] at hd
    exact lv_iinc (k := k9) (x := x) (v := x + v) hx hb hd hl (lvc_place hk9) (by rw [of_decide_eq_true ho2.1]) (of_decide_eq_true ho2.2) rfl (fun ls hl => hK _ _ _ _ hh1 H locs ls hP hS (lv_dl (v := .inl (x + v)) rfl hl))
  · obtain ⟨y, r, rfl, hh1⟩ := pi1_some h
    obtain ⟨x, r, rfl, hh2⟩ := pi1_some hh1
    obtain rfl : np = pc + 1 := hn rfl
    rw [Nat.add_sub_cancel_left] at hd
    exact lv_iadd hx hb hd (hK _ _ _ _ hh2 H locs ls hP hS hl)
  · obtain ⟨y, r, rfl, hh1⟩ := pi1_some h
    obtain ⟨x, r, rfl, hh2⟩ := pi1_some hh1
    obtain rfl : np = pc + 1 := hn rfl
    rw [Nat.add_sub_cancel_left] at hd
    exact lv_isub hx hb hd (hK _ _ _ _ hh2 H locs ls hP hS hl)
  · obtain ⟨y, r, rfl, hh1⟩ := pi1_some h
    obtain ⟨x, r, rfl, hh2⟩ := pi1_some hh1
    obtain rfl : np = pc + 1 := hn rfl
    rw [Nat.add_sub_cancel_left] at hd
    exact lv_imul hx hb hd (hK _ _ _ _ hh2 H locs ls hP hS hl)
  · obtain ⟨y, r, rfl, hh1⟩ := pi1_some h
    obtain ⟨x, r, rfl, hh2⟩ := pi1_some hh1
    obtain rfl : np = pc + 1 := hn rfl
    rw [Nat.add_sub_cancel_left] at hd
    exact lv_iand hx hb hd (hK _ _ _ _ hh2 H locs ls hP hS hl)
  · obtain ⟨y, r, rfl, hh1⟩ := pi1_some h
    obtain ⟨x, r, rfl, hh2⟩ := pi1_some hh1
    obtain rfl : np = pc + 1 := hn rfl
    rw [Nat.add_sub_cancel_left] at hd
    exact lv_ior hx hb hd (hK _ _ _ _ hh2 H locs ls hP hS hl)
  · obtain ⟨y, r, rfl, hh1⟩ := pi1_some h
    obtain ⟨x, r, rfl, hh2⟩ := pi1_some hh1
    split at hh2
    · cases hh2
    rename_i hy0
    obtain rfl : np = pc + 1 := hn rfl
    rw [Nat.add_sub_cancel_left] at hd
    exact lv_idiv hx hb hd hy0 (hK _ _ _ _ hh2 H locs ls hP hS hl)
  · obtain ⟨x, r, rfl, hh1⟩ := pi1_some h
    obtain rfl : np = pc + 1 := hn rfl
    rw [Nat.add_sub_cancel_left] at hd
    exact lv_ineg hx hb hd (hK _ _ _ _ hh1 H locs ls hP hS hl)
  · rename_i cd off
    obtain ⟨x, r, rfl, hh1⟩ := pi1_some h
    have hh1 := brc_some hh1
    obtain rfl : np = pc + 3 := hn rfl
    rw [Nat.add_sub_cancel_left] at hd
    cases cd with
    | eq => exact lv_if_eq (tgt := ns.headD 0) hx hb hd (of_decide_eq_true ho) (fun hc => hK _ _ _ _ (hh1.1 hc) H locs ls hP hS hl) (fun hc => hK _ _ _ _ (hh1.2 hc) H locs ls hP hS hl)
    | ne => exact lv_if_ne (tgt := ns.headD 0) hx hb hd (of_decide_eq_true ho) (fun hc => hK _ _ _ _ (hh1.1 hc) H locs ls hP hS hl) (fun hc => hK _ _ _ _ (hh1.2 hc) H locs ls hP hS hl)
    | lt => exact lv_if_lt (tgt := ns.headD 0) hx hb hd (of_decide_eq_true ho) (fun hc => hK _ _ _ _ (hh1.1 hc) H locs ls hP hS hl) (fun hc => hK _ _ _ _ (hh1.2 hc) H locs ls hP hS hl)
    | ge => exact lv_if_ge (tgt := ns.headD 0) hx hb hd (of_decide_eq_true ho) (fun hc => hK _ _ _ _ (hh1.1 hc) H locs ls hP hS hl) (fun hc => hK _ _ _ _ (hh1.2 hc) H locs ls hP hS hl)
    | gt => exact lv_if_gt (tgt := ns.headD 0) hx hb hd (of_decide_eq_true ho) (fun hc => hK _ _ _ _ (hh1.1 hc) H locs ls hP hS hl) (fun hc => hK _ _ _ _ (hh1.2 hc) H locs ls hP hS hl)
    | le => exact lv_if_le (tgt := ns.headD 0) hx hb hd (of_decide_eq_true ho) (fun hc => hK _ _ _ _ (hh1.1 hc) H locs ls hP hS hl) (fun hc => hK _ _ _ _ (hh1.2 hc) H locs ls hP hS hl)
  · rename_i cd off
    obtain ⟨y, r, rfl, hh1⟩ := pi1_some h
    obtain ⟨x, r, rfl, hh2⟩ := pi1_some hh1
    have hh2 := brc_some hh2
    obtain rfl : np = pc + 3 := hn rfl
    rw [Nat.add_sub_cancel_left] at hd
    cases cd with
    | eq => exact lv_icmp_eq (tgt := ns.headD 0) hx hb hd (of_decide_eq_true ho) (fun hc => hK _ _ _ _ (hh2.1 hc) H locs ls hP hS hl) (fun hc => hK _ _ _ _ (hh2.2 hc) H locs ls hP hS hl)
    | ne => exact lv_icmp_ne (tgt := ns.headD 0) hx hb hd (of_decide_eq_true ho) (fun hc => hK _ _ _ _ (hh2.1 hc) H locs ls hP hS hl) (fun hc => hK _ _ _ _ (hh2.2 hc) H locs ls hP hS hl)
    | lt => exact lv_icmp_lt (tgt := ns.headD 0) hx hb hd (of_decide_eq_true ho) (fun hc => hK _ _ _ _ (hh2.1 hc) H locs ls hP hS hl) (fun hc => hK _ _ _ _ (hh2.2 hc) H locs ls hP hS hl)
    | ge => exact lv_icmp_ge (tgt := ns.headD 0) hx hb hd (of_decide_eq_true ho) (fun hc => hK _ _ _ _ (hh2.1 hc) H locs ls hP hS hl) (fun hc => hK _ _ _ _ (hh2.2 hc) H locs ls hP hS hl)
    | gt => exact lv_icmp_gt (tgt := ns.headD 0) hx hb hd (of_decide_eq_true ho) (fun hc => hK _ _ _ _ (hh2.1 hc) H locs ls hP hS hl) (fun hc => hK _ _ _ _ (hh2.2 hc) H locs ls hP hS hl)
    | le => exact lv_icmp_le (tgt := ns.headD 0) hx hb hd (of_decide_eq_true ho) (fun hc => hK _ _ _ _ (hh2.1 hc) H locs ls hP hS hl) (fun hc => hK _ _ _ _ (hh2.2 hc) H locs ls hP hS hl)
  · obtain rfl : np = pc + 3 := hn rfl
    rw [Nat.add_sub_cancel_left] at hd
    exact lv_goto (tgt := ns.headD 0) hx hb hd (of_decide_eq_true ho) (hK _ _ _ _ h H locs ls hP hS hl)
  · rename_i dd lo hi os
    obtain ⟨x, r, rfl, hh1⟩ := pi1_some h
    have ho2 := Bool.and_eq_true_iff.mp ho
    have ho3 := Bool.and_eq_true_iff.mp ho2.1
    have e1 := of_decide_eq_true ho3.1
    have e2 := of_decide_eq_true ho3.2
    have e3 := of_decide_eq_true ho2.2
    have e4 : ns.tail.length = os.size := by
      have := congrArg List.length e3
      simpa using this.symm
    rcases tsw_some _ _ hh1 with ⟨i, t, h1, h2, h3⟩ | ⟨h1, h2⟩
    · have hi : i < ns.tail.length := (List.getElem?_eq_some_iff.mp h1).1
      have e5 : (os.toList.map (fun o => (pc : Int) + o))[i]? = some (t : Int) := by rw [e3, List.getElem?_map, h1]; rfl
      rw [List.getElem?_map] at e5
      cases e6 : os.toList[i]? with
      | none => rw [e6] at e5; cases e5
      | some off =>
        rw [e6] at e5
        have e7 : (pc : Int) + off = (t : Int) := Option.some.inj e5
        refine lv_tableIn (off := off) (tgt := t) hx hb hd (by omega) (by omega) ?_ e7 (hK _ _ _ _ h3 H locs ls hP hS hl)
        rw [show (x.toInt - lo).toNat = i by omega, ← Array.getElem?_toList, e6]
    · refine lv_tableOut (tgt := ns.headD 0) hx hb hd (by omega) e1 (hK _ _ _ _ h2 H locs ls hP hS hl)
  · split at h
    · rename_i v1 r
      obtain rfl : np = pc + 1 := hn rfl
      rw [Nat.add_sub_cancel_left] at hd
      exact lv_dup hx hb hd (cv_cat g v1) (hK _ _ _ _ h H locs ls hP hS hl)
    · cases h
  · split at h
    · rename_i v1 w1 r
      obtain rfl : np = pc + 1 := hn rfl
      rw [Nat.add_sub_cancel_left] at hd
      exact lv_dup2_11 hx hb hd (cv_cat g v1) (cv_cat g w1) (hK _ _ _ _ h H locs ls hP hS hl)
    · cases h
  · obtain rfl : np = pc + 3 := hn rfl
    rw [Nat.add_sub_cancel_left] at hd
    exact va_gets (C := RX1) (n := stn (ns.headD 0)) (d := "[I") (ref := RX1) hx hb (hst.1 _ hf.1).1 hS hown hf.2 (fun _ q => q) hd (hK _ _ _ _ h H locs ls hP hS hl)
  · rename_i idx
    obtain ⟨o, r, rfl, hh1⟩ := pr1_some h
    obtain ⟨fds, d, h1, h2, hh2⟩ := gf_some hh1
    obtain ⟨C, Tf, N, hc, hkN, hw, hlk⟩ := hf
    obtain rfl : np = pc + 3 := hn rfl
    rw [Nat.add_sub_cancel_left] at hd
    rcases hlk with hlk | ⟨host, hlk⟩
    · exact va_get (D := D) (T := Tf) (N := N) (C := C) hx hb hw (fun _ q => q) hown hKK hP o (ww_get h1) hc _ hkN hlk (fun _ q => q) (wfd_get h2) hd (hK _ _ _ _ hh2 H locs ls hP hS hl)
    · exact va_getN (D := D) (T := Tf) (N := N) (C := C) hx hb hw (fun _ q => q) hown hKK hP o (ww_get h1) hc _ hkN hlk (fun _ q => q) (wfd_get h2) hd (hK _ _ _ _ hh2 H locs ls hP hS hl)
  · rename_i idx
    obtain ⟨x, r, rfl, hh1⟩ := pi1_some h
    obtain ⟨o, r, rfl, hh2⟩ := pr1_some hh1
    obtain ⟨fds, h1, h2, h3, hh3⟩ := pf_some hh2
    obtain ⟨C, Tf, N, ⟨hc, hkN, hw, hlk⟩, hfin, hpd⟩ := hf
    obtain ⟨ty0, hty, hnm⟩ := vw_known _ _ _ _ hc
    have hql : ns.getD 1 0 < (fds.mapIdx (wfd g S o)).length := by rw [List.length_mapIdx]; exact (List.getElem?_eq_some_iff.mp h2).1
    have hnv : narrow (if ns.getD 2 0 = 0 then FieldType.int else FieldType.boolean) (.int x) = .int x := by
      by_cases e : ns.getD 2 0 = 0
      · rw [if_pos e]; exact vp_nar_int x
      · rw [if_neg e]; exact narrow_b01 (h3.resolve_left e)
    have hfv : fits (if ns.getD 2 0 = 0 then FieldType.int else FieldType.boolean) (.int x) = true := by
      by_cases e : ns.getD 2 0 = 0
      · rw [if_pos e]; rfl
      · rw [if_neg e]; exact fits_b01 (h3.resolve_left e)
    obtain rfl : np = pc + 3 := hn rfl
    rw [Nat.add_sub_cancel_left] at hd
    rcases hlk with hlk | ⟨host, hlk⟩
    · exact va_put (D := D) (T := Tf) (N := N) (C := C) hx hb hw (fun _ q => q) ty0 hty hnm hown hKK hP (hDD S) hS o (ww_get h1) hc _ hkN hlk (fun _ q => q) hfin hpd hnv hfv hql hd (fun H1 locs1 hP1 _ hS1 => hK _ _ _ _ hh3 H1 locs1 ls (by rw [← ww_setf h1 h2]; exact hP1) hS1 hl)
    · exact va_putN (D := D) (T := Tf) (N := N) (C := C) hx hb hw (fun _ q => q) ty0 hty hnm hown hKK hP (hDD S) hS o (ww_get h1) hc _ hkN hlk (fun _ q => q) hfin hpd hnv hfv hql hd (fun H1 locs1 hP1 _ hS1 => hK _ _ _ _ hh3 H1 locs1 ls (by rw [← ww_setf h1 h2]; exact hP1) hS1 hl)
  · obtain ⟨i, r, rfl, hh1⟩ := pi1_some h
    obtain ⟨o, r, rfl, hh2⟩ := pr1_some hh1
    obtain rfl : np = pc + 1 := hn rfl
    rw [Nat.add_sub_cancel_left] at hd
    rcases al_some hh2 with ⟨n, h1, h2, h3⟩ | ⟨h1, -, h2, h3⟩ | ⟨h1, -, h2, h3⟩
    · exact va_iald (D := D) hx hb hKK hP o 0 (ww_get h1) rfl h2 hd (hK _ _ _ _ h3 H locs ls hP hS hl)
    · subst h1
      exact va_ti hx hb (hst.1 40 (Or.inl rfl)).2 hS h2 rfl hd (hK _ _ _ _ h3 H locs ls hP hS hl)
    · subst h1
      exact va_ti hx hb (hst.1 41 (Or.inr rfl)).2 hS h2 rfl hd (hK _ _ _ _ h3 H locs ls hP hS hl)
  · obtain ⟨i, r, rfl, hh1⟩ := pi1_some h
    obtain ⟨o, r, rfl, hh2⟩ := pr1_some hh1
    obtain rfl : np = pc + 1 := hn rfl
    rw [Nat.add_sub_cancel_left] at hd
    rcases al_some hh2 with ⟨n, h1, h2, h3⟩ | ⟨-, h1, -, -⟩ | ⟨-, h1, -, -⟩
    · exact va_zald (D := D) hx hb hKK hP o 1 (ww_get h1) rfl h2 hd (hK _ _ _ _ h3 H locs ls hP hS hl)
    · cases h1
    · cases h1
  · obtain ⟨x, r, rfl, hh1⟩ := pi1_some h
    obtain ⟨i, r, rfl, hh2⟩ := pi1_some hh1
    obtain ⟨o, r, rfl, hh3⟩ := pr1_some hh2
    obtain ⟨n, h1, h2, hh4⟩ := ast_some hh3
    obtain rfl : np = pc + 1 := hn rfl
    rw [Nat.add_sub_cancel_left] at hd
    exact va_iast (D := D) hx hb hKK hP (hDD S) hS o 0 (ww_get h1) rfl h2 hd (fun H1 locs1 hP1 _ hS1 => hK _ _ _ _ hh4 H1 locs1 ls (by rw [← ww_set h1 (by unfold wce; rw [up2_eq])]; exact hP1) hS1 hl)
  · obtain ⟨x, r, rfl, hh1⟩ := pi1_some h
    obtain ⟨i, r, rfl, hh2⟩ := pi1_some hh1
    obtain ⟨o, r, rfl, hh3⟩ := pr1_some hh2
    obtain ⟨n, h1, h2, hh4⟩ := ast_some hh3
    obtain rfl : np = pc + 1 := hn rfl
    rw [Nat.add_sub_cancel_left] at hd
    exact va_zast (D := D) hx hb hKK hP (hDD S) hS o 1 (ww_get h1) rfl h2 hd (fun H1 locs1 hP1 _ hS1 => hK _ _ _ _ hh4 H1 locs1 ls (by rw [← ww_set h1 (by unfold wce; rw [up2_eq])]; exact hP1) hS1 hl)
  · rename_i idx
    obtain ⟨n, rk, ci, sem, h1, h2, h3, h6, hh1⟩ := cal_some h
    obtain ⟨o, h4, h5⟩ := crk_some hh1
    obtain rfl : np = pc + 3 := hn rfl
    rw [Nat.add_sub_cancel_left] at hd
    have e1 : st = (st.take n).reverse.reverse ++ st.drop n := by rw [List.reverse_reverse, List.take_append_drop]
    rw [e1]
    refine hcs _ _ h1 pc lv (st.take n).reverse (st.drop n) S o ?_ ?_ hd h6 h4 ?_ H locs ls hP hS hl
    · rw [List.length_reverse, List.length_take]; exact Nat.min_eq_left h2
    · rw [List.length_drop]; exact h3
    · cases e2 : o.2 with
      | none => rw [e2] at h5; exact h5
      | some v => rw [e2] at h5; exact hK _ _ _ _ h5
  · rename_i idx
    obtain ⟨n, rk, ci, sem, h1, h2, h3, h6, hh1⟩ := cal_some h
    obtain ⟨o, h4, h5⟩ := crk_some hh1
    obtain rfl : np = pc + 3 := hn rfl
    rw [Nat.add_sub_cancel_left] at hd
    have e1 : st = (st.take n).reverse.reverse ++ st.drop n := by rw [List.reverse_reverse, List.take_append_drop]
    rw [e1]
    refine hcs _ _ h1 pc lv (st.take n).reverse (st.drop n) S o ?_ ?_ hd h6 h4 ?_ H locs ls hP hS hl
    · rw [List.length_reverse, List.length_take]; exact Nat.min_eq_left h2
    · rw [List.length_drop]; exact h3
    · cases e2 : o.2 with
      | none => rw [e2] at h5; exact h5
      | some v => rw [e2] at h5; exact hK _ _ _ _ h5
  · unfold reti at h
    split at h
    · rename_i x
      have hz : (ns.headD 0 = 0 ∨ x = 0 ∨ x = 1) ∧ R0 = (S, some (some (.inl x))) := by
        cases hb0 : Nat.beq (ns.headD 0) 0 with
        | true => rw [hb0] at h; exact ⟨Or.inl (Nat.eq_of_beq_eq_true hb0), (Option.some.inj h).symm⟩
        | false =>
          rw [hb0] at h
          dsimp only [cond_false] at h
          split at h
          · exact ⟨Or.inr (by assumption), (Option.some.inj h).symm⟩
          · cases h
      have ho2 := Bool.and_eq_true_iff.mp ho
      have hzb : ns.headD 0 = zb := of_decide_eq_true ho2.1
      obtain rfl : np = pc + 1 := hn rfl
      rw [Nat.add_sub_cancel_left] at hd
      exact hrt pc S (some (.inl x)) H locs ls hz.2 hP hS ⟨hd, of_decide_eq_true ho2.2, by rw [← hzb]; exact hz.1⟩
    · cases h
  · unfold retr at h
    split at h
    · rename_i x
      obtain rfl : np = pc + 1 := hn rfl
      rw [Nat.add_sub_cancel_left] at hd
      exact hrt pc S (some (.inr x)) H locs ls (Option.some.inj h).symm hP hS ⟨hd, of_decide_eq_true ho⟩
    · cases h
  · unfold retv at h
    split at h
    · have hn1 : np = pc + 1 := hn rfl
      subst hn1
      rw [Nat.add_sub_cancel_left] at hd
      exact hrt pc S none H locs ls (Option.some.inj h).symm hP hS ⟨hd, of_decide_eq_true ho⟩
    · cases h
  · cases h
theorem xa_brn {p : Program} {l : Launch} {e : Env} {R : Room} {s : State} {m : MethodId} {args : Array Value} {below : List Frame} {meth : Method} {c : Code} {cells slots : Nat} {Q : State → Prop} {D : va_G} {T : List WE} {g : Nat → Nat} {cI cZ : ClassId} {A : Nat → Prop} {nL : Nat} {cc : ByteArray} {own : String} {zb : Nat} {cs : List CT} {R0 : RS} (C0 : xC p s m c D T g cI cZ A nL cc own) (hcs : ∀ (j : Nat) (q : CT), cs[j]? = some q → xCF p l e R s m args below meth c cells slots Q D T g cI cZ A nL cc R0 q) (hrt : xRt p l e R s m args below meth c cells slots Q D T g cI cZ A nL cc zb R0)
    {L : List CE} (hL : ∀ q ∈ L, rok cc nL zb q = true) (hF : ∀ q ∈ L, xF s args own q) {ss : List Nat} {K : KT} (hK : ∀ pc lv st S, K pc lv st S = some R0 → xG p l e R s m args below meth c cells slots Q D T g cI cZ A nL pc lv st S) :
    ∀ (n : Nat) (suf : List CE) (_ : ∀ z ∈ suf, z ∈ L) (pc : Nat) (lv : LV) (st : List AV) (S : XS), brn T cs L ss K n suf pc lv st S = some R0 → xG p l e R s m args below meth c cells slots Q D T g cI cZ A nL pc lv st S := by
  intro n
  induction n with
  | zero => intro suf hs pc lv st S h; cases h
  | succ n ih =>
    intro suf hs pc lv st S h
    unfold brn at h
    split at h
    · cases h
    · rename_i pc' i np ns v t e
      obtain ⟨h1, h2, h3⟩ := nxt_mem hs e
      cases h2
      refine xa_stp C0 hcs hrt (hL _ h1) (hF _ h1) ?_ h
      intro pc lv st S h
      cases e2 : mem1 ss pc with
      | true => rw [e2] at h; exact hK _ _ _ _ h
      | false => rw [e2] at h; exact ih t h3 _ _ _ _ h
theorem xa_dsp {p : Program} {l : Launch} {e : Env} {R : Room} {s : State} {m : MethodId} {args : Array Value} {below : List Frame} {meth : Method} {c : Code} {cells slots : Nat} {Q : State → Prop} {D : va_G} {T : List WE} {g : Nat → Nat} {cI cZ : ClassId} {A : Nat → Prop} {nL : Nat} {R0 : RS} : ∀ (ds : List (Nat × List Nat × BT)), (∀ q ∈ ds, ∀ lv st S, q.2.2 lv st S = some R0 → xG p l e R s m args below meth c cells slots Q D T g cI cZ A nL q.1 lv st S) → ∀ pc lv st S, dsp ds pc lv st S = some R0 → xG p l e R s m args below meth c cells slots Q D T g cI cZ A nL pc lv st S := by
  intro ds
  induction ds with
  | nil => intro _ pc lv st S h; cases h
  | cons q t ih =>
    obtain ⟨q, live, f⟩ := q
    intro hds pc lv st S h
    unfold dsp at h
    cases e : Nat.beq q pc with
    | true =>
      rw [e] at h
      cases Nat.eq_of_beq_eq_true e
      dsimp only [cond_true] at h
      split at h
      · rename_i lv' e1
        intro H locs ls hP hS hl
        exact hds _ List.mem_cons_self lv' st S h H locs ls hP hS (pk_has hl live lv' e1)
      · cases h
    | false =>
      rw [e] at h
      exact ih (fun z hz => hds z (List.mem_cons_of_mem _ hz)) pc lv st S h
end
section
/-! Contracts out of the interpreter. -/
def isNest (w : Jvm.Cond) : Bool := match w with
  | .fieldLinkNest _ _ _ _ _ _ => true
  | .methodLinkNest _ _ _ _ => true
  | .declares _ => true
  | .castable _ _ => true
  | _ => false
theorem nest_warm {w : Jvm.Cond} {s U : State} (hn : isNest w = true) (hW : s.WarmedH U.vm) (h : va_Nw w s) : va_Nw w U := by
  unfold isNest at hn
  split at hn
  · exact h.warmF hW
  · exact h.warmM hW
  · exact h.warmD hW
  · exact h.warmC hW
  · cases hn
theorem nest_tabs {w : Jvm.Cond} (hn : isNest w = true) : w.onTables = true := by
  unfold isNest at hn
  split at hn
  · rfl
  · rfl
  · rfl
  · rfl
  · cases hn
def nwl : List Jvm.Cond := [.fieldLinkNest "StackMarks" 100 "StackMarks$Items" "x" "[I" "StackMarks", .fieldLinkNest "StackMarks" 67 "StackMarks$Items" "low" "[I" "StackMarks", .fieldLinkNest "StackMarks" 70 "StackMarks$Items" "high" "[I" "StackMarks", .fieldLinkNest "StackMarks" 188 "StackMarks$Items" "voice" "[I" "StackMarks", .fieldLinkNest "StackMarks" 191 "StackMarks$Items" "stem" "[I" "StackMarks", .fieldLinkNest "StackMarks" 194 "StackMarks$Items" "rest" "[I" "StackMarks", .fieldLinkNest "StackMarks" 200 "StackMarks$Items" "count" "I" "StackMarks", .fieldLinkNest "StackMarks" 181 "StackMarks$Marks" "item" "[I" "StackMarks", .fieldLinkNest "StackMarks" 224 "StackMarks$Marks" "kind" "[I" "StackMarks", .fieldLinkNest "StackMarks" 230 "StackMarks$Marks" "width" "[I" "StackMarks", .fieldLinkNest "StackMarks" 302 "StackMarks$Marks" "height" "[I" "StackMarks", .fieldLinkNest "StackMarks" 96 "StackMarks$Marks" "gone" "[Z" "StackMarks", .fieldLinkNest "StackMarks" 127 "StackMarks$Marks" "left" "[I" "StackMarks", .fieldLinkNest "StackMarks" 134 "StackMarks$Marks" "side" "[I" "StackMarks", .fieldLinkNest "StackMarks" 137 "StackMarks$Marks" "inner" "[I" "StackMarks", .fieldLinkNest "StackMarks" 140 "StackMarks$Marks" "outer" "[I" "StackMarks", .fieldLinkNest "StackMarks" 143 "StackMarks$Marks" "inRow" "[Z" "StackMarks", .fieldLinkNest "StackMarks" 146 "StackMarks$Marks" "turn" "[I" "StackMarks", .fieldLinkNest "StackMarks" 86 "StackMarks$Marks" "count" "I" "StackMarks", .fieldLinkNest "StackMarks" 250 "StackMarks$Slurs" "from" "[I" "StackMarks", .fieldLinkNest "StackMarks" 253 "StackMarks$Slurs" "to" "[I" "StackMarks", .fieldLinkNest "StackMarks" 249 "StackMarks$Slurs" "side" "[I" "StackMarks", .fieldLinkNest "StackMarks" 256 "StackMarks$Slurs" "thickness" "[I" "StackMarks", .fieldLinkNest "StackMarks" 150 "StackMarks$Slurs" "inner" "[I" "StackMarks", .fieldLinkNest "StackMarks" 151 "StackMarks$Slurs" "outer" "[I" "StackMarks", .fieldLinkNest "StackMarks" 106 "StackMarks$Slurs" "count" "I" "StackMarks", .fieldLinkNest "StackMarks" 161 "StackMarks$Outline" "rowInner" "[I" "StackMarks", .fieldLinkNest "StackMarks" 219 "StackMarks$Outline" "outermost" "I" "StackMarks", .methodLinkNest "StackMarks" 9 ⟨"StackMarks$Items", "<init>", "()V"⟩ "StackMarks", .methodLinkNest "StackMarks" 18 ⟨"StackMarks$Kinds", "<init>", "()V"⟩ "StackMarks", .methodLinkNest "StackMarks" 25 ⟨"StackMarks$Marks", "<init>", "()V"⟩ "StackMarks", .methodLinkNest "StackMarks" 32 ⟨"StackMarks$Slurs", "<init>", "()V"⟩ "StackMarks", .methodLinkNest "StackMarks" 39 ⟨"StackMarks$Outline", "<init>", "()V"⟩ "StackMarks", .methodLinkNest "StackMarks" 214 ⟨"StackMarks$Items", "isAt", "(I)Z"⟩ "StackMarks", .methodLinkNest "StackMarks" 217 ⟨"StackMarks$Items", "add", "(IIIIII)I"⟩ "StackMarks", .methodLinkNest "StackMarks" 64 ⟨"StackMarks$Items", "has", "(I)Z"⟩ "StackMarks", .methodLinkNest "StackMarks" 77 ⟨"StackMarks$Kinds", "has", "(I)Z"⟩ "StackMarks", .methodLinkNest "StackMarks" 78 ⟨"StackMarks$Kinds", "takes", "(II)Z"⟩ "StackMarks", .methodLinkNest "StackMarks" 82 ⟨"StackMarks$Kinds", "change", "(III)I"⟩ "StackMarks", .methodLinkNest "StackMarks" 91 ⟨"StackMarks$Marks", "add", "(IIII)I"⟩ "StackMarks", .methodLinkNest "StackMarks" 95 ⟨"StackMarks$Marks", "has", "(I)Z"⟩ "StackMarks", .methodLinkNest "StackMarks" 107 ⟨"StackMarks$Slurs", "add", "(IIII)I"⟩ "StackMarks", .methodLinkNest "StackMarks" 108 ⟨"StackMarks$Outline", "clear", "()V"⟩ "StackMarks", .methodLinkNest "StackMarks" 246 ⟨"StackMarks$Outline", "cover", "(III)V"⟩ "StackMarks", .methodLinkNest "StackMarks" 157 ⟨"StackMarks$Outline", "greatest", "(II)I"⟩ "StackMarks", .methodLinkNest "StackMarks" 259 ⟨"StackMarks$Outline", "reachOut", "(I)V"⟩ "StackMarks", .methodLinkNest "StackMarks" 262 ⟨"StackMarks$Items", "haveBothVoices", "()Z"⟩ "StackMarks", .methodLinkNest "StackMarks" 227 ⟨"StackMarks$Kinds", "liesFromX", "(I)Z"⟩ "StackMarks", .methodLinkNest "StackMarks" 284 ⟨"StackMarks$Kinds", "get", "(II)I"⟩ "StackMarks", .methodLinkNest "StackMarks" 282 ⟨"StackMarks$Kinds", "rank", "(I)I"⟩ "StackMarks", .methodLinkNest "StackMarks" 290 ⟨"StackMarks$Kinds", "isInRow", "(I)Z"⟩ "StackMarks", .methodLinkNest "StackMarks" 130 ⟨"StackMarks$Marks", "behind", "(I)I"⟩ "StackMarks", .methodLinkNest "StackMarks" 314 ⟨"StackMarks$Marks", "isOf", "(III)Z"⟩ "StackMarks", .methodLinkNest "StackMarks" 171 ⟨"StackMarks$Marks", "shareX", "(II)Z"⟩ "StackMarks", .methodLinkNest "StackMarks" 221 ⟨"StackMarks$Items", "next", "(I)I"⟩ "StackMarks", .methodLinkNest "StackMarks" 177 ⟨"StackMarks$Items", "greatestX", "()I"⟩ "StackMarks", .methodLinkNest "StackMarks" 184 ⟨"StackMarks$Items", "moveBehind", "(II)V"⟩ "StackMarks", .methodLinkNest "StackMarks" 197 ⟨"StackMarks$Marks", "countAt", "(I)I"⟩ "StackMarks", .methodLinkNest "StackMarks" 149 ⟨"StackMarks$Slurs", "has", "(I)Z"⟩ "StackMarks", .methodLinkNest "StackMarks" 164 ⟨"StackMarks$Marks", "isOn", "(III)Z"⟩ "StackMarks", .methodLinkNest "StackMarks" 167 ⟨"StackMarks$Marks", "countNearer", "(I)I"⟩ "StackMarks", .methodLinkNest "StackMarks" 201 ⟨"StackMarks$Marks", "countThere", "()I"⟩ "StackMarks", .declares ⟨"java/lang/RuntimeException", "<init>", "(Ljava/lang/String;)V"⟩, .declares ⟨"java/lang/Exception", "<init>", "(Ljava/lang/String;)V"⟩, .declares ⟨"java/lang/Throwable", "<init>", "(Ljava/lang/String;)V"⟩, .castable "java/lang/IllegalStateException" "java/lang/IllegalStateException"]
theorem nwl_nest : ∀ w ∈ nwl, isNest w = true := by decide +kernel
theorem nwl_in : ∀ w ∈ nwl, w ∈ lw_tbl := by decide +kernel
def xNw (U : State) : Prop := ∀ w ∈ nwl, va_Nw w U
theorem xNw.warm {s U : State} (hW : s.WarmedH U.vm) (h : xNw s) : xNw U := fun w hw => nest_warm (nwl_nest w hw) hW (h w hw)
theorem xNw.same {s U : State} (hv : s.vm = U.vm) (h : xNw s) : xNw U := fun w hw => (h w hw).same (nest_tabs (nwl_nest w hw)) hv
def xPre (D : va_G) (T : List WE) (g : Nat → Nat) (cI cZ : ClassId) (A : Nat → Prop) (S : XS) (U : State) : Prop := va_P D vwCl (ww T g cI cZ S) U.heap ∧ va_K D vwCl [(cI, .int), (cZ, .boolean)] U ∧ xNw U ∧ xSt g A U U.heap
def xQ (D : va_G) (T : List WE) (g : Nat → Nat) (cI cZ : ClassId) (A : Nat → Prop) (R0 : RS) : Array Value → State → Outcome → State → Prop := fun _ st oc t => (∃ v : Option AV, R0.2 = some v ∧ oc = .returned (v.map (cv g)) ∧ va_P D vwCl (ww T g cI cZ R0.1) t.heap) ∧ va_F A st t
/-- a method's contract -/
def xMet (l : Launch) (D : va_G) (T : List WE) (g : Nat → Nat) (cI cZ : ClassId) (A : Nat → Prop) (y : MethodName) (ws : List Jvm.Cond) (rm : Room) (n : Nat) (sem : MT) : Prop := ∀ (As : List AV) (S : XS) (R0 : RS), As.length = n → sem As S = some R0 → Met l y ws rm (va_Pc (As.map (cv g)) (xPre D T g cI cZ A S)) (xQ D T g cI cZ A R0) 0 0 A
theorem xPre_blind {D : va_G} {T : List WE} {g : Nat → Nat} {cI cZ : ClassId} {A : Nat → Prop} {S : XS} {av : List Value} : FrameBlind (va_Pc av (xPre D T g cI cZ A S)) := fun a U g mk q => by
  obtain ⟨q0, qP, qK, qN, qS⟩ := q
  exact ⟨q0, qP, va_K.moved (u := U) (U := U.calling g mk a) (Vm.Alike.refl U.vm) qK, xNw.same (s := U) (U := U.calling g mk a) rfl qN, fun o ho => ⟨va_Z.moved (u := U) (U := U.calling g mk a) (Vm.Alike.refl U.vm) (qS.1 o ho).1, va_T.moved (u := U) (U := U.calling g mk a) (Vm.Alike.refl U.vm) (qS.1 o ho).2⟩, ⟨vx_Zq.moved (u := U) (U := U.calling g mk a) (Vm.Alike.refl U.vm) qS.2.1.1, vx_Zq.moved (u := U) (U := U.calling g mk a) (Vm.Alike.refl U.vm) qS.2.1.2⟩, vk_R.same (u := U) (U := U.calling g mk a) rfl qS.2.2⟩
section XCF
variable {p : Program} {l : Launch} {e : Env} {R : Room} {s : State} {m : MethodId} {args : Array Value} {below : List Frame} {meth : Method} {c : Code} {cells slots : Nat} {Q : State → Prop} {D : va_G} {T : List WE} {g : Nat → Nat} {cI cZ : ClassId} {A : Nat → Prop} {nL : Nat} {cc : ByteArray} {own : String} {R0 : RS} {Ts ws ws' : List Jvm.Cond} {y : MethodName} {bytes : ByteArray} {maxL idx n rk ci : Nat} {ret : Option FieldType} {rm : Room} {sem : MT} {C : String} {Tf : u_T} {N : Nat} {host : String}
theorem map_cat (g : Nat → Nat) (r : List AV) : ((r.map (cv g)).map fun v => v.category).sum = r.length := by
  induction r with
  | nil => rfl
  | cons v t ih =>
    simp only [List.map_cons, List.sum_cons, List.length_cons, cv_cat]
    omega
/-- behind a call: on with what the callee left -/
theorem xcf_on {pc : Nat} {lv : LV} {rest : List AV} {o : RS} {H : Heap} {locs : List Loc} {ls : Array Slot} {g0 : JFrame} {a0 : Array Value} (hg0 : g0 = F0 m pc ls g0.stack)
    (hr : va_Run p l e R s m args below meth c H locs cells slots 0 0 g0 (rest.map (cv g)) (xQ D T g cI cZ A o a0) A)
    (hk : match o.2 with
      | none => R0 = (o.1, none)
      | some v => xG p l e R s m args below meth c cells slots Q D T g cI cZ A nL (pc + 3) lv (v.toList ++ rest) o.1)
    (hS : va_S A s.heap H locs) (hl : lv_has ls nL (lvc g lv)) : W p l e R s m args below meth c H locs cells slots Q g0 := by
  intro T0 hT0 X
  obtain ⟨v, st₀, t, T', L, h0, X', hL, e1, e2, ⟨⟨v0, hv0, hv1, hP1⟩, hz, hkk⟩, st⟩ := hr T0 hT0 X
  cases hv1
  rw [hv0] at hk
  rw [h0] at hz hkk
  have hS' : va_S A s.heap T'.heap (locs ++ L) := by
    refine ⟨Nat.le_trans hS.1 (by rw [e1]; exact hz), fun q h1 h2 => ?_, fun q hq => ?_⟩
    · rw [e1, hkk q (Nat.lt_of_lt_of_le h1 hS.1) h2]
      exact hS.2.1 q h1 h2
    · rcases List.mem_append.mp hq with h | h
      · exact hS.2.2 q h
      · exact hL q h
  have K := hk T'.heap (locs ++ L) ls (by rw [e1]; exact hP1) hS' hl
  have e3 : (v0.toList ++ rest).map (cv g) = (v0.map (cv g)).toList ++ rest.map (cv g) := by
    cases v0 <;> rfl
  rw [e3] at K
  obtain ⟨t2, a1, b1⟩ := K T' rfl X'
  refine ⟨t2, st t2 ?_, b1⟩
  rw [hg0]
  exact a1
theorem xcf_V1 (C0 : xC p s m c D T g cI cZ A nL cc own) (hts : ∀ w ∈ Ts, w.before args s = true) (hN : xNw s) {As rest : List AV} {S : XS} {o : RS} (hM : Met l y ws rm (va_Pc (As.map (cv g)) (xPre D T g cI cZ A S)) (xQ D T g cI cZ A o) 0 0 A) (hG : GoodIn Ts (wsV own idx C y ws)) (hw : ws = Jvm.Cond.code y bytes maxL ret :: ws') (hrm : rm.cells = 0 ∧ rm.slots = 0) (hc : vwCl[ci]? = some (C, Tf, N))
    (hd : y.cls = C ∧ y.cls ≠ "java/lang/invoke/MethodHandle" ∧ y.cls ≠ "java/lang/invoke/VarHandle" ∧ (parseMethodDescriptor y.desc).map (fun d => d.parameters.length) = some n) (hR : rm.frames + 1 ≤ R.frames ∧ 8 + (maxL + 11) + rm.locals ≤ R.locals) (hf : cells ≤ R.cells ∧ slots ≤ R.slots) :
    ∀ (pc : Nat) (lv : LV), As.length = n + 1 → rest.length ≤ 8 → decode cc pc = .ok (.invokevirtual idx, 3) → rcv T ci As = true → (match o.2 with
      | none => R0 = (o.1, none)
      | some v => xG p l e R s m args below meth c cells slots Q D T g cI cZ A nL (pc + 3) lv (v.toList ++ rest) o.1) → xG p l e R s m args below meth c cells slots Q D T g cI cZ A nL pc lv (As.reverse ++ rest) S := by
  obtain ⟨hx, hb, hml, hown, hKK, hDD, hst⟩ := C0
  intro pc lv hlen hrest hdg hrc hk H locs ls hP hS hl
  obtain ⟨k0, fds, t, rfl, hT⟩ := rcv_some hrc
  have e0 : ((Sum.inr k0 :: t).reverse ++ rest).map (cv g) = (t.map (cv g)).reverse ++ Value.ref (g k0) :: rest.map (cv g) := by
    simp [cv]
  rw [e0]
  refine xcf_on (o := o) (a0 := _) rfl (va_runV (As := t.map (cv g)) (rest := rest.map (cv g)) ⟨hx, hb, hml, hown, hts⟩ hM (cwV n hts hG hw hrm.1 hrm.2 hd hR) ⟨xPre_blind, va_recv hKK hP hc (ww_get hT), fun U hU hW => ⟨rfl, by rw [hU]; exact hP, va_K.moved hW.alike hKK, hN.warm hW, hst.on hS hU hW⟩⟩ rfl (by rw [List.length_map]; exact Nat.succ.inj hlen) hl.1 rfl (lv_room (by rw [map_cat]; exact hrest)) hdg hf) hk hS hl
theorem xcf_V (C0 : xC p s m c D T g cI cZ A nL cc own) (hts : ∀ w ∈ Ts, w.before args s = true) (hN : xNw s) (hM : xMet l D T g cI cZ A y ws rm (n + 1) sem) (hG : GoodIn Ts (wsV own idx C y ws)) (hw : ws = Jvm.Cond.code y bytes maxL ret :: ws') (hrm : rm.cells = 0 ∧ rm.slots = 0) (hc : vwCl[ci]? = some (C, Tf, N))
    (hd : y.cls = C ∧ y.cls ≠ "java/lang/invoke/MethodHandle" ∧ y.cls ≠ "java/lang/invoke/VarHandle" ∧ (parseMethodDescriptor y.desc).map (fun d => d.parameters.length) = some n) (hR : rm.frames + 1 ≤ R.frames ∧ 8 + (maxL + 11) + rm.locals ≤ R.locals) (hf : cells ≤ R.cells ∧ slots ≤ R.slots) :
    xCF p l e R s m args below meth c cells slots Q D T g cI cZ A nL cc R0 (false, idx, n + 1, rk, ci, sem) := by
  intro pc lv As rest S o hlen hrest hdg hrc hsem hk
  exact xcf_V1 C0 hts hN (hM As S o hlen hsem) hG hw hrm hc hd hR hf pc lv hlen hrest hdg (hrc.resolve_left Bool.false_ne_true) hk
theorem xcf_VN (C0 : xC p s m c D T g cI cZ A nL cc own) (hts : ∀ w ∈ Ts, w.before args s = true) (hN : xNw s) (hM : xMet l D T g cI cZ A y ws rm (n + 1) sem) (hG : GoodIn Ts ws) (hl1 : Jvm.Cond.methodLinkNest own idx y host ∈ nwl) (hi : Jvm.Cond.initialized y.cls ∈ Ts) (him : Jvm.Cond.instanceMethod y ∈ Ts) (hsl : Jvm.Cond.selects C y y ∈ Ts) (hw : ws = Jvm.Cond.code y bytes maxL ret :: ws') (hrm : rm.cells = 0 ∧ rm.slots = 0) (hc : vwCl[ci]? = some (C, Tf, N))
    (hd : y.cls ≠ "java/lang/invoke/MethodHandle" ∧ y.cls ≠ "java/lang/invoke/VarHandle" ∧ (parseMethodDescriptor y.desc).map (fun d => d.parameters.length) = some n) (hR : rm.frames + 1 ≤ R.frames ∧ 8 + (maxL + 11) + rm.locals ≤ R.locals) (hf : cells ≤ R.cells ∧ slots ≤ R.slots) :
    xCF p l e R s m args below meth c cells slots Q D T g cI cZ A nL cc R0 (false, idx, n + 1, rk, ci, sem) := by
  obtain ⟨hx, hb, hml, hown, hKK, hDD, hst⟩ := C0
  intro pc lv As rest S o hlen hrest hdg hrc hsem hk H locs ls hP hS hl
  obtain ⟨k0, fds, t, rfl, hT⟩ := rcv_some (hrc.resolve_left Bool.false_ne_true)
  have e0 : ((Sum.inr k0 :: t).reverse ++ rest).map (cv g) = (t.map (cv g)).reverse ++ Value.ref (g k0) :: rest.map (cv g) := by
    simp [cv]
  rw [e0]
  refine xcf_on (o := o) (a0 := _) rfl (va_runVN (As := t.map (cv g)) (rest := rest.map (cv g)) (C := C) ⟨hx, hb, hml, hown, hts⟩ (hM _ S o hlen hsem) ⟨va_cnB n hts hG hw hrm.1 hrm.2 (hN _ hl1) (hts _ hi) hd hR, hts _ him, hts _ hsl⟩ ⟨xPre_blind, va_recv hKK hP hc (ww_get hT), fun U hU hW => ⟨rfl, by rw [hU]; exact hP, va_K.moved hW.alike hKK, hN.warm hW, hst.on hS hU hW⟩⟩ rfl (by rw [List.length_map]; exact Nat.succ.inj hlen) hl.1 rfl (lv_room (by rw [map_cat]; exact hrest)) hdg hf) hk hS hl
theorem xcf_S (C0 : xC p s m c D T g cI cZ A nL cc own) (hts : ∀ w ∈ Ts, w.before args s = true) (hN : xNw s) (hM : xMet l D T g cI cZ A y ws rm n sem) (hG : GoodIn Ts (va_wsS own idx y ws)) (hw : ws = Jvm.Cond.code y bytes maxL ret :: ws') (hrm : rm.cells = 0 ∧ rm.slots = 0)
    (hd : y.cls ≠ "java/lang/invoke/MethodHandle" ∧ y.cls ≠ "java/lang/invoke/VarHandle" ∧ (parseMethodDescriptor y.desc).map (fun d => d.parameters.length) = some n) (hR : rm.frames + 1 ≤ R.frames ∧ 8 + (maxL + 11) + rm.locals ≤ R.locals) (hf : cells ≤ R.cells ∧ slots ≤ R.slots) :
    xCF p l e R s m args below meth c cells slots Q D T g cI cZ A nL cc R0 (true, idx, n, rk, ci, sem) := by
  obtain ⟨hx, hb, hml, hown, hKK, hDD, hst⟩ := C0
  intro pc lv As rest S o hlen hrest hdg hrc hsem hk H locs ls hP hS hl
  have e0 : (As.reverse ++ rest).map (cv g) = (As.map (cv g)).reverse ++ rest.map (cv g) := by
    simp
  rw [e0]
  refine xcf_on (o := o) (a0 := _) rfl (va_runS (As := As.map (cv g)) (rest := rest.map (cv g)) ⟨hx, hb, hml, hown, hts⟩ (hM _ S o hlen hsem) (va_cwS n hts hG hw hrm.1 hrm.2 hd hR) ⟨xPre_blind, fun U hU hW => ⟨rfl, by rw [hU]; exact hP, va_K.moved hW.alike hKK, hN.warm hW, hst.on hS hU hW⟩⟩ rfl (by rw [List.length_map]; exact hlen) hl.1 rfl (lv_room (by rw [map_cat]; exact hrest)) hdg hf) hk hS hl
/-- Math.max -/
def sem_max : MT := fun As S => match As with
  | [.inl x, .inl y] => some (S, some (some (.inl (if x < y then y else x))))
  | _ => none
theorem xcf_max (C0 : xC p s m c D T g cI cZ A nL cc own) (hlink : (Jvm.Cond.methodLink own idx Lib.Math.max.name).before args s = true) (hstat : (Jvm.Cond.static Lib.Math.max.name).before args s = true) (hini : (Jvm.Cond.initialized "java/lang/Math").before args s = true) (hcode : (Jvm.Cond.code Lib.Math.max.name Lib.Math.max.code 2 (some .int)).before args s = true) (hR : 1 ≤ R.frames ∧ 21 ≤ R.locals) (hf : cells ≤ R.cells ∧ slots ≤ R.slots) :
    xCF p l e R s m args below meth c cells slots Q D T g cI cZ A nL cc R0 (true, idx, 2, 1, ci, sem_max) := by
  obtain ⟨hx, hb, hml, hown, hKK, hDD, hst⟩ := C0
  intro pc lv As rest S o hlen hrest hdg hrc hsem hk H locs ls hP hS hl
  have hsem : sem_max As S = some o := hsem
  unfold sem_max at hsem
  split at hsem
  · rename_i x y
    cases Option.some.inj hsem
    exact va_mmax hx hb (by rw [hml]; exact hl.1.symm) hown hlink hstat hini hcode hR.1 (by rw [map_cat]; exact Nat.le_trans (Nat.add_le_add_right hrest 13) hR.2) hf.1 hf.2 hdg (hk H locs ls hP hS hl)
  · cases hsem
end XCF
/-- all that a method's blocks stand on -/
def xM (p : Program) (l : Launch) (e : Env) (R : Room) (s : State) (m : MethodId) (args : Array Value) (below : List Frame) (meth : Method) (c : Code) (cells slots : Nat) (Q : State → Prop) (D : va_G) (T : List WE) (g : Nat → Nat) (cI cZ : ClassId) (A : Nat → Prop) (nL : Nat) (cc : ByteArray) (own : String) (zb : Nat) (cs : List CT) (L : List CE) (R0 : RS) : Prop :=
  xC p s m c D T g cI cZ A nL cc own ∧ (∀ (j : Nat) (q : CT), cs[j]? = some q → xCF p l e R s m args below meth c cells slots Q D T g cI cZ A nL cc R0 q) ∧ xRt p l e R s m args below meth c cells slots Q D T g cI cZ A nL cc zb R0 ∧ (∀ q ∈ L, rok cc nL zb q = true) ∧ ∀ q ∈ L, xF s args own q
theorem xa_blk {p : Program} {l : Launch} {e : Env} {R : Room} {s : State} {m : MethodId} {args : Array Value} {below : List Frame} {meth : Method} {c : Code} {cells slots : Nat} {Q : State → Prop} {D : va_G} {T : List WE} {g : Nat → Nat} {cI cZ : ClassId} {A : Nat → Prop} {nL : Nat} {cc : ByteArray} {own : String} {zb : Nat} {cs : List CT} {L : List CE} {R0 : RS}
    (M : xM p l e R s m args below meth c cells slots Q D T g cI cZ A nL cc own zb cs L R0) {ss : List Nat} {ds : List (Nat × List Nat × BT)} (hds : ∀ q ∈ ds, ∀ lv st S, q.2.2 lv st S = some R0 → xG p l e R s m args below meth c cells slots Q D T g cI cZ A nL q.1 lv st S)
    {n pc : Nat} {lv : LV} {st : List AV} {S : XS} (h : brn T cs L ss (dsp ds) n [] pc lv st S = some R0) : xG p l e R s m args below meth c cells slots Q D T g cI cZ A nL pc lv st S := by
  obtain ⟨h1, h2, h3, h4, h5⟩ := M
  exact xa_brn h1 h2 h3 h4 h5 (xa_dsp ds hds) n [] (fun _ q => absurd q List.not_mem_nil) pc lv st S h
def rety (zb : Nat) : Option FieldType := match zb with
  | 0 => some .int
  | 1 => some .boolean
  | 2 => none
  | _ => some (.object "StackMarks$Outline")
theorem zip_args (g : Nat → Nat) (As : List AV) : ∀ n, lv_args n (As.map (cv g)) = lvc g (zipN n As) := by
  induction As with
  | nil => intro n; rfl
  | cons v t ih =>
    intro n
    have h1 := ih (n + 1)
    cases v with
    | inl x => exact congrArg (List.cons _) h1
    | inr x => exact congrArg (List.cons _) h1
theorem sl_len (g : Nat → Nat) (As : List AV) : (lg_sl (As.map (cv g))).length = As.length := by
  induction As with
  | nil => rfl
  | cons v t ih =>
    cases v with
    | inl x => exact congrArg Nat.succ ih
    | inr x => exact congrArg Nat.succ ih
/-- a method's words: its own code, and the good words of the tables -/
abbrev wm (y : MethodName) (cc : ByteArray) (nL : Nat) (zb : Nat) : List Jvm.Cond := Jvm.Cond.code y cc nL (rety zb) :: wA
set_option maxHeartbeats 1000000 in
theorem xa_met1 {l : Launch} {D : va_G} {T : List WE} {g : Nat → Nat} {cI cZ : ClassId} {A : Nat → Prop} {y : MethodName} {rm : Room} {n nL zb : Nat} {cc : ByteArray} {cs : List CT} {L : List CE} {As : List AV} {S : XS} {R0 : RS} {ft : List (Nat × Nat × Nat)} {pt : List (Nat × Nat × Nat × Nat)} {kt : List (Nat × Int32)}
    (hD : ∀ S, va_D A (ww T g cI cZ S)) (hy : plainName y.cls = true) (hn : n ≤ nL) (hlen : As.length = n) (hL : ∀ q ∈ L, rok cc nL zb q = true) (hF : ∀ q ∈ L, fck ft pt kt q = true)
    (hfacts : ∀ (s : State) (args : Array Value), (∀ w ∈ wA, w.before args s = true) → xNw s → (∀ q ∈ ft, xFt s args y.cls q) ∧ (∀ q ∈ pt, xPt s args y.cls q) ∧ ∀ q ∈ kt, (Jvm.Cond.constant y.cls q.1 q.2).before args s = true)
    (hcs : ∀ (p : Program) (e : Env) (s : State) (m : MethodId) (args : Array Value) (below : List Frame) (meth : Method) (c : Code) (Q : State → Prop), xC p s m c D T g cI cZ A nL cc y.cls → (∀ w ∈ wm y cc nL zb, w.before args s = true) → xNw s → ∀ (j : Nat) (q : CT), cs[j]? = some q → xCF p l e rm s m args below meth c 0 0 Q D T g cI cZ A nL cc R0 q)
    (hb : ∀ (p : Program) (e : Env) (s : State) (m : MethodId) (args : Array Value) (below : List Frame) (meth : Method) (c : Code) (Q : State → Prop), xM p l e rm s m args below meth c 0 0 Q D T g cI cZ A nL cc y.cls zb cs L R0 → xG p l e rm s m args below meth c 0 0 Q D T g cI cZ A nL 0 (zipN 0 As) [] S) :
    Met l y (wm y cc nL zb) rm (va_Pc (As.map (cv g)) (xPre D T g cI cZ A S)) (xQ D T g cI cZ A R0) 0 0 A := by
  refine Met.ofW (cc := cc) (maxL := nL) (ret := rety zb) hy rfl ?_
  intro p e s m args below meth c s₁ B hml hv
  obtain ⟨rfl, hP, hK, hN, hst⟩ := hv
  have hx := B.exec
  have hbb := B.bytes
  have hr := B.returns
  have hts := atoms_spec (ws := wm y cc nL zb) B.pre
  have hts2 : ∀ w ∈ wA, w.before (As.map (cv g)).toArray s = true := fun w hw => hts w (List.mem_cons_of_mem _ hw)
  have hown : s.vm.findClass y.cls = some m.cls := findClass_of_methodNamed B.named
  have hlocks := B.notSynchronized
  have C0 : xC p s m c D T g cI cZ A nL cc y.cls := ⟨hx, hbb, hml, hown, hK, hD, hst⟩
  obtain ⟨f1, f2, f3⟩ := hfacts s _ hts2 hN
  have hl := lv_entry (As.map (cv g)) (n := nL) (by rw [sl_len, hlen]; exact hn)
  rw [lg_entry_eq]
  generalize (lg_sl (As.map (cv g)) ++ List.replicate (nL - (lg_sl (As.map (cv g))).length) Slot.unset).toArray = ls at hl ⊢
  rw [zip_args] at hl
  have hrt : xRt p l e rm s m (As.map (cv g)).toArray below meth c 0 0 (MQ below (xQ D T g cI cZ A R0) (As.map (cv g)).toArray s 0 0 A) D T g cI cZ A nL cc zb R0 := by
    intro pc S v H locs ls e0 hP hS hd
    subst e0
    cases v with
    | none =>
      obtain ⟨hd, hz⟩ := hd
      subst hz
      exact W.vret hx hbb hr (fun t ht hW => ⟨⟨none, rfl, rfl, by rw [ht]; exact hP⟩, hS.F ht⟩) hS.2.2 hd
    | some v =>
      cases v with
      | inl x =>
        obtain ⟨hd, hz, hz2⟩ := hd
        have hzc : zb = 0 ∨ zb = 1 := by omega
        rcases hzc with hz3 | hz3
        · subst hz3
          exact W.iret (v := x) hx hbb hr (fun t ht hW => ⟨⟨some (.inl x), rfl, rfl, by rw [ht]; exact hP⟩, hS.F ht⟩) hS.2.2 hd
        · subst hz3
          exact W.zret (v := x) hx hbb hr (narrow_b01 (hz2.resolve_left (by decide))) (fun t ht hW => ⟨⟨some (.inl x), rfl, rfl, by rw [ht]; exact hP⟩, hS.F ht⟩) hS.2.2 hd
      | inr x =>
        obtain ⟨hd, hz⟩ := hd
        subst hz
        exact W.aret (v := .ref (g x)) hx hbb hr (Or.inl ⟨_, rfl⟩) (Or.inr ⟨_, rfl⟩) (fun t ht hW => ⟨⟨some (.inr x), rfl, rfl, by rw [ht]; exact hP⟩, hS.F ht⟩) hS.2.2 hd
  exact hb p e s m _ below meth c _ ⟨C0, hcs p e s m _ below meth c _ C0 hts hN, hrt, hL, fun q hq => xF_of f1 f2 f3 (hF q hq)⟩ s.heap [] ls hP va_S.rf hl
theorem xa_met {l : Launch} {D : va_G} {T : List WE} {g : Nat → Nat} {cI cZ : ClassId} {A : Nat → Prop} {y : MethodName} {rm : Room} {n nL zb : Nat} {cc : ByteArray} {cs : List CT} {L : List CE} {sem : MT} {ft : List (Nat × Nat × Nat)} {pt : List (Nat × Nat × Nat × Nat)} {kt : List (Nat × Int32)}
    (hD : ∀ S, va_D A (ww T g cI cZ S)) (hy : plainName y.cls = true) (hn : n ≤ nL) (hL : ∀ q ∈ L, rok cc nL zb q = true) (hF : ∀ q ∈ L, fck ft pt kt q = true)
    (hfacts : ∀ (s : State) (args : Array Value), (∀ w ∈ wA, w.before args s = true) → xNw s → (∀ q ∈ ft, xFt s args y.cls q) ∧ (∀ q ∈ pt, xPt s args y.cls q) ∧ ∀ q ∈ kt, (Jvm.Cond.constant y.cls q.1 q.2).before args s = true)
    (hcs : ∀ (p : Program) (e : Env) (s : State) (m : MethodId) (args : Array Value) (below : List Frame) (meth : Method) (c : Code) (Q : State → Prop) (R0 : RS), xC p s m c D T g cI cZ A nL cc y.cls → (∀ w ∈ wm y cc nL zb, w.before args s = true) → xNw s → ∀ (j : Nat) (q : CT), cs[j]? = some q → xCF p l e rm s m args below meth c 0 0 Q D T g cI cZ A nL cc R0 q)
    (hb : ∀ (p : Program) (e : Env) (s : State) (m : MethodId) (args : Array Value) (below : List Frame) (meth : Method) (c : Code) (Q : State → Prop) (R0 : RS) (As : List AV) (S : XS), xM p l e rm s m args below meth c 0 0 Q D T g cI cZ A nL cc y.cls zb cs L R0 → sem As S = some R0 → xG p l e rm s m args below meth c 0 0 Q D T g cI cZ A nL 0 (zipN 0 As) [] S) :
    xMet l D T g cI cZ A y (wm y cc nL zb) rm n sem :=
  fun As S R0 hlen h => xa_met1 hD hy hn hlen hL hF hfacts (fun p e s m args below meth c Q => hcs p e s m args below meth c Q R0) (fun p e s m args below meth c Q M => hb p e s m args below meth c Q R0 As S M h)
/-- the words of a call among a method's -/
theorem good_V {y1 y : MethodName} {c1 cc : ByteArray} {n1 z1 nL zb idx : Nat} {own C : String} (h1 : Jvm.Cond.methodLink own idx y ∈ wA) (h2 : Jvm.Cond.instanceMethod y ∈ wA) (h3 : Jvm.Cond.selects C y y ∈ wA) (h4 : Jvm.Cond.initialized C ∈ wA) (h5 : Jvm.Cond.code y cc nL (rety zb) ∈ wA) : GoodIn (wm y1 c1 n1 z1) (wsV own idx C y (wm y cc nL zb)) := by
  intro w hw
  have h : w ∈ wA := by
    rcases List.mem_append.mp hw with q | q
    · simp only [List.mem_cons, List.not_mem_nil, or_false] at q
      rcases q with q | q | q | q <;> rw [q] <;> assumption
    · rcases List.mem_cons.mp q with q | q
      · rw [q]; exact h5
      · exact q
  exact ⟨List.mem_cons_of_mem _ h, good_of_word (wA_good w h)⟩
theorem good_S {y1 y : MethodName} {c1 cc : ByteArray} {n1 z1 nL zb idx : Nat} {own : String} (h1 : Jvm.Cond.methodLink own idx y ∈ wA) (h2 : Jvm.Cond.static y ∈ wA) (h4 : Jvm.Cond.initialized y.cls ∈ wA) (h5 : Jvm.Cond.code y cc nL (rety zb) ∈ wA) : GoodIn (wm y1 c1 n1 z1) (va_wsS own idx y (wm y cc nL zb)) := by
  intro w hw
  have h : w ∈ wA := by
    rcases List.mem_append.mp hw with q | q
    · simp only [List.mem_cons, List.not_mem_nil, or_false] at q
      rcases q with q | q | q <;> rw [q] <;> assumption
    · rcases List.mem_cons.mp q with q | q
      · rw [q]; exact h5
      · exact q
  exact ⟨List.mem_cons_of_mem _ h, good_of_word (wA_good w h)⟩
theorem good_N {y1 y : MethodName} {c1 cc : ByteArray} {n1 z1 nL zb : Nat} (h5 : Jvm.Cond.code y cc nL (rety zb) ∈ wA) : GoodIn (wm y1 c1 n1 z1) (wm y cc nL zb) := by
  intro w hw
  have h : w ∈ wA := by
    rcases List.mem_cons.mp hw with q | q
    · rw [q]; exact h5
    · exact q
  exact ⟨List.mem_cons_of_mem _ h, good_of_word (wA_good w h)⟩
end
section
/-! tables of the two worlds, the links of each kind -/
/-- turns enough for each loop; its value is told by fu_eq alone -/
noncomputable def fu : Nat := Classical.choose (⟨200, rfl⟩ : ∃ n : Nat, n = 200)
theorem fu_eq : fu = 200 := Classical.choose_spec (⟨200, rfl⟩ : ∃ n : Nat, n = 200)
def xT : List WE := [.inr (5, [some 1, some 2, some 3, some 4, some 5, some 6, some 39, none, none, none]), .inr (0, [some 7, some 8, some 9, some 10, some 11, some 12, none]), .inr (1, [some 13]), .inr (2, [some 14, some 15, some 16, some 17, some 18, some 19, some 20, some 21, some 22, some 23, some 24, none]), .inr (4, [some 25, some 26, some 27, some 28, some 29, some 30, none]), .inr (3, [some 31, some 32, some 33, some 34, none, none]), .inr (3, [some 35, some 36, some 37, some 38, none, none]), .inl (false, 40), .inl (false, 40), .inl (false, 40), .inl (false, 40), .inl (false, 40), .inl (false, 40), .inl (false, 60), .inl (false, 80), .inl (false, 80), .inl (false, 80), .inl (false, 80), .inl (true, 80), .inl (false, 80), .inl (false, 80), .inl (false, 80), .inl (false, 80), .inl (true, 80), .inl (false, 80), .inl (false, 10), .inl (false, 10), .inl (false, 10), .inl (false, 10), .inl (false, 10), .inl (false, 10), .inl (false, 170), .inl (false, 170), .inl (false, 170), .inl (false, 10), .inl (false, 170), .inl (false, 170), .inl (false, 170), .inl (false, 10), .inl (false, 80)]
def mT : List WE := [.inr (6, [none, none, some 1, some 2, some 3, some 4, some 5, some 6, some 7, none, some 8, some 9, some 10, some 11, some 12, some 13, some 14, some 15, some 16, none, none, some 17, some 18, some 19, some 20, some 21, none, some 22, some 23, none, some 24]), .inl (false, 40), .inl (false, 40), .inl (false, 40), .inl (false, 40), .inl (false, 40), .inl (true, 40), .inl (false, 60), .inl (false, 80), .inl (false, 80), .inl (false, 80), .inl (false, 80), .inl (true, 80), .inl (true, 80), .inl (false, 80), .inl (true, 80), .inl (false, 80), .inl (false, 10), .inl (false, 10), .inl (false, 10), .inl (false, 10), .inl (false, 10), .inl (true, 20), .inl (false, 20), .inl (false, 80)]
theorem all_get {cs : List CT} {P : CT → Prop} (h : ∀ q ∈ cs, P q) : ∀ (j : Nat) (q : CT), cs[j]? = some q → P q := fun _ q hj => h q (List.mem_of_getElem? hj)
def FT_X0 : List (Nat × Nat × Nat) := [(9, 0, 0), (15, 0, 1), (18, 0, 2), (21, 0, 3), (24, 0, 4), (27, 0, 5), (30, 0, 6)]
def PT_X0 : List (Nat × Nat × Nat × Nat) := [(30, 0, 6, 0)]
def KT_X0 : List (Nat × Int32) := []
set_option maxRecDepth 20000 in
theorem fa_X0 : ∀ (s : State) (args : Array Value), (∀ w ∈ wA, w.before args s = true) → xNw s → (∀ q ∈ FT_X0, xFt s args RX0 q) ∧ (∀ q ∈ PT_X0, xPt s args RX0 q) ∧ ∀ q ∈ KT_X0, (Jvm.Cond.constant RX0 q.1 q.2).before args s = true :=
  fun s args hts hN => ⟨List.forall_mem_cons.mpr ⟨⟨RX0, TX0, 7, rfl, by decide, fun w hw => hts w (iw_X0 w hw), Or.inl (hts _ kf_X0_9)⟩, List.forall_mem_cons.mpr ⟨⟨RX0, TX0, 7, rfl, by decide, fun w hw => hts w (iw_X0 w hw), Or.inl (hts _ kf_X0_15)⟩, List.forall_mem_cons.mpr ⟨⟨RX0, TX0, 7, rfl, by decide, fun w hw => hts w (iw_X0 w hw), Or.inl (hts _ kf_X0_18)⟩, List.forall_mem_cons.mpr ⟨⟨RX0, TX0, 7, rfl, by decide, fun w hw => hts w (iw_X0 w hw), Or.inl (hts _ kf_X0_21)⟩, List.forall_mem_cons.mpr ⟨⟨RX0, TX0, 7, rfl, by decide, fun w hw => hts w (iw_X0 w hw), Or.inl (hts _ kf_X0_24)⟩, List.forall_mem_cons.mpr ⟨⟨RX0, TX0, 7, rfl, by decide, fun w hw => hts w (iw_X0 w hw), Or.inl (hts _ kf_X0_27)⟩, List.forall_mem_cons.mpr ⟨⟨RX0, TX0, 7, rfl, by decide, fun w hw => hts w (iw_X0 w hw), Or.inl (hts _ kf_X0_30)⟩, fun _ q => absurd q List.not_mem_nil⟩⟩⟩⟩⟩⟩⟩, List.forall_mem_cons.mpr ⟨⟨RX0, TX0, 7, ⟨rfl, by decide, fun w hw => hts w (iw_X0 w hw), Or.inl (hts _ kf_X0_30)⟩, rfl, by decide +kernel⟩, fun _ q => absurd q List.not_mem_nil⟩, fun _ q => absurd q List.not_mem_nil⟩
def FT_X1 : List (Nat × Nat × Nat) := [(9, 1, 0), (16, 9, 40)]
def PT_X1 : List (Nat × Nat × Nat × Nat) := []
def KT_X1 : List (Nat × Int32) := []
set_option maxRecDepth 20000 in
theorem fa_X1 : ∀ (s : State) (args : Array Value), (∀ w ∈ wA, w.before args s = true) → xNw s → (∀ q ∈ FT_X1, xFt s args RX1 q) ∧ (∀ q ∈ PT_X1, xPt s args RX1 q) ∧ ∀ q ∈ KT_X1, (Jvm.Cond.constant RX1 q.1 q.2).before args s = true :=
  fun s args hts hN => ⟨List.forall_mem_cons.mpr ⟨⟨RX1, TX1, 1, rfl, by decide, fun w hw => hts w (iw_X1 w hw), Or.inl (hts _ kf_X1_9)⟩, List.forall_mem_cons.mpr ⟨(⟨by decide, hts _ kf_X1_16⟩ : (_ ∧ _)), fun _ q => absurd q List.not_mem_nil⟩⟩, fun _ q => absurd q List.not_mem_nil, fun _ q => absurd q List.not_mem_nil⟩
def FT_X2 : List (Nat × Nat × Nat) := [(9, 2, 0), (15, 2, 1), (18, 2, 2), (21, 2, 3), (24, 2, 4), (28, 2, 5), (31, 2, 6), (34, 2, 7), (46, 2, 11)]
def PT_X2 : List (Nat × Nat × Nat × Nat) := [(46, 2, 11, 0)]
def KT_X2 : List (Nat × Int32) := []
set_option maxRecDepth 20000 in
theorem fa_X2 : ∀ (s : State) (args : Array Value), (∀ w ∈ wA, w.before args s = true) → xNw s → (∀ q ∈ FT_X2, xFt s args RX2 q) ∧ (∀ q ∈ PT_X2, xPt s args RX2 q) ∧ ∀ q ∈ KT_X2, (Jvm.Cond.constant RX2 q.1 q.2).before args s = true :=
  fun s args hts hN => ⟨List.forall_mem_cons.mpr ⟨⟨RX2, TX2, 12, rfl, by decide, fun w hw => hts w (iw_X2 w hw), Or.inl (hts _ kf_X2_9)⟩, List.forall_mem_cons.mpr ⟨⟨RX2, TX2, 12, rfl, by decide, fun w hw => hts w (iw_X2 w hw), Or.inl (hts _ kf_X2_15)⟩, List.forall_mem_cons.mpr ⟨⟨RX2, TX2, 12, rfl, by decide, fun w hw => hts w (iw_X2 w hw), Or.inl (hts _ kf_X2_18)⟩, List.forall_mem_cons.mpr ⟨⟨RX2, TX2, 12, rfl, by decide, fun w hw => hts w (iw_X2 w hw), Or.inl (hts _ kf_X2_21)⟩, List.forall_mem_cons.mpr ⟨⟨RX2, TX2, 12, rfl, by decide, fun w hw => hts w (iw_X2 w hw), Or.inl (hts _ kf_X2_24)⟩, List.forall_mem_cons.mpr ⟨⟨RX2, TX2, 12, rfl, by decide, fun w hw => hts w (iw_X2 w hw), Or.inl (hts _ kf_X2_28)⟩, List.forall_mem_cons.mpr ⟨⟨RX2, TX2, 12, rfl, by decide, fun w hw => hts w (iw_X2 w hw), Or.inl (hts _ kf_X2_31)⟩, List.forall_mem_cons.mpr ⟨⟨RX2, TX2, 12, rfl, by decide, fun w hw => hts w (iw_X2 w hw), Or.inl (hts _ kf_X2_34)⟩, List.forall_mem_cons.mpr ⟨⟨RX2, TX2, 12, rfl, by decide, fun w hw => hts w (iw_X2 w hw), Or.inl (hts _ kf_X2_46)⟩, fun _ q => absurd q List.not_mem_nil⟩⟩⟩⟩⟩⟩⟩⟩⟩, List.forall_mem_cons.mpr ⟨⟨RX2, TX2, 12, ⟨rfl, by decide, fun w hw => hts w (iw_X2 w hw), Or.inl (hts _ kf_X2_46)⟩, rfl, by decide +kernel⟩, fun _ q => absurd q List.not_mem_nil⟩, fun _ q => absurd q List.not_mem_nil⟩
def FT_X3 : List (Nat × Nat × Nat) := [(11, 3, 0), (15, 3, 1), (18, 3, 2), (23, 3, 3), (26, 3, 4), (30, 3, 5)]
def PT_X3 : List (Nat × Nat × Nat × Nat) := [(26, 3, 4, 0), (30, 3, 5, 0)]
def KT_X3 : List (Nat × Int32) := [(33, (-100003))]
set_option maxRecDepth 20000 in
theorem fa_X3 : ∀ (s : State) (args : Array Value), (∀ w ∈ wA, w.before args s = true) → xNw s → (∀ q ∈ FT_X3, xFt s args RX3 q) ∧ (∀ q ∈ PT_X3, xPt s args RX3 q) ∧ ∀ q ∈ KT_X3, (Jvm.Cond.constant RX3 q.1 q.2).before args s = true :=
  fun s args hts hN => ⟨List.forall_mem_cons.mpr ⟨⟨RX3, TX3, 6, rfl, by decide, fun w hw => hts w (iw_X3 w hw), Or.inl (hts _ kf_X3_11)⟩, List.forall_mem_cons.mpr ⟨⟨RX3, TX3, 6, rfl, by decide, fun w hw => hts w (iw_X3 w hw), Or.inl (hts _ kf_X3_15)⟩, List.forall_mem_cons.mpr ⟨⟨RX3, TX3, 6, rfl, by decide, fun w hw => hts w (iw_X3 w hw), Or.inl (hts _ kf_X3_18)⟩, List.forall_mem_cons.mpr ⟨⟨RX3, TX3, 6, rfl, by decide, fun w hw => hts w (iw_X3 w hw), Or.inl (hts _ kf_X3_23)⟩, List.forall_mem_cons.mpr ⟨⟨RX3, TX3, 6, rfl, by decide, fun w hw => hts w (iw_X3 w hw), Or.inl (hts _ kf_X3_26)⟩, List.forall_mem_cons.mpr ⟨⟨RX3, TX3, 6, rfl, by decide, fun w hw => hts w (iw_X3 w hw), Or.inl (hts _ kf_X3_30)⟩, fun _ q => absurd q List.not_mem_nil⟩⟩⟩⟩⟩⟩, List.forall_mem_cons.mpr ⟨⟨RX3, TX3, 6, ⟨rfl, by decide, fun w hw => hts w (iw_X3 w hw), Or.inl (hts _ kf_X3_26)⟩, rfl, by decide +kernel⟩, List.forall_mem_cons.mpr ⟨⟨RX3, TX3, 6, ⟨rfl, by decide, fun w hw => hts w (iw_X3 w hw), Or.inl (hts _ kf_X3_30)⟩, rfl, by decide +kernel⟩, fun _ q => absurd q List.not_mem_nil⟩⟩, List.forall_mem_cons.mpr ⟨hts _ kk_X3_33, fun _ q => absurd q List.not_mem_nil⟩⟩
def FT_X4 : List (Nat × Nat × Nat) := [(9, 4, 0), (15, 4, 1), (18, 4, 2), (21, 4, 3), (30, 4, 6)]
def PT_X4 : List (Nat × Nat × Nat × Nat) := [(30, 4, 6, 0)]
def KT_X4 : List (Nat × Int32) := []
set_option maxRecDepth 20000 in
theorem fa_X4 : ∀ (s : State) (args : Array Value), (∀ w ∈ wA, w.before args s = true) → xNw s → (∀ q ∈ FT_X4, xFt s args RX4 q) ∧ (∀ q ∈ PT_X4, xPt s args RX4 q) ∧ ∀ q ∈ KT_X4, (Jvm.Cond.constant RX4 q.1 q.2).before args s = true :=
  fun s args hts hN => ⟨List.forall_mem_cons.mpr ⟨⟨RX4, TX4, 7, rfl, by decide, fun w hw => hts w (iw_X4 w hw), Or.inl (hts _ kf_X4_9)⟩, List.forall_mem_cons.mpr ⟨⟨RX4, TX4, 7, rfl, by decide, fun w hw => hts w (iw_X4 w hw), Or.inl (hts _ kf_X4_15)⟩, List.forall_mem_cons.mpr ⟨⟨RX4, TX4, 7, rfl, by decide, fun w hw => hts w (iw_X4 w hw), Or.inl (hts _ kf_X4_18)⟩, List.forall_mem_cons.mpr ⟨⟨RX4, TX4, 7, rfl, by decide, fun w hw => hts w (iw_X4 w hw), Or.inl (hts _ kf_X4_21)⟩, List.forall_mem_cons.mpr ⟨⟨RX4, TX4, 7, rfl, by decide, fun w hw => hts w (iw_X4 w hw), Or.inl (hts _ kf_X4_30)⟩, fun _ q => absurd q List.not_mem_nil⟩⟩⟩⟩⟩, List.forall_mem_cons.mpr ⟨⟨RX4, TX4, 7, ⟨rfl, by decide, fun w hw => hts w (iw_X4 w hw), Or.inl (hts _ kf_X4_30)⟩, rfl, by decide +kernel⟩, fun _ q => absurd q List.not_mem_nil⟩, fun _ q => absurd q List.not_mem_nil⟩
def FT_X5 : List (Nat × Nat × Nat) := [(10, 5, 0), (19, 5, 1), (26, 5, 2), (33, 5, 3), (40, 5, 4), (44, 5, 5), (47, 5, 6), (67, 0, 1), (70, 0, 2), (73, 5, 9), (86, 2, 11), (96, 2, 4), (100, 0, 0), (106, 4, 6), (127, 2, 5), (134, 2, 6), (137, 2, 7), (140, 2, 8), (143, 2, 9), (146, 2, 10), (150, 4, 4), (151, 4, 5), (161, 3, 3), (181, 2, 0), (188, 0, 3), (191, 0, 4), (194, 0, 5), (200, 0, 6), (219, 3, 5), (224, 2, 1), (230, 2, 2), (249, 4, 2), (250, 4, 0), (253, 4, 1), (256, 4, 3), (266, 5, 7), (287, 5, 8), (302, 2, 3)]
def PT_X5 : List (Nat × Nat × Nat × Nat) := [(73, 5, 9, 1), (266, 5, 7, 0), (287, 5, 8, 0)]
def KT_X5 : List (Nat × Int32) := [(59, (-100001)), (90, (-100002)), (152, 101000), (170, (-100003)), (180, 100000), (283, 100001)]
set_option maxRecDepth 20000 in
theorem fa_X5 : ∀ (s : State) (args : Array Value), (∀ w ∈ wA, w.before args s = true) → xNw s → (∀ q ∈ FT_X5, xFt s args RX5 q) ∧ (∀ q ∈ PT_X5, xPt s args RX5 q) ∧ ∀ q ∈ KT_X5, (Jvm.Cond.constant RX5 q.1 q.2).before args s = true :=
  fun s args hts hN => ⟨List.forall_mem_cons.mpr ⟨⟨RX5, TX5, 10, rfl, by decide, fun w hw => hts w (iw_X5 w hw), Or.inl (hts _ kf_X5_10)⟩, List.forall_mem_cons.mpr ⟨⟨RX5, TX5, 10, rfl, by decide, fun w hw => hts w (iw_X5 w hw), Or.inl (hts _ kf_X5_19)⟩, List.forall_mem_cons.mpr ⟨⟨RX5, TX5, 10, rfl, by decide, fun w hw => hts w (iw_X5 w hw), Or.inl (hts _ kf_X5_26)⟩, List.forall_mem_cons.mpr ⟨⟨RX5, TX5, 10, rfl, by decide, fun w hw => hts w (iw_X5 w hw), Or.inl (hts _ kf_X5_33)⟩, List.forall_mem_cons.mpr ⟨⟨RX5, TX5, 10, rfl, by decide, fun w hw => hts w (iw_X5 w hw), Or.inl (hts _ kf_X5_40)⟩, List.forall_mem_cons.mpr ⟨⟨RX5, TX5, 10, rfl, by decide, fun w hw => hts w (iw_X5 w hw), Or.inl (hts _ kf_X5_44)⟩, List.forall_mem_cons.mpr ⟨⟨RX5, TX5, 10, rfl, by decide, fun w hw => hts w (iw_X5 w hw), Or.inl (hts _ kf_X5_47)⟩, List.forall_mem_cons.mpr ⟨⟨RX0, TX0, 7, rfl, by decide, fun w hw => hts w (iw_X0 w hw), Or.inr ⟨"StackMarks", va_Nw.use rfl (hN _ (by decide +kernel))⟩⟩, List.forall_mem_cons.mpr ⟨⟨RX0, TX0, 7, rfl, by decide, fun w hw => hts w (iw_X0 w hw), Or.inr ⟨"StackMarks", va_Nw.use rfl (hN _ (by decide +kernel))⟩⟩, List.forall_mem_cons.mpr ⟨⟨RX5, TX5, 10, rfl, by decide, fun w hw => hts w (iw_X5 w hw), Or.inl (hts _ kf_X5_73)⟩, List.forall_mem_cons.mpr ⟨⟨RX2, TX2, 12, rfl, by decide, fun w hw => hts w (iw_X2 w hw), Or.inr ⟨"StackMarks", va_Nw.use rfl (hN _ (by decide +kernel))⟩⟩, List.forall_mem_cons.mpr ⟨⟨RX2, TX2, 12, rfl, by decide, fun w hw => hts w (iw_X2 w hw), Or.inr ⟨"StackMarks", va_Nw.use rfl (hN _ (by decide +kernel))⟩⟩, List.forall_mem_cons.mpr ⟨⟨RX0, TX0, 7, rfl, by decide, fun w hw => hts w (iw_X0 w hw), Or.inr ⟨"StackMarks", va_Nw.use rfl (hN _ (by decide +kernel))⟩⟩, List.forall_mem_cons.mpr ⟨⟨RX4, TX4, 7, rfl, by decide, fun w hw => hts w (iw_X4 w hw), Or.inr ⟨"StackMarks", va_Nw.use rfl (hN _ (by decide +kernel))⟩⟩, List.forall_mem_cons.mpr ⟨⟨RX2, TX2, 12, rfl, by decide, fun w hw => hts w (iw_X2 w hw), Or.inr ⟨"StackMarks", va_Nw.use rfl (hN _ (by decide +kernel))⟩⟩, List.forall_mem_cons.mpr ⟨⟨RX2, TX2, 12, rfl, by decide, fun w hw => hts w (iw_X2 w hw), Or.inr ⟨"StackMarks", va_Nw.use rfl (hN _ (by decide +kernel))⟩⟩, List.forall_mem_cons.mpr ⟨⟨RX2, TX2, 12, rfl, by decide, fun w hw => hts w (iw_X2 w hw), Or.inr ⟨"StackMarks", va_Nw.use rfl (hN _ (by decide +kernel))⟩⟩, List.forall_mem_cons.mpr ⟨⟨RX2, TX2, 12, rfl, by decide, fun w hw => hts w (iw_X2 w hw), Or.inr ⟨"StackMarks", va_Nw.use rfl (hN _ (by decide +kernel))⟩⟩, List.forall_mem_cons.mpr ⟨⟨RX2, TX2, 12, rfl, by decide, fun w hw => hts w (iw_X2 w hw), Or.inr ⟨"StackMarks", va_Nw.use rfl (hN _ (by decide +kernel))⟩⟩, List.forall_mem_cons.mpr ⟨⟨RX2, TX2, 12, rfl, by decide, fun w hw => hts w (iw_X2 w hw), Or.inr ⟨"StackMarks", va_Nw.use rfl (hN _ (by decide +kernel))⟩⟩, List.forall_mem_cons.mpr ⟨⟨RX4, TX4, 7, rfl, by decide, fun w hw => hts w (iw_X4 w hw), Or.inr ⟨"StackMarks", va_Nw.use rfl (hN _ (by decide +kernel))⟩⟩, List.forall_mem_cons.mpr ⟨⟨RX4, TX4, 7, rfl, by decide, fun w hw => hts w (iw_X4 w hw), Or.inr ⟨"StackMarks", va_Nw.use rfl (hN _ (by decide +kernel))⟩⟩, List.forall_mem_cons.mpr ⟨⟨RX3, TX3, 6, rfl, by decide, fun w hw => hts w (iw_X3 w hw), Or.inr ⟨"StackMarks", va_Nw.use rfl (hN _ (by decide +kernel))⟩⟩, List.forall_mem_cons.mpr ⟨⟨RX2, TX2, 12, rfl, by decide, fun w hw => hts w (iw_X2 w hw), Or.inr ⟨"StackMarks", va_Nw.use rfl (hN _ (by decide +kernel))⟩⟩, List.forall_mem_cons.mpr ⟨⟨RX0, TX0, 7, rfl, by decide, fun w hw => hts w (iw_X0 w hw), Or.inr ⟨"StackMarks", va_Nw.use rfl (hN _ (by decide +kernel))⟩⟩, List.forall_mem_cons.mpr ⟨⟨RX0, TX0, 7, rfl, by decide, fun w hw => hts w (iw_X0 w hw), Or.inr ⟨"StackMarks", va_Nw.use rfl (hN _ (by decide +kernel))⟩⟩, List.forall_mem_cons.mpr ⟨⟨RX0, TX0, 7, rfl, by decide, fun w hw => hts w (iw_X0 w hw), Or.inr ⟨"StackMarks", va_Nw.use rfl (hN _ (by decide +kernel))⟩⟩, List.forall_mem_cons.mpr ⟨⟨RX0, TX0, 7, rfl, by decide, fun w hw => hts w (iw_X0 w hw), Or.inr ⟨"StackMarks", va_Nw.use rfl (hN _ (by decide +kernel))⟩⟩, List.forall_mem_cons.mpr ⟨⟨RX3, TX3, 6, rfl, by decide, fun w hw => hts w (iw_X3 w hw), Or.inr ⟨"StackMarks", va_Nw.use rfl (hN _ (by decide +kernel))⟩⟩, List.forall_mem_cons.mpr ⟨⟨RX2, TX2, 12, rfl, by decide, fun w hw => hts w (iw_X2 w hw), Or.inr ⟨"StackMarks", va_Nw.use rfl (hN _ (by decide +kernel))⟩⟩, List.forall_mem_cons.mpr ⟨⟨RX2, TX2, 12, rfl, by decide, fun w hw => hts w (iw_X2 w hw), Or.inr ⟨"StackMarks", va_Nw.use rfl (hN _ (by decide +kernel))⟩⟩, List.forall_mem_cons.mpr ⟨⟨RX4, TX4, 7, rfl, by decide, fun w hw => hts w (iw_X4 w hw), Or.inr ⟨"StackMarks", va_Nw.use rfl (hN _ (by decide +kernel))⟩⟩, List.forall_mem_cons.mpr ⟨⟨RX4, TX4, 7, rfl, by decide, fun w hw => hts w (iw_X4 w hw), Or.inr ⟨"StackMarks", va_Nw.use rfl (hN _ (by decide +kernel))⟩⟩, List.forall_mem_cons.mpr ⟨⟨RX4, TX4, 7, rfl, by decide, fun w hw => hts w (iw_X4 w hw), Or.inr ⟨"StackMarks", va_Nw.use rfl (hN _ (by decide +kernel))⟩⟩, List.forall_mem_cons.mpr ⟨⟨RX4, TX4, 7, rfl, by decide, fun w hw => hts w (iw_X4 w hw), Or.inr ⟨"StackMarks", va_Nw.use rfl (hN _ (by decide +kernel))⟩⟩, List.forall_mem_cons.mpr ⟨⟨RX5, TX5, 10, rfl, by decide, fun w hw => hts w (iw_X5 w hw), Or.inl (hts _ kf_X5_266)⟩, List.forall_mem_cons.mpr ⟨⟨RX5, TX5, 10, rfl, by decide, fun w hw => hts w (iw_X5 w hw), Or.inl (hts _ kf_X5_287)⟩, List.forall_mem_cons.mpr ⟨⟨RX2, TX2, 12, rfl, by decide, fun w hw => hts w (iw_X2 w hw), Or.inr ⟨"StackMarks", va_Nw.use rfl (hN _ (by decide +kernel))⟩⟩, fun _ q => absurd q List.not_mem_nil⟩⟩⟩⟩⟩⟩⟩⟩⟩⟩⟩⟩⟩⟩⟩⟩⟩⟩⟩⟩⟩⟩⟩⟩⟩⟩⟩⟩⟩⟩⟩⟩⟩⟩⟩⟩⟩⟩, List.forall_mem_cons.mpr ⟨⟨RX5, TX5, 10, ⟨rfl, by decide, fun w hw => hts w (iw_X5 w hw), Or.inl (hts _ kf_X5_73)⟩, rfl, by decide +kernel⟩, List.forall_mem_cons.mpr ⟨⟨RX5, TX5, 10, ⟨rfl, by decide, fun w hw => hts w (iw_X5 w hw), Or.inl (hts _ kf_X5_266)⟩, rfl, by decide +kernel⟩, List.forall_mem_cons.mpr ⟨⟨RX5, TX5, 10, ⟨rfl, by decide, fun w hw => hts w (iw_X5 w hw), Or.inl (hts _ kf_X5_287)⟩, rfl, by decide +kernel⟩, fun _ q => absurd q List.not_mem_nil⟩⟩⟩, List.forall_mem_cons.mpr ⟨hts _ kk_X5_59, List.forall_mem_cons.mpr ⟨hts _ kk_X5_90, List.forall_mem_cons.mpr ⟨hts _ kk_X5_152, List.forall_mem_cons.mpr ⟨hts _ kk_X5_170, List.forall_mem_cons.mpr ⟨hts _ kk_X5_180, List.forall_mem_cons.mpr ⟨hts _ kk_X5_283, fun _ q => absurd q List.not_mem_nil⟩⟩⟩⟩⟩⟩⟩
def FT_X6 : List (Nat × Nat × Nat) := [(7, 6, 2), (13, 6, 3), (16, 6, 4), (19, 6, 5), (22, 6, 6), (25, 6, 7), (29, 6, 8), (32, 6, 10), (35, 6, 11), (38, 6, 12), (41, 6, 13), (44, 6, 14), (47, 6, 15), (50, 6, 16), (53, 6, 17), (56, 6, 18), (59, 6, 21), (62, 6, 22), (65, 6, 23), (68, 6, 24), (71, 6, 25), (74, 6, 27), (77, 6, 28), (80, 6, 30), (83, 6, 0), (87, 6, 1), (90, 6, 9), (94, 6, 29), (125, 6, 20), (136, 6, 26), (149, 6, 19)]
def PT_X6 : List (Nat × Nat × Nat × Nat) := [(83, 6, 0, 0), (87, 6, 1, 0), (90, 6, 9, 0), (94, 6, 29, 1), (125, 6, 20, 0), (136, 6, 26, 0), (149, 6, 19, 0)]
def KT_X6 : List (Nat × Int32) := [(93, (-100002)), (98, 100000), (107, (-100001)), (170, (-100003)), (177, 101000)]
set_option maxRecDepth 20000 in
theorem fa_X6 : ∀ (s : State) (args : Array Value), (∀ w ∈ wA, w.before args s = true) → xNw s → (∀ q ∈ FT_X6, xFt s args RX6 q) ∧ (∀ q ∈ PT_X6, xPt s args RX6 q) ∧ ∀ q ∈ KT_X6, (Jvm.Cond.constant RX6 q.1 q.2).before args s = true :=
  fun s args hts hN => ⟨List.forall_mem_cons.mpr ⟨⟨RX6, TX6, 31, rfl, by decide, fun w hw => hts w (iw_X6 w hw), Or.inl (hts _ kf_X6_7)⟩, List.forall_mem_cons.mpr ⟨⟨RX6, TX6, 31, rfl, by decide, fun w hw => hts w (iw_X6 w hw), Or.inl (hts _ kf_X6_13)⟩, List.forall_mem_cons.mpr ⟨⟨RX6, TX6, 31, rfl, by decide, fun w hw => hts w (iw_X6 w hw), Or.inl (hts _ kf_X6_16)⟩, List.forall_mem_cons.mpr ⟨⟨RX6, TX6, 31, rfl, by decide, fun w hw => hts w (iw_X6 w hw), Or.inl (hts _ kf_X6_19)⟩, List.forall_mem_cons.mpr ⟨⟨RX6, TX6, 31, rfl, by decide, fun w hw => hts w (iw_X6 w hw), Or.inl (hts _ kf_X6_22)⟩, List.forall_mem_cons.mpr ⟨⟨RX6, TX6, 31, rfl, by decide, fun w hw => hts w (iw_X6 w hw), Or.inl (hts _ kf_X6_25)⟩, List.forall_mem_cons.mpr ⟨⟨RX6, TX6, 31, rfl, by decide, fun w hw => hts w (iw_X6 w hw), Or.inl (hts _ kf_X6_29)⟩, List.forall_mem_cons.mpr ⟨⟨RX6, TX6, 31, rfl, by decide, fun w hw => hts w (iw_X6 w hw), Or.inl (hts _ kf_X6_32)⟩, List.forall_mem_cons.mpr ⟨⟨RX6, TX6, 31, rfl, by decide, fun w hw => hts w (iw_X6 w hw), Or.inl (hts _ kf_X6_35)⟩, List.forall_mem_cons.mpr ⟨⟨RX6, TX6, 31, rfl, by decide, fun w hw => hts w (iw_X6 w hw), Or.inl (hts _ kf_X6_38)⟩, List.forall_mem_cons.mpr ⟨⟨RX6, TX6, 31, rfl, by decide, fun w hw => hts w (iw_X6 w hw), Or.inl (hts _ kf_X6_41)⟩, List.forall_mem_cons.mpr ⟨⟨RX6, TX6, 31, rfl, by decide, fun w hw => hts w (iw_X6 w hw), Or.inl (hts _ kf_X6_44)⟩, List.forall_mem_cons.mpr ⟨⟨RX6, TX6, 31, rfl, by decide, fun w hw => hts w (iw_X6 w hw), Or.inl (hts _ kf_X6_47)⟩, List.forall_mem_cons.mpr ⟨⟨RX6, TX6, 31, rfl, by decide, fun w hw => hts w (iw_X6 w hw), Or.inl (hts _ kf_X6_50)⟩, List.forall_mem_cons.mpr ⟨⟨RX6, TX6, 31, rfl, by decide, fun w hw => hts w (iw_X6 w hw), Or.inl (hts _ kf_X6_53)⟩, List.forall_mem_cons.mpr ⟨⟨RX6, TX6, 31, rfl, by decide, fun w hw => hts w (iw_X6 w hw), Or.inl (hts _ kf_X6_56)⟩, List.forall_mem_cons.mpr ⟨⟨RX6, TX6, 31, rfl, by decide, fun w hw => hts w (iw_X6 w hw), Or.inl (hts _ kf_X6_59)⟩, List.forall_mem_cons.mpr ⟨⟨RX6, TX6, 31, rfl, by decide, fun w hw => hts w (iw_X6 w hw), Or.inl (hts _ kf_X6_62)⟩, List.forall_mem_cons.mpr ⟨⟨RX6, TX6, 31, rfl, by decide, fun w hw => hts w (iw_X6 w hw), Or.inl (hts _ kf_X6_65)⟩, List.forall_mem_cons.mpr ⟨⟨RX6, TX6, 31, rfl, by decide, fun w hw => hts w (iw_X6 w hw), Or.inl (hts _ kf_X6_68)⟩, List.forall_mem_cons.mpr ⟨⟨RX6, TX6, 31, rfl, by decide, fun w hw => hts w (iw_X6 w hw), Or.inl (hts _ kf_X6_71)⟩, List.forall_mem_cons.mpr ⟨⟨RX6, TX6, 31, rfl, by decide, fun w hw => hts w (iw_X6 w hw), Or.inl (hts _ kf_X6_74)⟩, List.forall_mem_cons.mpr ⟨⟨RX6, TX6, 31, rfl, by decide, fun w hw => hts w (iw_X6 w hw), Or.inl (hts _ kf_X6_77)⟩, List.forall_mem_cons.mpr ⟨⟨RX6, TX6, 31, rfl, by decide, fun w hw => hts w (iw_X6 w hw), Or.inl (hts _ kf_X6_80)⟩, List.forall_mem_cons.mpr ⟨⟨RX6, TX6, 31, rfl, by decide, fun w hw => hts w (iw_X6 w hw), Or.inl (hts _ kf_X6_83)⟩, List.forall_mem_cons.mpr ⟨⟨RX6, TX6, 31, rfl, by decide, fun w hw => hts w (iw_X6 w hw), Or.inl (hts _ kf_X6_87)⟩, List.forall_mem_cons.mpr ⟨⟨RX6, TX6, 31, rfl, by decide, fun w hw => hts w (iw_X6 w hw), Or.inl (hts _ kf_X6_90)⟩, List.forall_mem_cons.mpr ⟨⟨RX6, TX6, 31, rfl, by decide, fun w hw => hts w (iw_X6 w hw), Or.inl (hts _ kf_X6_94)⟩, List.forall_mem_cons.mpr ⟨⟨RX6, TX6, 31, rfl, by decide, fun w hw => hts w (iw_X6 w hw), Or.inl (hts _ kf_X6_125)⟩, List.forall_mem_cons.mpr ⟨⟨RX6, TX6, 31, rfl, by decide, fun w hw => hts w (iw_X6 w hw), Or.inl (hts _ kf_X6_136)⟩, List.forall_mem_cons.mpr ⟨⟨RX6, TX6, 31, rfl, by decide, fun w hw => hts w (iw_X6 w hw), Or.inl (hts _ kf_X6_149)⟩, fun _ q => absurd q List.not_mem_nil⟩⟩⟩⟩⟩⟩⟩⟩⟩⟩⟩⟩⟩⟩⟩⟩⟩⟩⟩⟩⟩⟩⟩⟩⟩⟩⟩⟩⟩⟩⟩, List.forall_mem_cons.mpr ⟨⟨RX6, TX6, 31, ⟨rfl, by decide, fun w hw => hts w (iw_X6 w hw), Or.inl (hts _ kf_X6_83)⟩, rfl, by decide +kernel⟩, List.forall_mem_cons.mpr ⟨⟨RX6, TX6, 31, ⟨rfl, by decide, fun w hw => hts w (iw_X6 w hw), Or.inl (hts _ kf_X6_87)⟩, rfl, by decide +kernel⟩, List.forall_mem_cons.mpr ⟨⟨RX6, TX6, 31, ⟨rfl, by decide, fun w hw => hts w (iw_X6 w hw), Or.inl (hts _ kf_X6_90)⟩, rfl, by decide +kernel⟩, List.forall_mem_cons.mpr ⟨⟨RX6, TX6, 31, ⟨rfl, by decide, fun w hw => hts w (iw_X6 w hw), Or.inl (hts _ kf_X6_94)⟩, rfl, by decide +kernel⟩, List.forall_mem_cons.mpr ⟨⟨RX6, TX6, 31, ⟨rfl, by decide, fun w hw => hts w (iw_X6 w hw), Or.inl (hts _ kf_X6_125)⟩, rfl, by decide +kernel⟩, List.forall_mem_cons.mpr ⟨⟨RX6, TX6, 31, ⟨rfl, by decide, fun w hw => hts w (iw_X6 w hw), Or.inl (hts _ kf_X6_136)⟩, rfl, by decide +kernel⟩, List.forall_mem_cons.mpr ⟨⟨RX6, TX6, 31, ⟨rfl, by decide, fun w hw => hts w (iw_X6 w hw), Or.inl (hts _ kf_X6_149)⟩, rfl, by decide +kernel⟩, fun _ q => absurd q List.not_mem_nil⟩⟩⟩⟩⟩⟩⟩, List.forall_mem_cons.mpr ⟨hts _ kk_X6_93, List.forall_mem_cons.mpr ⟨hts _ kk_X6_98, List.forall_mem_cons.mpr ⟨hts _ kk_X6_107, List.forall_mem_cons.mpr ⟨hts _ kk_X6_170, List.forall_mem_cons.mpr ⟨hts _ kk_X6_177, fun _ q => absurd q List.not_mem_nil⟩⟩⟩⟩⟩⟩
end
section
section
variable {p : Program} {l : Launch} {e : Env} {R : Room} {s : State} {m : MethodId} {args : Array Value} {below : List Frame} {meth : Method} {c : Code} {cells slots : Nat} {Q : State → Prop} {D : va_G} {g : Nat → Nat} {cI cZ : ClassId} {A : Nat → Prop} {R0 : RS}
def L_X0_has : List CE := [(0, .iload_n 1, 1, [], 0), (1, .ifCond .lt 15, 4, [16], 0), (4, .iload_n 1, 5, [], 0), (5, .aload_n 0, 6, [], 0), (6, .getfield 30, 9, [0, 6], 0), (9, .if_icmp .ge 7, 12, [16], 0), (12, .iconst 1, 13, [], 1), (13, .goto 4, 16, [17], 0), (16, .iconst 0, 17, [], 0), (17, .ireturn, 18, [1], 0)]
theorem ok_X0_has : ∀ q ∈ L_X0_has, rok cX0_has 2 1 q = true := by decide +kernel
theorem fk_X0_has : ∀ q ∈ L_X0_has, fck FT_X0 PT_X0 KT_X0 q = true := by decide +kernel
noncomputable def cs_X0_has : List CT := []
noncomputable def m_X0_has : MT := fun As S => brn xT cs_X0_has L_X0_has [] (dsp []) 12 [] 0 (zipN 0 As) [] S
theorem s_X0_has (M : xM p l e R s m args below meth c cells slots Q D xT g cI cZ A 2 cX0_has RX0 1 cs_X0_has L_X0_has R0) {As : List AV} {S : XS} (h : m_X0_has As S = some R0) : xG p l e R s m args below meth c cells slots Q D xT g cI cZ A 2 0 (zipN 0 As) [] S := xa_blk M (fun _ q => absurd q List.not_mem_nil) h
set_option maxRecDepth 20000 in
theorem c_X0_has {l : Launch} {D : va_G} {g : Nat → Nat} {cI cZ : ClassId} {A : Nat → Prop} (hD : ∀ S, va_D A (ww xT g cI cZ S)) : xMet l D xT g cI cZ A yX0_has (wm yX0_has cX0_has 2 1) { frames := 0, cells := 0, slots := 0, locals := 0 } 2 m_X0_has :=
  xa_met (ft := FT_X0) (pt := PT_X0) (kt := KT_X0) (cs := cs_X0_has) (L := L_X0_has) hD (by decide) (by decide) ok_X0_has fk_X0_has fa_X0 (fun p e s m args below meth c Q R0 C0 hts hN => all_get (fun _ q => absurd q List.not_mem_nil)) (fun p e s m args below meth c Q R0 As S M h => s_X0_has M h)
def L_X0_isAt : List CE := [(0, .iconst 0, 1, [], 0), (1, .istore_n 2, 2, [], 0), (2, .iload_n 2, 3, [], 0), (3, .aload_n 0, 4, [], 0), (4, .getfield 30, 7, [0, 6], 0), (7, .if_icmp .ge 21, 10, [28], 0), (10, .aload_n 0, 11, [], 0), (11, .getfield 9, 14, [0, 0], 0), (14, .iload_n 2, 15, [], 0), (15, .iaload, 16, [], 0), (16, .iload_n 1, 17, [], 0), (17, .if_icmp .ne 5, 20, [22], 0), (20, .iconst 1, 21, [], 1), (21, .ireturn, 22, [1], 0), (22, .iinc 2 1, 25, [], 1), (25, .goto (-23), 28, [2], 0), (28, .iconst 0, 29, [], 0), (29, .ireturn, 30, [1], 0)]
theorem ok_X0_isAt : ∀ q ∈ L_X0_isAt, rok cX0_isAt 3 1 q = true := by decide +kernel
theorem fk_X0_isAt : ∀ q ∈ L_X0_isAt, fck FT_X0 PT_X0 KT_X0 q = true := by decide +kernel
noncomputable def cs_X0_isAt : List CT := []
noncomputable def b_X0_isAt_2 : Nat → BT
  | 0 => fun _ _ _ => none
  | n + 1 => fun lv st S => brn xT cs_X0_isAt L_X0_isAt [2] (dsp [(2, [0, 1, 2], b_X0_isAt_2 n)]) 20 [] 2 lv st S
theorem s_X0_isAt_2 (M : xM p l e R s m args below meth c cells slots Q D xT g cI cZ A 3 cX0_isAt RX0 1 cs_X0_isAt L_X0_isAt R0) : ∀ n lv st S, b_X0_isAt_2 n lv st S = some R0 → xG p l e R s m args below meth c cells slots Q D xT g cI cZ A 3 2 lv st S := by
  intro n
  induction n with
  | zero => intro lv st S h; cases h
  | succ n ih => intro lv st S h; exact xa_blk M (List.forall_mem_cons.mpr ⟨fun lv st S h => (ih) lv st S h, fun _ q => absurd q List.not_mem_nil⟩) h
noncomputable def m_X0_isAt : MT := fun As S => brn xT cs_X0_isAt L_X0_isAt [2] (dsp [(2, [0, 1, 2], b_X0_isAt_2 fu)]) 20 [] 0 (zipN 0 As) [] S
theorem s_X0_isAt (M : xM p l e R s m args below meth c cells slots Q D xT g cI cZ A 3 cX0_isAt RX0 1 cs_X0_isAt L_X0_isAt R0) {As : List AV} {S : XS} (h : m_X0_isAt As S = some R0) : xG p l e R s m args below meth c cells slots Q D xT g cI cZ A 3 0 (zipN 0 As) [] S := xa_blk M (List.forall_mem_cons.mpr ⟨fun lv st S h => (s_X0_isAt_2 M fu) lv st S h, fun _ q => absurd q List.not_mem_nil⟩) h
set_option maxRecDepth 20000 in
theorem c_X0_isAt {l : Launch} {D : va_G} {g : Nat → Nat} {cI cZ : ClassId} {A : Nat → Prop} (hD : ∀ S, va_D A (ww xT g cI cZ S)) : xMet l D xT g cI cZ A yX0_isAt (wm yX0_isAt cX0_isAt 3 1) { frames := 0, cells := 0, slots := 0, locals := 0 } 2 m_X0_isAt :=
  xa_met (ft := FT_X0) (pt := PT_X0) (kt := KT_X0) (cs := cs_X0_isAt) (L := L_X0_isAt) hD (by decide) (by decide) ok_X0_isAt fk_X0_isAt fa_X0 (fun p e s m args below meth c Q R0 C0 hts hN => all_get (fun _ q => absurd q List.not_mem_nil)) (fun p e s m args below meth c Q R0 As S M h => s_X0_isAt M h)
def L_X0_add : List CE := [(0, .aload_n 0, 1, [], 0), (1, .getfield 30, 4, [0, 6], 0), (4, .istore 7, 6, [], 0), (6, .aload_n 0, 7, [], 0), (7, .getfield 9, 10, [0, 0], 0), (10, .iload 7, 12, [], 0), (12, .iload_n 1, 13, [], 0), (13, .iastore, 14, [], 0), (14, .aload_n 0, 15, [], 0), (15, .getfield 15, 18, [0, 1], 0), (18, .iload 7, 20, [], 0), (20, .iload_n 2, 21, [], 0), (21, .iastore, 22, [], 0), (22, .aload_n 0, 23, [], 0), (23, .getfield 18, 26, [0, 2], 0), (26, .iload 7, 28, [], 0), (28, .iload_n 3, 29, [], 0), (29, .iastore, 30, [], 0), (30, .aload_n 0, 31, [], 0), (31, .getfield 21, 34, [0, 3], 0), (34, .iload 7, 36, [], 0), (36, .iload 4, 38, [], 0), (38, .iastore, 39, [], 0), (39, .aload_n 0, 40, [], 0), (40, .getfield 24, 43, [0, 4], 0), (43, .iload 7, 45, [], 0), (45, .iload 5, 47, [], 0), (47, .iastore, 48, [], 0), (48, .aload_n 0, 49, [], 0), (49, .getfield 27, 52, [0, 5], 0), (52, .iload 7, 54, [], 0), (54, .iload 6, 56, [], 0), (56, .iastore, 57, [], 0), (57, .aload_n 0, 58, [], 0), (58, .dup, 59, [], 0), (59, .getfield 30, 62, [0, 6], 0), (62, .iconst 1, 63, [], 1), (63, .iadd, 64, [], 0), (64, .putfield 30, 67, [0, 6, 0], 0), (67, .iload 7, 69, [], 0), (69, .ireturn, 70, [0], 0)]
theorem ok_X0_add : ∀ q ∈ L_X0_add, rok cX0_add 8 0 q = true := by decide +kernel
theorem fk_X0_add : ∀ q ∈ L_X0_add, fck FT_X0 PT_X0 KT_X0 q = true := by decide +kernel
noncomputable def cs_X0_add : List CT := []
noncomputable def m_X0_add : MT := fun As S => brn xT cs_X0_add L_X0_add [] (dsp []) 43 [] 0 (zipN 0 As) [] S
theorem s_X0_add (M : xM p l e R s m args below meth c cells slots Q D xT g cI cZ A 8 cX0_add RX0 0 cs_X0_add L_X0_add R0) {As : List AV} {S : XS} (h : m_X0_add As S = some R0) : xG p l e R s m args below meth c cells slots Q D xT g cI cZ A 8 0 (zipN 0 As) [] S := xa_blk M (fun _ q => absurd q List.not_mem_nil) h
set_option maxRecDepth 20000 in
theorem c_X0_add {l : Launch} {D : va_G} {g : Nat → Nat} {cI cZ : ClassId} {A : Nat → Prop} (hD : ∀ S, va_D A (ww xT g cI cZ S)) : xMet l D xT g cI cZ A yX0_add (wm yX0_add cX0_add 8 0) { frames := 0, cells := 0, slots := 0, locals := 0 } 7 m_X0_add :=
  xa_met (ft := FT_X0) (pt := PT_X0) (kt := KT_X0) (cs := cs_X0_add) (L := L_X0_add) hD (by decide) (by decide) ok_X0_add fk_X0_add fa_X0 (fun p e s m args below meth c Q R0 C0 hts hN => all_get (fun _ q => absurd q List.not_mem_nil)) (fun p e s m args below meth c Q R0 As S M h => s_X0_add M h)
def L_X0_next : List CE := [(0, .iconst (-1), 1, [], (-1)), (1, .istore_n 2, 2, [], 0), (2, .iconst 0, 3, [], 0), (3, .istore_n 3, 4, [], 0), (4, .iload_n 3, 5, [], 0), (5, .aload_n 0, 6, [], 0), (6, .getfield 30, 9, [0, 6], 0), (9, .if_icmp .ge 45, 12, [54], 0), (12, .aload_n 0, 13, [], 0), (13, .getfield 9, 16, [0, 0], 0), (16, .iload_n 3, 17, [], 0), (17, .iaload, 18, [], 0), (18, .aload_n 0, 19, [], 0), (19, .getfield 9, 22, [0, 0], 0), (22, .iload_n 1, 23, [], 0), (23, .iaload, 24, [], 0), (24, .if_icmp .le 24, 27, [48], 0), (27, .iload_n 2, 28, [], 0), (28, .ifCond .lt 18, 31, [46], 0), (31, .aload_n 0, 32, [], 0), (32, .getfield 9, 35, [0, 0], 0), (35, .iload_n 3, 36, [], 0), (36, .iaload, 37, [], 0), (37, .aload_n 0, 38, [], 0), (38, .getfield 9, 41, [0, 0], 0), (41, .iload_n 2, 42, [], 0), (42, .iaload, 43, [], 0), (43, .if_icmp .ge 5, 46, [48], 0), (46, .iload_n 3, 47, [], 0), (47, .istore_n 2, 48, [], 0), (48, .iinc 3 1, 51, [], 1), (51, .goto (-47), 54, [4], 0), (54, .iload_n 2, 55, [], 0), (55, .ireturn, 56, [0], 0)]
theorem ok_X0_next : ∀ q ∈ L_X0_next, rok cX0_next 4 0 q = true := by decide +kernel
theorem fk_X0_next : ∀ q ∈ L_X0_next, fck FT_X0 PT_X0 KT_X0 q = true := by decide +kernel
noncomputable def cs_X0_next : List CT := []
noncomputable def b_X0_next_4 : Nat → BT
  | 0 => fun _ _ _ => none
  | n + 1 => fun lv st S => brn xT cs_X0_next L_X0_next [4] (dsp [(4, [0, 1, 2, 3], b_X0_next_4 n)]) 36 [] 4 lv st S
theorem s_X0_next_4 (M : xM p l e R s m args below meth c cells slots Q D xT g cI cZ A 4 cX0_next RX0 0 cs_X0_next L_X0_next R0) : ∀ n lv st S, b_X0_next_4 n lv st S = some R0 → xG p l e R s m args below meth c cells slots Q D xT g cI cZ A 4 4 lv st S := by
  intro n
  induction n with
  | zero => intro lv st S h; cases h
  | succ n ih => intro lv st S h; exact xa_blk M (List.forall_mem_cons.mpr ⟨fun lv st S h => (ih) lv st S h, fun _ q => absurd q List.not_mem_nil⟩) h
noncomputable def m_X0_next : MT := fun As S => brn xT cs_X0_next L_X0_next [4] (dsp [(4, [0, 1, 2, 3], b_X0_next_4 fu)]) 36 [] 0 (zipN 0 As) [] S
theorem s_X0_next (M : xM p l e R s m args below meth c cells slots Q D xT g cI cZ A 4 cX0_next RX0 0 cs_X0_next L_X0_next R0) {As : List AV} {S : XS} (h : m_X0_next As S = some R0) : xG p l e R s m args below meth c cells slots Q D xT g cI cZ A 4 0 (zipN 0 As) [] S := xa_blk M (List.forall_mem_cons.mpr ⟨fun lv st S h => (s_X0_next_4 M fu) lv st S h, fun _ q => absurd q List.not_mem_nil⟩) h
set_option maxRecDepth 20000 in
theorem c_X0_next {l : Launch} {D : va_G} {g : Nat → Nat} {cI cZ : ClassId} {A : Nat → Prop} (hD : ∀ S, va_D A (ww xT g cI cZ S)) : xMet l D xT g cI cZ A yX0_next (wm yX0_next cX0_next 4 0) { frames := 0, cells := 0, slots := 0, locals := 0 } 2 m_X0_next :=
  xa_met (ft := FT_X0) (pt := PT_X0) (kt := KT_X0) (cs := cs_X0_next) (L := L_X0_next) hD (by decide) (by decide) ok_X0_next fk_X0_next fa_X0 (fun p e s m args below meth c Q R0 C0 hts hN => all_get (fun _ q => absurd q List.not_mem_nil)) (fun p e s m args below meth c Q R0 As S M h => s_X0_next M h)
def L_X0_greatestX : List CE := [(0, .iconst 0, 1, [], 0), (1, .istore_n 1, 2, [], 0), (2, .iconst 0, 3, [], 0), (3, .istore_n 2, 4, [], 0), (4, .iload_n 2, 5, [], 0), (5, .aload_n 0, 6, [], 0), (6, .getfield 30, 9, [0, 6], 0), (9, .if_icmp .ge 20, 12, [29], 0), (12, .iload_n 1, 13, [], 0), (13, .aload_n 0, 14, [], 0), (14, .getfield 9, 17, [0, 0], 0), (17, .iload_n 2, 18, [], 0), (18, .iaload, 19, [], 0), (19, .invokestatic 34, 22, [0], 0), (22, .istore_n 1, 23, [], 0), (23, .iinc 2 1, 26, [], 1), (26, .goto (-22), 29, [4], 0), (29, .iload_n 1, 30, [], 0), (30, .ireturn, 31, [0], 0)]
theorem ok_X0_greatestX : ∀ q ∈ L_X0_greatestX, rok cX0_greatestX 3 0 q = true := by decide +kernel
theorem fk_X0_greatestX : ∀ q ∈ L_X0_greatestX, fck FT_X0 PT_X0 KT_X0 q = true := by decide +kernel
noncomputable def cs_X0_greatestX : List CT := [(true, 34, 2, 1, 0, sem_max)]
noncomputable def b_X0_greatestX_4 : Nat → BT
  | 0 => fun _ _ _ => none
  | n + 1 => fun lv st S => brn xT cs_X0_greatestX L_X0_greatestX [4] (dsp [(4, [0, 1, 2], b_X0_greatestX_4 n)]) 21 [] 4 lv st S
theorem s_X0_greatestX_4 (M : xM p l e R s m args below meth c cells slots Q D xT g cI cZ A 3 cX0_greatestX RX0 0 cs_X0_greatestX L_X0_greatestX R0) : ∀ n lv st S, b_X0_greatestX_4 n lv st S = some R0 → xG p l e R s m args below meth c cells slots Q D xT g cI cZ A 3 4 lv st S := by
  intro n
  induction n with
  | zero => intro lv st S h; cases h
  | succ n ih => intro lv st S h; exact xa_blk M (List.forall_mem_cons.mpr ⟨fun lv st S h => (ih) lv st S h, fun _ q => absurd q List.not_mem_nil⟩) h
noncomputable def m_X0_greatestX : MT := fun As S => brn xT cs_X0_greatestX L_X0_greatestX [4] (dsp [(4, [0, 1, 2], b_X0_greatestX_4 fu)]) 21 [] 0 (zipN 0 As) [] S
theorem s_X0_greatestX (M : xM p l e R s m args below meth c cells slots Q D xT g cI cZ A 3 cX0_greatestX RX0 0 cs_X0_greatestX L_X0_greatestX R0) {As : List AV} {S : XS} (h : m_X0_greatestX As S = some R0) : xG p l e R s m args below meth c cells slots Q D xT g cI cZ A 3 0 (zipN 0 As) [] S := xa_blk M (List.forall_mem_cons.mpr ⟨fun lv st S h => (s_X0_greatestX_4 M fu) lv st S h, fun _ q => absurd q List.not_mem_nil⟩) h
set_option maxRecDepth 20000 in
theorem c_X0_greatestX {l : Launch} {D : va_G} {g : Nat → Nat} {cI cZ : ClassId} {A : Nat → Prop} (hD : ∀ S, va_D A (ww xT g cI cZ S)) : xMet l D xT g cI cZ A yX0_greatestX (wm yX0_greatestX cX0_greatestX 3 0) { frames := 1, cells := 0, slots := 0, locals := 21 } 1 m_X0_greatestX :=
  xa_met (ft := FT_X0) (pt := PT_X0) (kt := KT_X0) (cs := cs_X0_greatestX) (L := L_X0_greatestX) hD (by decide) (by decide) ok_X0_greatestX fk_X0_greatestX fa_X0 (fun p e s m args below meth c Q R0 C0 hts hN => all_get (List.forall_mem_cons.mpr ⟨xcf_max C0 (hts _ (List.mem_cons_of_mem _ km_X0_34)) (hts _ (List.mem_cons_of_mem _ km_s)) (hts _ (List.mem_cons_of_mem _ km_n)) (hts _ (List.mem_cons_of_mem _ km_c)) ⟨by decide, by decide⟩ ⟨Nat.zero_le _, Nat.zero_le _⟩, fun _ q => absurd q List.not_mem_nil⟩)) (fun p e s m args below meth c Q R0 As S M h => s_X0_greatestX M h)
def L_X0_moveBehind : List CE := [(0, .iconst 0, 1, [], 0), (1, .istore_n 3, 2, [], 0), (2, .iload_n 3, 3, [], 0), (3, .aload_n 0, 4, [], 0), (4, .getfield 30, 7, [0, 6], 0), (7, .if_icmp .ge 29, 10, [36], 0), (10, .aload_n 0, 11, [], 0), (11, .getfield 9, 14, [0, 0], 0), (14, .iload_n 3, 15, [], 0), (15, .iaload, 16, [], 0), (16, .iload_n 1, 17, [], 0), (17, .if_icmp .le 13, 20, [30], 0), (20, .aload_n 0, 21, [], 0), (21, .getfield 9, 24, [0, 0], 0), (24, .iload_n 3, 25, [], 0), (25, .dup2, 26, [], 0), (26, .iaload, 27, [], 0), (27, .iload_n 2, 28, [], 0), (28, .iadd, 29, [], 0), (29, .iastore, 30, [], 0), (30, .iinc 3 1, 33, [], 1), (33, .goto (-31), 36, [2], 0), (36, .return_, 37, [], 0)]
theorem ok_X0_moveBehind : ∀ q ∈ L_X0_moveBehind, rok cX0_moveBehind 4 2 q = true := by decide +kernel
theorem fk_X0_moveBehind : ∀ q ∈ L_X0_moveBehind, fck FT_X0 PT_X0 KT_X0 q = true := by decide +kernel
noncomputable def cs_X0_moveBehind : List CT := []
noncomputable def b_X0_moveBehind_2 : Nat → BT
  | 0 => fun _ _ _ => none
  | n + 1 => fun lv st S => brn xT cs_X0_moveBehind L_X0_moveBehind [2] (dsp [(2, [0, 1, 2, 3], b_X0_moveBehind_2 n)]) 25 [] 2 lv st S
theorem s_X0_moveBehind_2 (M : xM p l e R s m args below meth c cells slots Q D xT g cI cZ A 4 cX0_moveBehind RX0 2 cs_X0_moveBehind L_X0_moveBehind R0) : ∀ n lv st S, b_X0_moveBehind_2 n lv st S = some R0 → xG p l e R s m args below meth c cells slots Q D xT g cI cZ A 4 2 lv st S := by
  intro n
  induction n with
  | zero => intro lv st S h; cases h
  | succ n ih => intro lv st S h; exact xa_blk M (List.forall_mem_cons.mpr ⟨fun lv st S h => (ih) lv st S h, fun _ q => absurd q List.not_mem_nil⟩) h
noncomputable def m_X0_moveBehind : MT := fun As S => brn xT cs_X0_moveBehind L_X0_moveBehind [2] (dsp [(2, [0, 1, 2, 3], b_X0_moveBehind_2 fu)]) 25 [] 0 (zipN 0 As) [] S
theorem s_X0_moveBehind (M : xM p l e R s m args below meth c cells slots Q D xT g cI cZ A 4 cX0_moveBehind RX0 2 cs_X0_moveBehind L_X0_moveBehind R0) {As : List AV} {S : XS} (h : m_X0_moveBehind As S = some R0) : xG p l e R s m args below meth c cells slots Q D xT g cI cZ A 4 0 (zipN 0 As) [] S := xa_blk M (List.forall_mem_cons.mpr ⟨fun lv st S h => (s_X0_moveBehind_2 M fu) lv st S h, fun _ q => absurd q List.not_mem_nil⟩) h
set_option maxRecDepth 20000 in
theorem c_X0_moveBehind {l : Launch} {D : va_G} {g : Nat → Nat} {cI cZ : ClassId} {A : Nat → Prop} (hD : ∀ S, va_D A (ww xT g cI cZ S)) : xMet l D xT g cI cZ A yX0_moveBehind (wm yX0_moveBehind cX0_moveBehind 4 2) { frames := 0, cells := 0, slots := 0, locals := 0 } 3 m_X0_moveBehind :=
  xa_met (ft := FT_X0) (pt := PT_X0) (kt := KT_X0) (cs := cs_X0_moveBehind) (L := L_X0_moveBehind) hD (by decide) (by decide) ok_X0_moveBehind fk_X0_moveBehind fa_X0 (fun p e s m args below meth c Q R0 C0 hts hN => all_get (fun _ q => absurd q List.not_mem_nil)) (fun p e s m args below meth c Q R0 As S M h => s_X0_moveBehind M h)
def L_X0_haveBothVoices : List CE := [(0, .iconst 0, 1, [], 0), (1, .istore_n 1, 2, [], 0), (2, .iconst 0, 3, [], 0), (3, .istore_n 2, 4, [], 0), (4, .iload_n 2, 5, [], 0), (5, .aload_n 0, 6, [], 0), (6, .getfield 30, 9, [0, 6], 0), (9, .if_icmp .ge 18, 12, [27], 0), (12, .iload_n 1, 13, [], 0), (13, .aload_n 0, 14, [], 0), (14, .getfield 21, 17, [0, 3], 0), (17, .iload_n 2, 18, [], 0), (18, .iaload, 19, [], 0), (19, .iadd, 20, [], 0), (20, .istore_n 1, 21, [], 0), (21, .iinc 2 1, 24, [], 1), (24, .goto (-20), 27, [4], 0), (27, .iload_n 1, 28, [], 0), (28, .ifCond .le 15, 31, [43], 0), (31, .iload_n 1, 32, [], 0), (32, .aload_n 0, 33, [], 0), (33, .getfield 30, 36, [0, 6], 0), (36, .if_icmp .ge 7, 39, [43], 0), (39, .iconst 1, 40, [], 1), (40, .goto 4, 43, [44], 0), (43, .iconst 0, 44, [], 0), (44, .ireturn, 45, [1], 0)]
theorem ok_X0_haveBothVoices : ∀ q ∈ L_X0_haveBothVoices, rok cX0_haveBothVoices 3 1 q = true := by decide +kernel
theorem fk_X0_haveBothVoices : ∀ q ∈ L_X0_haveBothVoices, fck FT_X0 PT_X0 KT_X0 q = true := by decide +kernel
noncomputable def cs_X0_haveBothVoices : List CT := []
noncomputable def b_X0_haveBothVoices_4 : Nat → BT
  | 0 => fun _ _ _ => none
  | n + 1 => fun lv st S => brn xT cs_X0_haveBothVoices L_X0_haveBothVoices [4] (dsp [(4, [0, 1, 2], b_X0_haveBothVoices_4 n)]) 29 [] 4 lv st S
theorem s_X0_haveBothVoices_4 (M : xM p l e R s m args below meth c cells slots Q D xT g cI cZ A 3 cX0_haveBothVoices RX0 1 cs_X0_haveBothVoices L_X0_haveBothVoices R0) : ∀ n lv st S, b_X0_haveBothVoices_4 n lv st S = some R0 → xG p l e R s m args below meth c cells slots Q D xT g cI cZ A 3 4 lv st S := by
  intro n
  induction n with
  | zero => intro lv st S h; cases h
  | succ n ih => intro lv st S h; exact xa_blk M (List.forall_mem_cons.mpr ⟨fun lv st S h => (ih) lv st S h, fun _ q => absurd q List.not_mem_nil⟩) h
noncomputable def m_X0_haveBothVoices : MT := fun As S => brn xT cs_X0_haveBothVoices L_X0_haveBothVoices [4] (dsp [(4, [0, 1, 2], b_X0_haveBothVoices_4 fu)]) 29 [] 0 (zipN 0 As) [] S
theorem s_X0_haveBothVoices (M : xM p l e R s m args below meth c cells slots Q D xT g cI cZ A 3 cX0_haveBothVoices RX0 1 cs_X0_haveBothVoices L_X0_haveBothVoices R0) {As : List AV} {S : XS} (h : m_X0_haveBothVoices As S = some R0) : xG p l e R s m args below meth c cells slots Q D xT g cI cZ A 3 0 (zipN 0 As) [] S := xa_blk M (List.forall_mem_cons.mpr ⟨fun lv st S h => (s_X0_haveBothVoices_4 M fu) lv st S h, fun _ q => absurd q List.not_mem_nil⟩) h
set_option maxRecDepth 20000 in
theorem c_X0_haveBothVoices {l : Launch} {D : va_G} {g : Nat → Nat} {cI cZ : ClassId} {A : Nat → Prop} (hD : ∀ S, va_D A (ww xT g cI cZ S)) : xMet l D xT g cI cZ A yX0_haveBothVoices (wm yX0_haveBothVoices cX0_haveBothVoices 3 1) { frames := 0, cells := 0, slots := 0, locals := 0 } 1 m_X0_haveBothVoices :=
  xa_met (ft := FT_X0) (pt := PT_X0) (kt := KT_X0) (cs := cs_X0_haveBothVoices) (L := L_X0_haveBothVoices) hD (by decide) (by decide) ok_X0_haveBothVoices fk_X0_haveBothVoices fa_X0 (fun p e s m args below meth c Q R0 C0 hts hN => all_get (fun _ q => absurd q List.not_mem_nil)) (fun p e s m args below meth c Q R0 As S M h => s_X0_haveBothVoices M h)
def L_X1_has : List CE := [(0, .iload_n 1, 1, [], 0), (1, .ifCond .lt 13, 4, [14], 0), (4, .iload_n 1, 5, [], 0), (5, .bipush 10, 7, [], 10), (7, .if_icmp .ge 7, 10, [14], 0), (10, .iconst 1, 11, [], 1), (11, .goto 4, 14, [15], 0), (14, .iconst 0, 15, [], 0), (15, .ireturn, 16, [1], 0)]
theorem ok_X1_has : ∀ q ∈ L_X1_has, rok cX1_has 2 1 q = true := by decide +kernel
theorem fk_X1_has : ∀ q ∈ L_X1_has, fck FT_X1 PT_X1 KT_X1 q = true := by decide +kernel
noncomputable def cs_X1_has : List CT := []
noncomputable def m_X1_has : MT := fun As S => brn xT cs_X1_has L_X1_has [] (dsp []) 11 [] 0 (zipN 0 As) [] S
theorem s_X1_has (M : xM p l e R s m args below meth c cells slots Q D xT g cI cZ A 2 cX1_has RX1 1 cs_X1_has L_X1_has R0) {As : List AV} {S : XS} (h : m_X1_has As S = some R0) : xG p l e R s m args below meth c cells slots Q D xT g cI cZ A 2 0 (zipN 0 As) [] S := xa_blk M (fun _ q => absurd q List.not_mem_nil) h
set_option maxRecDepth 20000 in
theorem c_X1_has {l : Launch} {D : va_G} {g : Nat → Nat} {cI cZ : ClassId} {A : Nat → Prop} (hD : ∀ S, va_D A (ww xT g cI cZ S)) : xMet l D xT g cI cZ A yX1_has (wm yX1_has cX1_has 2 1) { frames := 0, cells := 0, slots := 0, locals := 0 } 2 m_X1_has :=
  xa_met (ft := FT_X1) (pt := PT_X1) (kt := KT_X1) (cs := cs_X1_has) (L := L_X1_has) hD (by decide) (by decide) ok_X1_has fk_X1_has fa_X1 (fun p e s m args below meth c Q R0 C0 hts hN => all_get (fun _ q => absurd q List.not_mem_nil)) (fun p e s m args below meth c Q R0 As S M h => s_X1_has M h)
def L_X1_takes : List CE := [(0, .iload_n 1, 1, [], 0), (1, .ifCond .lt 26, 4, [27], 0), (4, .iload_n 1, 5, [], 0), (5, .bipush 6, 7, [], 6), (7, .if_icmp .ge 20, 10, [27], 0), (10, .iload_n 2, 11, [], 0), (11, .ifCond .lt 16, 14, [27], 0), (14, .iload_n 2, 15, [], 0), (15, .getstatic 16, 18, [40], 0), (18, .iload_n 1, 19, [], 0), (19, .iaload, 20, [], 0), (20, .if_icmp .gt 7, 23, [27], 0), (23, .iconst 1, 24, [], 1), (24, .goto 4, 27, [28], 0), (27, .iconst 0, 28, [], 0), (28, .ireturn, 29, [1], 0)]
theorem ok_X1_takes : ∀ q ∈ L_X1_takes, rok cX1_takes 3 1 q = true := by decide +kernel
theorem fk_X1_takes : ∀ q ∈ L_X1_takes, fck FT_X1 PT_X1 KT_X1 q = true := by decide +kernel
noncomputable def cs_X1_takes : List CT := []
noncomputable def m_X1_takes : MT := fun As S => brn xT cs_X1_takes L_X1_takes [] (dsp []) 18 [] 0 (zipN 0 As) [] S
theorem s_X1_takes (M : xM p l e R s m args below meth c cells slots Q D xT g cI cZ A 3 cX1_takes RX1 1 cs_X1_takes L_X1_takes R0) {As : List AV} {S : XS} (h : m_X1_takes As S = some R0) : xG p l e R s m args below meth c cells slots Q D xT g cI cZ A 3 0 (zipN 0 As) [] S := xa_blk M (fun _ q => absurd q List.not_mem_nil) h
set_option maxRecDepth 20000 in
theorem c_X1_takes {l : Launch} {D : va_G} {g : Nat → Nat} {cI cZ : ClassId} {A : Nat → Prop} (hD : ∀ S, va_D A (ww xT g cI cZ S)) : xMet l D xT g cI cZ A yX1_takes (wm yX1_takes cX1_takes 3 1) { frames := 0, cells := 0, slots := 0, locals := 0 } 3 m_X1_takes :=
  xa_met (ft := FT_X1) (pt := PT_X1) (kt := KT_X1) (cs := cs_X1_takes) (L := L_X1_takes) hD (by decide) (by decide) ok_X1_takes fk_X1_takes fa_X1 (fun p e s m args below meth c Q R0 C0 hts hN => all_get (fun _ q => absurd q List.not_mem_nil)) (fun p e s m args below meth c Q R0 As S M h => s_X1_takes M h)
def L_X1_get : List CE := [(0, .aload_n 0, 1, [], 0), (1, .getfield 9, 4, [1, 0], 0), (4, .iload_n 1, 5, [], 0), (5, .bipush 6, 7, [], 6), (7, .imul, 8, [], 0), (8, .iload_n 2, 9, [], 0), (9, .iadd, 10, [], 0), (10, .iaload, 11, [], 0), (11, .ireturn, 12, [0], 0)]
theorem ok_X1_get : ∀ q ∈ L_X1_get, rok cX1_get 3 0 q = true := by decide +kernel
theorem fk_X1_get : ∀ q ∈ L_X1_get, fck FT_X1 PT_X1 KT_X1 q = true := by decide +kernel
noncomputable def cs_X1_get : List CT := []
noncomputable def m_X1_get : MT := fun As S => brn xT cs_X1_get L_X1_get [] (dsp []) 11 [] 0 (zipN 0 As) [] S
theorem s_X1_get (M : xM p l e R s m args below meth c cells slots Q D xT g cI cZ A 3 cX1_get RX1 0 cs_X1_get L_X1_get R0) {As : List AV} {S : XS} (h : m_X1_get As S = some R0) : xG p l e R s m args below meth c cells slots Q D xT g cI cZ A 3 0 (zipN 0 As) [] S := xa_blk M (fun _ q => absurd q List.not_mem_nil) h
set_option maxRecDepth 20000 in
theorem c_X1_get {l : Launch} {D : va_G} {g : Nat → Nat} {cI cZ : ClassId} {A : Nat → Prop} (hD : ∀ S, va_D A (ww xT g cI cZ S)) : xMet l D xT g cI cZ A yX1_get (wm yX1_get cX1_get 3 0) { frames := 0, cells := 0, slots := 0, locals := 0 } 3 m_X1_get :=
  xa_met (ft := FT_X1) (pt := PT_X1) (kt := KT_X1) (cs := cs_X1_get) (L := L_X1_get) hD (by decide) (by decide) ok_X1_get fk_X1_get fa_X1 (fun p e s m args below meth c Q R0 C0 hts hN => all_get (fun _ q => absurd q List.not_mem_nil)) (fun p e s m args below meth c Q R0 As S M h => s_X1_get M h)
def L_X1_change : List CE := [(0, .aload_n 0, 1, [], 0), (1, .iload_n 1, 2, [], 0), (2, .iload_n 2, 3, [], 0), (3, .invokevirtual 19, 6, [0], 0), (6, .istore 4, 8, [], 0), (8, .aload_n 0, 9, [], 0), (9, .getfield 9, 12, [1, 0], 0), (12, .iload_n 1, 13, [], 0), (13, .bipush 6, 15, [], 6), (15, .imul, 16, [], 0), (16, .iload_n 2, 17, [], 0), (17, .iadd, 18, [], 0), (18, .iload_n 3, 19, [], 0), (19, .iastore, 20, [], 0), (20, .iload 4, 22, [], 0), (22, .ireturn, 23, [0], 0)]
theorem ok_X1_change : ∀ q ∈ L_X1_change, rok cX1_change 5 0 q = true := by decide +kernel
theorem fk_X1_change : ∀ q ∈ L_X1_change, fck FT_X1 PT_X1 KT_X1 q = true := by decide +kernel
noncomputable def cs_X1_change : List CT := [(false, 19, 3, 1, 1, m_X1_get)]
noncomputable def m_X1_change : MT := fun As S => brn xT cs_X1_change L_X1_change [] (dsp []) 18 [] 0 (zipN 0 As) [] S
theorem s_X1_change (M : xM p l e R s m args below meth c cells slots Q D xT g cI cZ A 5 cX1_change RX1 0 cs_X1_change L_X1_change R0) {As : List AV} {S : XS} (h : m_X1_change As S = some R0) : xG p l e R s m args below meth c cells slots Q D xT g cI cZ A 5 0 (zipN 0 As) [] S := xa_blk M (fun _ q => absurd q List.not_mem_nil) h
set_option maxRecDepth 20000 in
theorem c_X1_change {l : Launch} {D : va_G} {g : Nat → Nat} {cI cZ : ClassId} {A : Nat → Prop} (hD : ∀ S, va_D A (ww xT g cI cZ S)) : xMet l D xT g cI cZ A yX1_change (wm yX1_change cX1_change 5 0) { frames := 1, cells := 0, slots := 0, locals := 22 } 4 m_X1_change :=
  xa_met (ft := FT_X1) (pt := PT_X1) (kt := KT_X1) (cs := cs_X1_change) (L := L_X1_change) hD (by decide) (by decide) ok_X1_change fk_X1_change fa_X1 (fun p e s m args below meth c Q R0 C0 hts hN => all_get (List.forall_mem_cons.mpr ⟨xcf_V (C := RX1) C0 hts hN (c_X1_get hD) (good_V kl_X1_19 ki_X1_get ks_X1_get kn_X1 kc_X1_get) rfl ⟨rfl, rfl⟩ rfl (by decide +kernel) ⟨by decide, by decide⟩ ⟨Nat.zero_le _, Nat.zero_le _⟩, fun _ q => absurd q List.not_mem_nil⟩)) (fun p e s m args below meth c Q R0 As S M h => s_X1_change M h)
def L_X1_liesFromX : List CE := [(0, .aload_n 0, 1, [], 0), (1, .iload_n 1, 2, [], 0), (2, .iconst 2, 3, [], 2), (3, .invokevirtual 19, 6, [0], 0), (6, .iconst 1, 7, [], 1), (7, .if_icmp .ne 7, 10, [14], 0), (10, .iconst 1, 11, [], 1), (11, .goto 4, 14, [15], 0), (14, .iconst 0, 15, [], 0), (15, .ireturn, 16, [1], 0)]
theorem ok_X1_liesFromX : ∀ q ∈ L_X1_liesFromX, rok cX1_liesFromX 2 1 q = true := by decide +kernel
theorem fk_X1_liesFromX : ∀ q ∈ L_X1_liesFromX, fck FT_X1 PT_X1 KT_X1 q = true := by decide +kernel
noncomputable def cs_X1_liesFromX : List CT := [(false, 19, 3, 1, 1, m_X1_get)]
noncomputable def m_X1_liesFromX : MT := fun As S => brn xT cs_X1_liesFromX L_X1_liesFromX [] (dsp []) 12 [] 0 (zipN 0 As) [] S
theorem s_X1_liesFromX (M : xM p l e R s m args below meth c cells slots Q D xT g cI cZ A 2 cX1_liesFromX RX1 1 cs_X1_liesFromX L_X1_liesFromX R0) {As : List AV} {S : XS} (h : m_X1_liesFromX As S = some R0) : xG p l e R s m args below meth c cells slots Q D xT g cI cZ A 2 0 (zipN 0 As) [] S := xa_blk M (fun _ q => absurd q List.not_mem_nil) h
set_option maxRecDepth 20000 in
theorem c_X1_liesFromX {l : Launch} {D : va_G} {g : Nat → Nat} {cI cZ : ClassId} {A : Nat → Prop} (hD : ∀ S, va_D A (ww xT g cI cZ S)) : xMet l D xT g cI cZ A yX1_liesFromX (wm yX1_liesFromX cX1_liesFromX 2 1) { frames := 1, cells := 0, slots := 0, locals := 22 } 2 m_X1_liesFromX :=
  xa_met (ft := FT_X1) (pt := PT_X1) (kt := KT_X1) (cs := cs_X1_liesFromX) (L := L_X1_liesFromX) hD (by decide) (by decide) ok_X1_liesFromX fk_X1_liesFromX fa_X1 (fun p e s m args below meth c Q R0 C0 hts hN => all_get (List.forall_mem_cons.mpr ⟨xcf_V (C := RX1) C0 hts hN (c_X1_get hD) (good_V kl_X1_19 ki_X1_get ks_X1_get kn_X1 kc_X1_get) rfl ⟨rfl, rfl⟩ rfl (by decide +kernel) ⟨by decide, by decide⟩ ⟨Nat.zero_le _, Nat.zero_le _⟩, fun _ q => absurd q List.not_mem_nil⟩)) (fun p e s m args below meth c Q R0 As S M h => s_X1_liesFromX M h)
def L_X1_isInRow : List CE := [(0, .aload_n 0, 1, [], 0), (1, .iload_n 1, 2, [], 0), (2, .iconst 4, 3, [], 4), (3, .invokevirtual 19, 6, [0], 0), (6, .iconst 1, 7, [], 1), (7, .if_icmp .ne 7, 10, [14], 0), (10, .iconst 1, 11, [], 1), (11, .goto 4, 14, [15], 0), (14, .iconst 0, 15, [], 0), (15, .ireturn, 16, [1], 0)]
theorem ok_X1_isInRow : ∀ q ∈ L_X1_isInRow, rok cX1_isInRow 2 1 q = true := by decide +kernel
theorem fk_X1_isInRow : ∀ q ∈ L_X1_isInRow, fck FT_X1 PT_X1 KT_X1 q = true := by decide +kernel
noncomputable def cs_X1_isInRow : List CT := [(false, 19, 3, 1, 1, m_X1_get)]
noncomputable def m_X1_isInRow : MT := fun As S => brn xT cs_X1_isInRow L_X1_isInRow [] (dsp []) 12 [] 0 (zipN 0 As) [] S
theorem s_X1_isInRow (M : xM p l e R s m args below meth c cells slots Q D xT g cI cZ A 2 cX1_isInRow RX1 1 cs_X1_isInRow L_X1_isInRow R0) {As : List AV} {S : XS} (h : m_X1_isInRow As S = some R0) : xG p l e R s m args below meth c cells slots Q D xT g cI cZ A 2 0 (zipN 0 As) [] S := xa_blk M (fun _ q => absurd q List.not_mem_nil) h
set_option maxRecDepth 20000 in
theorem c_X1_isInRow {l : Launch} {D : va_G} {g : Nat → Nat} {cI cZ : ClassId} {A : Nat → Prop} (hD : ∀ S, va_D A (ww xT g cI cZ S)) : xMet l D xT g cI cZ A yX1_isInRow (wm yX1_isInRow cX1_isInRow 2 1) { frames := 1, cells := 0, slots := 0, locals := 22 } 2 m_X1_isInRow :=
  xa_met (ft := FT_X1) (pt := PT_X1) (kt := KT_X1) (cs := cs_X1_isInRow) (L := L_X1_isInRow) hD (by decide) (by decide) ok_X1_isInRow fk_X1_isInRow fa_X1 (fun p e s m args below meth c Q R0 C0 hts hN => all_get (List.forall_mem_cons.mpr ⟨xcf_V (C := RX1) C0 hts hN (c_X1_get hD) (good_V kl_X1_19 ki_X1_get ks_X1_get kn_X1 kc_X1_get) rfl ⟨rfl, rfl⟩ rfl (by decide +kernel) ⟨by decide, by decide⟩ ⟨Nat.zero_le _, Nat.zero_le _⟩, fun _ q => absurd q List.not_mem_nil⟩)) (fun p e s m args below meth c Q R0 As S M h => s_X1_isInRow M h)
def L_X1_rank : List CE := [(0, .aload_n 0, 1, [], 0), (1, .iload_n 1, 2, [], 0), (2, .iconst 5, 3, [], 5), (3, .invokevirtual 19, 6, [0], 0), (6, .getstatic 16, 9, [40], 0), (9, .iconst 0, 10, [], 0), (10, .iaload, 11, [], 0), (11, .iconst 1, 12, [], 1), (12, .iadd, 13, [], 0), (13, .imul, 14, [], 0), (14, .aload_n 0, 15, [], 0), (15, .iload_n 1, 16, [], 0), (16, .iconst 0, 17, [], 0), (17, .invokevirtual 19, 20, [0], 0), (20, .iadd, 21, [], 0), (21, .ireturn, 22, [0], 0)]
theorem ok_X1_rank : ∀ q ∈ L_X1_rank, rok cX1_rank 2 0 q = true := by decide +kernel
theorem fk_X1_rank : ∀ q ∈ L_X1_rank, fck FT_X1 PT_X1 KT_X1 q = true := by decide +kernel
noncomputable def cs_X1_rank : List CT := [(false, 19, 3, 1, 1, m_X1_get)]
noncomputable def m_X1_rank : MT := fun As S => brn xT cs_X1_rank L_X1_rank [] (dsp []) 18 [] 0 (zipN 0 As) [] S
theorem s_X1_rank (M : xM p l e R s m args below meth c cells slots Q D xT g cI cZ A 2 cX1_rank RX1 0 cs_X1_rank L_X1_rank R0) {As : List AV} {S : XS} (h : m_X1_rank As S = some R0) : xG p l e R s m args below meth c cells slots Q D xT g cI cZ A 2 0 (zipN 0 As) [] S := xa_blk M (fun _ q => absurd q List.not_mem_nil) h
set_option maxRecDepth 20000 in
theorem c_X1_rank {l : Launch} {D : va_G} {g : Nat → Nat} {cI cZ : ClassId} {A : Nat → Prop} (hD : ∀ S, va_D A (ww xT g cI cZ S)) : xMet l D xT g cI cZ A yX1_rank (wm yX1_rank cX1_rank 2 0) { frames := 1, cells := 0, slots := 0, locals := 22 } 2 m_X1_rank :=
  xa_met (ft := FT_X1) (pt := PT_X1) (kt := KT_X1) (cs := cs_X1_rank) (L := L_X1_rank) hD (by decide) (by decide) ok_X1_rank fk_X1_rank fa_X1 (fun p e s m args below meth c Q R0 C0 hts hN => all_get (List.forall_mem_cons.mpr ⟨xcf_V (C := RX1) C0 hts hN (c_X1_get hD) (good_V kl_X1_19 ki_X1_get ks_X1_get kn_X1 kc_X1_get) rfl ⟨rfl, rfl⟩ rfl (by decide +kernel) ⟨by decide, by decide⟩ ⟨Nat.zero_le _, Nat.zero_le _⟩, fun _ q => absurd q List.not_mem_nil⟩)) (fun p e s m args below meth c Q R0 As S M h => s_X1_rank M h)
def L_X2_has : List CE := [(0, .iload_n 1, 1, [], 0), (1, .ifCond .lt 24, 4, [25], 0), (4, .iload_n 1, 5, [], 0), (5, .aload_n 0, 6, [], 0), (6, .getfield 46, 9, [2, 11], 0), (9, .if_icmp .ge 16, 12, [25], 0), (12, .aload_n 0, 13, [], 0), (13, .getfield 24, 16, [2, 4], 0), (16, .iload_n 1, 17, [], 0), (17, .baload, 18, [], 0), (18, .ifCond .ne 7, 21, [25], 0), (21, .iconst 1, 22, [], 1), (22, .goto 4, 25, [26], 0), (25, .iconst 0, 26, [], 0), (26, .ireturn, 27, [1], 0)]
theorem ok_X2_has : ∀ q ∈ L_X2_has, rok cX2_has 2 1 q = true := by decide +kernel
theorem fk_X2_has : ∀ q ∈ L_X2_has, fck FT_X2 PT_X2 KT_X2 q = true := by decide +kernel
noncomputable def cs_X2_has : List CT := []
noncomputable def m_X2_has : MT := fun As S => brn xT cs_X2_has L_X2_has [] (dsp []) 17 [] 0 (zipN 0 As) [] S
theorem s_X2_has (M : xM p l e R s m args below meth c cells slots Q D xT g cI cZ A 2 cX2_has RX2 1 cs_X2_has L_X2_has R0) {As : List AV} {S : XS} (h : m_X2_has As S = some R0) : xG p l e R s m args below meth c cells slots Q D xT g cI cZ A 2 0 (zipN 0 As) [] S := xa_blk M (fun _ q => absurd q List.not_mem_nil) h
set_option maxRecDepth 20000 in
theorem c_X2_has {l : Launch} {D : va_G} {g : Nat → Nat} {cI cZ : ClassId} {A : Nat → Prop} (hD : ∀ S, va_D A (ww xT g cI cZ S)) : xMet l D xT g cI cZ A yX2_has (wm yX2_has cX2_has 2 1) { frames := 0, cells := 0, slots := 0, locals := 0 } 2 m_X2_has :=
  xa_met (ft := FT_X2) (pt := PT_X2) (kt := KT_X2) (cs := cs_X2_has) (L := L_X2_has) hD (by decide) (by decide) ok_X2_has fk_X2_has fa_X2 (fun p e s m args below meth c Q R0 C0 hts hN => all_get (fun _ q => absurd q List.not_mem_nil)) (fun p e s m args below meth c Q R0 As S M h => s_X2_has M h)
def L_X2_add : List CE := [(0, .aload_n 0, 1, [], 0), (1, .getfield 46, 4, [2, 11], 0), (4, .istore 5, 6, [], 0), (6, .aload_n 0, 7, [], 0), (7, .getfield 9, 10, [2, 0], 0), (10, .iload 5, 12, [], 0), (12, .iload_n 1, 13, [], 0), (13, .iastore, 14, [], 0), (14, .aload_n 0, 15, [], 0), (15, .getfield 15, 18, [2, 1], 0), (18, .iload 5, 20, [], 0), (20, .iload_n 2, 21, [], 0), (21, .iastore, 22, [], 0), (22, .aload_n 0, 23, [], 0), (23, .getfield 18, 26, [2, 2], 0), (26, .iload 5, 28, [], 0), (28, .iload_n 3, 29, [], 0), (29, .iastore, 30, [], 0), (30, .aload_n 0, 31, [], 0), (31, .getfield 21, 34, [2, 3], 0), (34, .iload 5, 36, [], 0), (36, .iload 4, 38, [], 0), (38, .iastore, 39, [], 0), (39, .aload_n 0, 40, [], 0), (40, .dup, 41, [], 0), (41, .getfield 46, 44, [2, 11], 0), (44, .iconst 1, 45, [], 1), (45, .iadd, 46, [], 0), (46, .putfield 46, 49, [2, 11, 0], 0), (49, .iload 5, 51, [], 0), (51, .ireturn, 52, [0], 0)]
theorem ok_X2_add : ∀ q ∈ L_X2_add, rok cX2_add 6 0 q = true := by decide +kernel
theorem fk_X2_add : ∀ q ∈ L_X2_add, fck FT_X2 PT_X2 KT_X2 q = true := by decide +kernel
noncomputable def cs_X2_add : List CT := []
noncomputable def m_X2_add : MT := fun As S => brn xT cs_X2_add L_X2_add [] (dsp []) 33 [] 0 (zipN 0 As) [] S
theorem s_X2_add (M : xM p l e R s m args below meth c cells slots Q D xT g cI cZ A 6 cX2_add RX2 0 cs_X2_add L_X2_add R0) {As : List AV} {S : XS} (h : m_X2_add As S = some R0) : xG p l e R s m args below meth c cells slots Q D xT g cI cZ A 6 0 (zipN 0 As) [] S := xa_blk M (fun _ q => absurd q List.not_mem_nil) h
set_option maxRecDepth 20000 in
theorem c_X2_add {l : Launch} {D : va_G} {g : Nat → Nat} {cI cZ : ClassId} {A : Nat → Prop} (hD : ∀ S, va_D A (ww xT g cI cZ S)) : xMet l D xT g cI cZ A yX2_add (wm yX2_add cX2_add 6 0) { frames := 0, cells := 0, slots := 0, locals := 0 } 5 m_X2_add :=
  xa_met (ft := FT_X2) (pt := PT_X2) (kt := KT_X2) (cs := cs_X2_add) (L := L_X2_add) hD (by decide) (by decide) ok_X2_add fk_X2_add fa_X2 (fun p e s m args below meth c Q R0 C0 hts hN => all_get (fun _ q => absurd q List.not_mem_nil)) (fun p e s m args below meth c Q R0 As S M h => s_X2_add M h)
def L_X2_countThere : List CE := [(0, .iconst 0, 1, [], 0), (1, .istore_n 1, 2, [], 0), (2, .iconst 0, 3, [], 0), (3, .istore_n 2, 4, [], 0), (4, .iload_n 2, 5, [], 0), (5, .aload_n 0, 6, [], 0), (6, .getfield 46, 9, [2, 11], 0), (9, .if_icmp .ge 26, 12, [35], 0), (12, .iload_n 1, 13, [], 0), (13, .aload_n 0, 14, [], 0), (14, .getfield 24, 17, [2, 4], 0), (17, .iload_n 2, 18, [], 0), (18, .baload, 19, [], 0), (19, .ifCond .eq 7, 22, [26], 0), (22, .iconst 0, 23, [], 0), (23, .goto 4, 26, [27], 0), (26, .iconst 1, 27, [], 1), (27, .iadd, 28, [], 0), (28, .istore_n 1, 29, [], 0), (29, .iinc 2 1, 32, [], 1), (32, .goto (-28), 35, [4], 0), (35, .iload_n 1, 36, [], 0), (36, .ireturn, 37, [0], 0)]
theorem ok_X2_countThere : ∀ q ∈ L_X2_countThere, rok cX2_countThere 3 0 q = true := by decide +kernel
theorem fk_X2_countThere : ∀ q ∈ L_X2_countThere, fck FT_X2 PT_X2 KT_X2 q = true := by decide +kernel
noncomputable def cs_X2_countThere : List CT := []
noncomputable def b_X2_countThere_4 : Nat → BT
  | 0 => fun _ _ _ => none
  | n + 1 => fun lv st S => brn xT cs_X2_countThere L_X2_countThere [4] (dsp [(4, [0, 1, 2], b_X2_countThere_4 n)]) 25 [] 4 lv st S
theorem s_X2_countThere_4 (M : xM p l e R s m args below meth c cells slots Q D xT g cI cZ A 3 cX2_countThere RX2 0 cs_X2_countThere L_X2_countThere R0) : ∀ n lv st S, b_X2_countThere_4 n lv st S = some R0 → xG p l e R s m args below meth c cells slots Q D xT g cI cZ A 3 4 lv st S := by
  intro n
  induction n with
  | zero => intro lv st S h; cases h
  | succ n ih => intro lv st S h; exact xa_blk M (List.forall_mem_cons.mpr ⟨fun lv st S h => (ih) lv st S h, fun _ q => absurd q List.not_mem_nil⟩) h
noncomputable def m_X2_countThere : MT := fun As S => brn xT cs_X2_countThere L_X2_countThere [4] (dsp [(4, [0, 1, 2], b_X2_countThere_4 fu)]) 25 [] 0 (zipN 0 As) [] S
theorem s_X2_countThere (M : xM p l e R s m args below meth c cells slots Q D xT g cI cZ A 3 cX2_countThere RX2 0 cs_X2_countThere L_X2_countThere R0) {As : List AV} {S : XS} (h : m_X2_countThere As S = some R0) : xG p l e R s m args below meth c cells slots Q D xT g cI cZ A 3 0 (zipN 0 As) [] S := xa_blk M (List.forall_mem_cons.mpr ⟨fun lv st S h => (s_X2_countThere_4 M fu) lv st S h, fun _ q => absurd q List.not_mem_nil⟩) h
set_option maxRecDepth 20000 in
theorem c_X2_countThere {l : Launch} {D : va_G} {g : Nat → Nat} {cI cZ : ClassId} {A : Nat → Prop} (hD : ∀ S, va_D A (ww xT g cI cZ S)) : xMet l D xT g cI cZ A yX2_countThere (wm yX2_countThere cX2_countThere 3 0) { frames := 0, cells := 0, slots := 0, locals := 0 } 1 m_X2_countThere :=
  xa_met (ft := FT_X2) (pt := PT_X2) (kt := KT_X2) (cs := cs_X2_countThere) (L := L_X2_countThere) hD (by decide) (by decide) ok_X2_countThere fk_X2_countThere fa_X2 (fun p e s m args below meth c Q R0 C0 hts hN => all_get (fun _ q => absurd q List.not_mem_nil)) (fun p e s m args below meth c Q R0 As S M h => s_X2_countThere M h)
def L_X2_countAt : List CE := [(0, .iconst 0, 1, [], 0), (1, .istore_n 2, 2, [], 0), (2, .iconst 0, 3, [], 0), (3, .istore_n 3, 4, [], 0), (4, .iload_n 3, 5, [], 0), (5, .aload_n 0, 6, [], 0), (6, .getfield 46, 9, [2, 11], 0), (9, .if_icmp .ge 36, 12, [45], 0), (12, .iload_n 2, 13, [], 0), (13, .aload_n 0, 14, [], 0), (14, .getfield 24, 17, [2, 4], 0), (17, .iload_n 3, 18, [], 0), (18, .baload, 19, [], 0), (19, .ifCond .ne 17, 22, [36], 0), (22, .aload_n 0, 23, [], 0), (23, .getfield 9, 26, [2, 0], 0), (26, .iload_n 3, 27, [], 0), (27, .iaload, 28, [], 0), (28, .iload_n 1, 29, [], 0), (29, .if_icmp .ne 7, 32, [36], 0), (32, .iconst 1, 33, [], 1), (33, .goto 4, 36, [37], 0), (36, .iconst 0, 37, [], 0), (37, .iadd, 38, [], 0), (38, .istore_n 2, 39, [], 0), (39, .iinc 3 1, 42, [], 1), (42, .goto (-38), 45, [4], 0), (45, .iload_n 2, 46, [], 0), (46, .ireturn, 47, [0], 0)]
theorem ok_X2_countAt : ∀ q ∈ L_X2_countAt, rok cX2_countAt 4 0 q = true := by decide +kernel
theorem fk_X2_countAt : ∀ q ∈ L_X2_countAt, fck FT_X2 PT_X2 KT_X2 q = true := by decide +kernel
noncomputable def cs_X2_countAt : List CT := []
noncomputable def b_X2_countAt_4 : Nat → BT
  | 0 => fun _ _ _ => none
  | n + 1 => fun lv st S => brn xT cs_X2_countAt L_X2_countAt [4] (dsp [(4, [0, 1, 2, 3], b_X2_countAt_4 n)]) 31 [] 4 lv st S
theorem s_X2_countAt_4 (M : xM p l e R s m args below meth c cells slots Q D xT g cI cZ A 4 cX2_countAt RX2 0 cs_X2_countAt L_X2_countAt R0) : ∀ n lv st S, b_X2_countAt_4 n lv st S = some R0 → xG p l e R s m args below meth c cells slots Q D xT g cI cZ A 4 4 lv st S := by
  intro n
  induction n with
  | zero => intro lv st S h; cases h
  | succ n ih => intro lv st S h; exact xa_blk M (List.forall_mem_cons.mpr ⟨fun lv st S h => (ih) lv st S h, fun _ q => absurd q List.not_mem_nil⟩) h
noncomputable def m_X2_countAt : MT := fun As S => brn xT cs_X2_countAt L_X2_countAt [4] (dsp [(4, [0, 1, 2, 3], b_X2_countAt_4 fu)]) 31 [] 0 (zipN 0 As) [] S
theorem s_X2_countAt (M : xM p l e R s m args below meth c cells slots Q D xT g cI cZ A 4 cX2_countAt RX2 0 cs_X2_countAt L_X2_countAt R0) {As : List AV} {S : XS} (h : m_X2_countAt As S = some R0) : xG p l e R s m args below meth c cells slots Q D xT g cI cZ A 4 0 (zipN 0 As) [] S := xa_blk M (List.forall_mem_cons.mpr ⟨fun lv st S h => (s_X2_countAt_4 M fu) lv st S h, fun _ q => absurd q List.not_mem_nil⟩) h
set_option maxRecDepth 20000 in
theorem c_X2_countAt {l : Launch} {D : va_G} {g : Nat → Nat} {cI cZ : ClassId} {A : Nat → Prop} (hD : ∀ S, va_D A (ww xT g cI cZ S)) : xMet l D xT g cI cZ A yX2_countAt (wm yX2_countAt cX2_countAt 4 0) { frames := 0, cells := 0, slots := 0, locals := 0 } 2 m_X2_countAt :=
  xa_met (ft := FT_X2) (pt := PT_X2) (kt := KT_X2) (cs := cs_X2_countAt) (L := L_X2_countAt) hD (by decide) (by decide) ok_X2_countAt fk_X2_countAt fa_X2 (fun p e s m args below meth c Q R0 C0 hts hN => all_get (fun _ q => absurd q List.not_mem_nil)) (fun p e s m args below meth c Q R0 As S M h => s_X2_countAt M h)
def L_X2_isOn : List CE := [(0, .aload_n 0, 1, [], 0), (1, .getfield 24, 4, [2, 4], 0), (4, .iload_n 1, 5, [], 0), (5, .baload, 6, [], 0), (6, .ifCond .ne 27, 9, [33], 0), (9, .aload_n 0, 10, [], 0), (10, .getfield 9, 13, [2, 0], 0), (13, .iload_n 1, 14, [], 0), (14, .iaload, 15, [], 0), (15, .iload_n 2, 16, [], 0), (16, .if_icmp .ne 17, 19, [33], 0), (19, .aload_n 0, 20, [], 0), (20, .getfield 31, 23, [2, 6], 0), (23, .iload_n 1, 24, [], 0), (24, .iaload, 25, [], 0), (25, .iload_n 3, 26, [], 0), (26, .if_icmp .ne 7, 29, [33], 0), (29, .iconst 1, 30, [], 1), (30, .goto 4, 33, [34], 0), (33, .iconst 0, 34, [], 0), (34, .ireturn, 35, [1], 0)]
theorem ok_X2_isOn : ∀ q ∈ L_X2_isOn, rok cX2_isOn 4 1 q = true := by decide +kernel
theorem fk_X2_isOn : ∀ q ∈ L_X2_isOn, fck FT_X2 PT_X2 KT_X2 q = true := by decide +kernel
noncomputable def cs_X2_isOn : List CT := []
noncomputable def m_X2_isOn : MT := fun As S => brn xT cs_X2_isOn L_X2_isOn [] (dsp []) 23 [] 0 (zipN 0 As) [] S
theorem s_X2_isOn (M : xM p l e R s m args below meth c cells slots Q D xT g cI cZ A 4 cX2_isOn RX2 1 cs_X2_isOn L_X2_isOn R0) {As : List AV} {S : XS} (h : m_X2_isOn As S = some R0) : xG p l e R s m args below meth c cells slots Q D xT g cI cZ A 4 0 (zipN 0 As) [] S := xa_blk M (fun _ q => absurd q List.not_mem_nil) h
set_option maxRecDepth 20000 in
theorem c_X2_isOn {l : Launch} {D : va_G} {g : Nat → Nat} {cI cZ : ClassId} {A : Nat → Prop} (hD : ∀ S, va_D A (ww xT g cI cZ S)) : xMet l D xT g cI cZ A yX2_isOn (wm yX2_isOn cX2_isOn 4 1) { frames := 0, cells := 0, slots := 0, locals := 0 } 4 m_X2_isOn :=
  xa_met (ft := FT_X2) (pt := PT_X2) (kt := KT_X2) (cs := cs_X2_isOn) (L := L_X2_isOn) hD (by decide) (by decide) ok_X2_isOn fk_X2_isOn fa_X2 (fun p e s m args below meth c Q R0 C0 hts hN => all_get (fun _ q => absurd q List.not_mem_nil)) (fun p e s m args below meth c Q R0 As S M h => s_X2_isOn M h)
def L_X2_isOf : List CE := [(0, .aload_n 0, 1, [], 0), (1, .getfield 15, 4, [2, 1], 0), (4, .iload_n 1, 5, [], 0), (5, .iaload, 6, [], 0), (6, .iload_n 2, 7, [], 0), (7, .if_icmp .ne 17, 10, [24], 0), (10, .aload_n 0, 11, [], 0), (11, .getfield 31, 14, [2, 6], 0), (14, .iload_n 1, 15, [], 0), (15, .iaload, 16, [], 0), (16, .iload_n 3, 17, [], 0), (17, .if_icmp .ne 7, 20, [24], 0), (20, .iconst 1, 21, [], 1), (21, .goto 4, 24, [25], 0), (24, .iconst 0, 25, [], 0), (25, .ireturn, 26, [1], 0)]
theorem ok_X2_isOf : ∀ q ∈ L_X2_isOf, rok cX2_isOf 4 1 q = true := by decide +kernel
theorem fk_X2_isOf : ∀ q ∈ L_X2_isOf, fck FT_X2 PT_X2 KT_X2 q = true := by decide +kernel
noncomputable def cs_X2_isOf : List CT := []
noncomputable def m_X2_isOf : MT := fun As S => brn xT cs_X2_isOf L_X2_isOf [] (dsp []) 18 [] 0 (zipN 0 As) [] S
theorem s_X2_isOf (M : xM p l e R s m args below meth c cells slots Q D xT g cI cZ A 4 cX2_isOf RX2 1 cs_X2_isOf L_X2_isOf R0) {As : List AV} {S : XS} (h : m_X2_isOf As S = some R0) : xG p l e R s m args below meth c cells slots Q D xT g cI cZ A 4 0 (zipN 0 As) [] S := xa_blk M (fun _ q => absurd q List.not_mem_nil) h
set_option maxRecDepth 20000 in
theorem c_X2_isOf {l : Launch} {D : va_G} {g : Nat → Nat} {cI cZ : ClassId} {A : Nat → Prop} (hD : ∀ S, va_D A (ww xT g cI cZ S)) : xMet l D xT g cI cZ A yX2_isOf (wm yX2_isOf cX2_isOf 4 1) { frames := 0, cells := 0, slots := 0, locals := 0 } 4 m_X2_isOf :=
  xa_met (ft := FT_X2) (pt := PT_X2) (kt := KT_X2) (cs := cs_X2_isOf) (L := L_X2_isOf) hD (by decide) (by decide) ok_X2_isOf fk_X2_isOf fa_X2 (fun p e s m args below meth c Q R0 C0 hts hN => all_get (fun _ q => absurd q List.not_mem_nil)) (fun p e s m args below meth c Q R0 As S M h => s_X2_isOf M h)
def L_X2_behind : List CE := [(0, .aload_n 0, 1, [], 0), (1, .getfield 28, 4, [2, 5], 0), (4, .iload_n 1, 5, [], 0), (5, .iaload, 6, [], 0), (6, .aload_n 0, 7, [], 0), (7, .getfield 18, 10, [2, 2], 0), (10, .iload_n 1, 11, [], 0), (11, .iaload, 12, [], 0), (12, .iadd, 13, [], 0), (13, .ireturn, 14, [0], 0)]
theorem ok_X2_behind : ∀ q ∈ L_X2_behind, rok cX2_behind 2 0 q = true := by decide +kernel
theorem fk_X2_behind : ∀ q ∈ L_X2_behind, fck FT_X2 PT_X2 KT_X2 q = true := by decide +kernel
noncomputable def cs_X2_behind : List CT := []
noncomputable def m_X2_behind : MT := fun As S => brn xT cs_X2_behind L_X2_behind [] (dsp []) 12 [] 0 (zipN 0 As) [] S
theorem s_X2_behind (M : xM p l e R s m args below meth c cells slots Q D xT g cI cZ A 2 cX2_behind RX2 0 cs_X2_behind L_X2_behind R0) {As : List AV} {S : XS} (h : m_X2_behind As S = some R0) : xG p l e R s m args below meth c cells slots Q D xT g cI cZ A 2 0 (zipN 0 As) [] S := xa_blk M (fun _ q => absurd q List.not_mem_nil) h
set_option maxRecDepth 20000 in
theorem c_X2_behind {l : Launch} {D : va_G} {g : Nat → Nat} {cI cZ : ClassId} {A : Nat → Prop} (hD : ∀ S, va_D A (ww xT g cI cZ S)) : xMet l D xT g cI cZ A yX2_behind (wm yX2_behind cX2_behind 2 0) { frames := 0, cells := 0, slots := 0, locals := 0 } 2 m_X2_behind :=
  xa_met (ft := FT_X2) (pt := PT_X2) (kt := KT_X2) (cs := cs_X2_behind) (L := L_X2_behind) hD (by decide) (by decide) ok_X2_behind fk_X2_behind fa_X2 (fun p e s m args below meth c Q R0 C0 hts hN => all_get (fun _ q => absurd q List.not_mem_nil)) (fun p e s m args below meth c Q R0 As S M h => s_X2_behind M h)
def L_X2_shareX : List CE := [(0, .aload_n 0, 1, [], 0), (1, .getfield 28, 4, [2, 5], 0), (4, .iload_n 1, 5, [], 0), (5, .iaload, 6, [], 0), (6, .aload_n 0, 7, [], 0), (7, .iload_n 2, 8, [], 0), (8, .invokevirtual 50, 11, [0], 0), (11, .if_icmp .ge 21, 14, [32], 0), (14, .aload_n 0, 15, [], 0), (15, .getfield 28, 18, [2, 5], 0), (18, .iload_n 2, 19, [], 0), (19, .iaload, 20, [], 0), (20, .aload_n 0, 21, [], 0), (21, .iload_n 1, 22, [], 0), (22, .invokevirtual 50, 25, [0], 0), (25, .if_icmp .ge 7, 28, [32], 0), (28, .iconst 1, 29, [], 1), (29, .goto 4, 32, [33], 0), (32, .iconst 0, 33, [], 0), (33, .ireturn, 34, [1], 0)]
theorem ok_X2_shareX : ∀ q ∈ L_X2_shareX, rok cX2_shareX 3 1 q = true := by decide +kernel
theorem fk_X2_shareX : ∀ q ∈ L_X2_shareX, fck FT_X2 PT_X2 KT_X2 q = true := by decide +kernel
noncomputable def cs_X2_shareX : List CT := [(false, 50, 2, 1, 2, m_X2_behind)]
noncomputable def m_X2_shareX : MT := fun As S => brn xT cs_X2_shareX L_X2_shareX [] (dsp []) 22 [] 0 (zipN 0 As) [] S
theorem s_X2_shareX (M : xM p l e R s m args below meth c cells slots Q D xT g cI cZ A 3 cX2_shareX RX2 1 cs_X2_shareX L_X2_shareX R0) {As : List AV} {S : XS} (h : m_X2_shareX As S = some R0) : xG p l e R s m args below meth c cells slots Q D xT g cI cZ A 3 0 (zipN 0 As) [] S := xa_blk M (fun _ q => absurd q List.not_mem_nil) h
set_option maxRecDepth 20000 in
theorem c_X2_shareX {l : Launch} {D : va_G} {g : Nat → Nat} {cI cZ : ClassId} {A : Nat → Prop} (hD : ∀ S, va_D A (ww xT g cI cZ S)) : xMet l D xT g cI cZ A yX2_shareX (wm yX2_shareX cX2_shareX 3 1) { frames := 1, cells := 0, slots := 0, locals := 21 } 3 m_X2_shareX :=
  xa_met (ft := FT_X2) (pt := PT_X2) (kt := KT_X2) (cs := cs_X2_shareX) (L := L_X2_shareX) hD (by decide) (by decide) ok_X2_shareX fk_X2_shareX fa_X2 (fun p e s m args below meth c Q R0 C0 hts hN => all_get (List.forall_mem_cons.mpr ⟨xcf_V (C := RX2) C0 hts hN (c_X2_behind hD) (good_V kl_X2_50 ki_X2_behind ks_X2_behind kn_X2 kc_X2_behind) rfl ⟨rfl, rfl⟩ rfl (by decide +kernel) ⟨by decide, by decide⟩ ⟨Nat.zero_le _, Nat.zero_le _⟩, fun _ q => absurd q List.not_mem_nil⟩)) (fun p e s m args below meth c Q R0 As S M h => s_X2_shareX M h)
def L_X2_countNearer : List CE := [(0, .iconst 0, 1, [], 0), (1, .istore_n 2, 2, [], 0), (2, .iconst 0, 3, [], 0), (3, .istore_n 3, 4, [], 0), (4, .iload_n 3, 5, [], 0), (5, .aload_n 0, 6, [], 0), (6, .getfield 46, 9, [2, 11], 0), (9, .if_icmp .ge 84, 12, [93], 0), (12, .aload_n 0, 13, [], 0), (13, .getfield 34, 16, [2, 7], 0), (16, .iload_n 3, 17, [], 0), (17, .iaload, 18, [], 0), (18, .aload_n 0, 19, [], 0), (19, .getfield 34, 22, [2, 7], 0), (22, .iload_n 1, 23, [], 0), (23, .iaload, 24, [], 0), (24, .if_icmp .lt 23, 27, [47], 0), (27, .aload_n 0, 28, [], 0), (28, .getfield 34, 31, [2, 7], 0), (31, .iload_n 3, 32, [], 0), (32, .iaload, 33, [], 0), (33, .aload_n 0, 34, [], 0), (34, .getfield 34, 37, [2, 7], 0), (37, .iload_n 1, 38, [], 0), (38, .iaload, 39, [], 0), (39, .if_icmp .ne 12, 42, [51], 0), (42, .iload_n 3, 43, [], 0), (43, .iload_n 1, 44, [], 0), (44, .if_icmp .ge 7, 47, [51], 0), (47, .iconst 1, 48, [], 1), (48, .goto 4, 51, [52], 0), (51, .iconst 0, 52, [], 0), (52, .istore 4, 54, [], 0), (54, .iload_n 2, 55, [], 0), (55, .iload 4, 57, [], 0), (57, .ifCond .eq 27, 60, [84], 0), (60, .aload_n 0, 61, [], 0), (61, .iload_n 3, 62, [], 0), (62, .aload_n 0, 63, [], 0), (63, .getfield 9, 66, [2, 0], 0), (66, .iload_n 1, 67, [], 0), (67, .iaload, 68, [], 0), (68, .aload_n 0, 69, [], 0), (69, .getfield 31, 72, [2, 6], 0), (72, .iload_n 1, 73, [], 0), (73, .iaload, 74, [], 0), (74, .invokevirtual 54, 77, [0], 0), (77, .ifCond .eq 7, 80, [84], 0), (80, .iconst 1, 81, [], 1), (81, .goto 4, 84, [85], 0), (84, .iconst 0, 85, [], 0), (85, .iadd, 86, [], 0), (86, .istore_n 2, 87, [], 0), (87, .iinc 3 1, 90, [], 1), (90, .goto (-86), 93, [4], 0), (93, .iload_n 2, 94, [], 0), (94, .ireturn, 95, [0], 0)]
theorem ok_X2_countNearer : ∀ q ∈ L_X2_countNearer, rok cX2_countNearer 5 0 q = true := by decide +kernel
theorem fk_X2_countNearer : ∀ q ∈ L_X2_countNearer, fck FT_X2 PT_X2 KT_X2 q = true := by decide +kernel
noncomputable def cs_X2_countNearer : List CT := [(false, 54, 4, 1, 2, m_X2_isOn)]
noncomputable def b_X2_countNearer_52 (k4 : BT) : BT := fun lv st S => brn xT cs_X2_countNearer L_X2_countNearer [4, 52] (dsp [(4, [0, 1, 2, 3], k4)]) 59 [] 52 lv st S
theorem s_X2_countNearer_52 (M : xM p l e R s m args below meth c cells slots Q D xT g cI cZ A 5 cX2_countNearer RX2 0 cs_X2_countNearer L_X2_countNearer R0) {k4 : BT} (hk4 : ∀ lv st S, k4 lv st S = some R0 → xG p l e R s m args below meth c cells slots Q D xT g cI cZ A 5 4 lv st S) : ∀ lv st S, b_X2_countNearer_52 k4 lv st S = some R0 → xG p l e R s m args below meth c cells slots Q D xT g cI cZ A 5 52 lv st S := fun lv st S h => xa_blk M (List.forall_mem_cons.mpr ⟨fun lv st S h => (hk4) lv st S h, fun _ q => absurd q List.not_mem_nil⟩) h
noncomputable def b_X2_countNearer_4 : Nat → BT
  | 0 => fun _ _ _ => none
  | n + 1 => fun lv st S => brn xT cs_X2_countNearer L_X2_countNearer [4, 52] (dsp [(52, [0, 1, 2, 3], b_X2_countNearer_52 (b_X2_countNearer_4 n))]) 59 [] 4 lv st S
theorem s_X2_countNearer_4 (M : xM p l e R s m args below meth c cells slots Q D xT g cI cZ A 5 cX2_countNearer RX2 0 cs_X2_countNearer L_X2_countNearer R0) : ∀ n lv st S, b_X2_countNearer_4 n lv st S = some R0 → xG p l e R s m args below meth c cells slots Q D xT g cI cZ A 5 4 lv st S := by
  intro n
  induction n with
  | zero => intro lv st S h; cases h
  | succ n ih => intro lv st S h; exact xa_blk M (List.forall_mem_cons.mpr ⟨fun lv st S h => (s_X2_countNearer_52 M ih) lv st S h, fun _ q => absurd q List.not_mem_nil⟩) h
noncomputable def m_X2_countNearer : MT := fun As S => brn xT cs_X2_countNearer L_X2_countNearer [4, 52] (dsp [(4, [0, 1, 2, 3], b_X2_countNearer_4 fu)]) 59 [] 0 (zipN 0 As) [] S
theorem s_X2_countNearer (M : xM p l e R s m args below meth c cells slots Q D xT g cI cZ A 5 cX2_countNearer RX2 0 cs_X2_countNearer L_X2_countNearer R0) {As : List AV} {S : XS} (h : m_X2_countNearer As S = some R0) : xG p l e R s m args below meth c cells slots Q D xT g cI cZ A 5 0 (zipN 0 As) [] S := xa_blk M (List.forall_mem_cons.mpr ⟨fun lv st S h => (s_X2_countNearer_4 M fu) lv st S h, fun _ q => absurd q List.not_mem_nil⟩) h
set_option maxRecDepth 20000 in
theorem c_X2_countNearer {l : Launch} {D : va_G} {g : Nat → Nat} {cI cZ : ClassId} {A : Nat → Prop} (hD : ∀ S, va_D A (ww xT g cI cZ S)) : xMet l D xT g cI cZ A yX2_countNearer (wm yX2_countNearer cX2_countNearer 5 0) { frames := 1, cells := 0, slots := 0, locals := 23 } 2 m_X2_countNearer :=
  xa_met (ft := FT_X2) (pt := PT_X2) (kt := KT_X2) (cs := cs_X2_countNearer) (L := L_X2_countNearer) hD (by decide) (by decide) ok_X2_countNearer fk_X2_countNearer fa_X2 (fun p e s m args below meth c Q R0 C0 hts hN => all_get (List.forall_mem_cons.mpr ⟨xcf_V (C := RX2) C0 hts hN (c_X2_isOn hD) (good_V kl_X2_54 ki_X2_isOn ks_X2_isOn kn_X2 kc_X2_isOn) rfl ⟨rfl, rfl⟩ rfl (by decide +kernel) ⟨by decide, by decide⟩ ⟨Nat.zero_le _, Nat.zero_le _⟩, fun _ q => absurd q List.not_mem_nil⟩)) (fun p e s m args below meth c Q R0 As S M h => s_X2_countNearer M h)
def L_X3_clear : List CE := [(0, .aload_n 0, 1, [], 0), (1, .iconst 0, 2, [], 0), (2, .putfield 26, 5, [3, 4, 0], 0), (5, .aload_n 0, 6, [], 0), (6, .iconst 0, 7, [], 0), (7, .putfield 30, 10, [3, 5, 0], 0), (10, .iconst 0, 11, [], 0), (11, .istore_n 1, 12, [], 0), (12, .iload_n 1, 13, [], 0), (13, .bipush 10, 15, [], 10), (15, .if_icmp .ge 17, 18, [32], 0), (18, .aload_n 0, 19, [], 0), (19, .getfield 23, 22, [3, 3], 0), (22, .iload_n 1, 23, [], 0), (23, .ldc 33, 25, [], (-100003)), (25, .iastore, 26, [], 0), (26, .iinc 1 1, 29, [], 1), (29, .goto (-17), 32, [12], 0), (32, .return_, 33, [], 0)]
theorem ok_X3_clear : ∀ q ∈ L_X3_clear, rok cX3_clear 2 2 q = true := by decide +kernel
theorem fk_X3_clear : ∀ q ∈ L_X3_clear, fck FT_X3 PT_X3 KT_X3 q = true := by decide +kernel
noncomputable def cs_X3_clear : List CT := []
noncomputable def b_X3_clear_12 : Nat → BT
  | 0 => fun _ _ _ => none
  | n + 1 => fun lv st S => brn xT cs_X3_clear L_X3_clear [12] (dsp [(12, [0, 1], b_X3_clear_12 n)]) 21 [] 12 lv st S
theorem s_X3_clear_12 (M : xM p l e R s m args below meth c cells slots Q D xT g cI cZ A 2 cX3_clear RX3 2 cs_X3_clear L_X3_clear R0) : ∀ n lv st S, b_X3_clear_12 n lv st S = some R0 → xG p l e R s m args below meth c cells slots Q D xT g cI cZ A 2 12 lv st S := by
  intro n
  induction n with
  | zero => intro lv st S h; cases h
  | succ n ih => intro lv st S h; exact xa_blk M (List.forall_mem_cons.mpr ⟨fun lv st S h => (ih) lv st S h, fun _ q => absurd q List.not_mem_nil⟩) h
noncomputable def m_X3_clear : MT := fun As S => brn xT cs_X3_clear L_X3_clear [12] (dsp [(12, [0, 1], b_X3_clear_12 fu)]) 21 [] 0 (zipN 0 As) [] S
theorem s_X3_clear (M : xM p l e R s m args below meth c cells slots Q D xT g cI cZ A 2 cX3_clear RX3 2 cs_X3_clear L_X3_clear R0) {As : List AV} {S : XS} (h : m_X3_clear As S = some R0) : xG p l e R s m args below meth c cells slots Q D xT g cI cZ A 2 0 (zipN 0 As) [] S := xa_blk M (List.forall_mem_cons.mpr ⟨fun lv st S h => (s_X3_clear_12 M fu) lv st S h, fun _ q => absurd q List.not_mem_nil⟩) h
set_option maxRecDepth 20000 in
theorem c_X3_clear {l : Launch} {D : va_G} {g : Nat → Nat} {cI cZ : ClassId} {A : Nat → Prop} (hD : ∀ S, va_D A (ww xT g cI cZ S)) : xMet l D xT g cI cZ A yX3_clear (wm yX3_clear cX3_clear 2 2) { frames := 0, cells := 0, slots := 0, locals := 0 } 1 m_X3_clear :=
  xa_met (ft := FT_X3) (pt := PT_X3) (kt := KT_X3) (cs := cs_X3_clear) (L := L_X3_clear) hD (by decide) (by decide) ok_X3_clear fk_X3_clear fa_X3 (fun p e s m args below meth c Q R0 C0 hts hN => all_get (fun _ q => absurd q List.not_mem_nil)) (fun p e s m args below meth c Q R0 As S M h => s_X3_clear M h)
def L_X3_cover : List CE := [(0, .iload_n 3, 1, [], 0), (1, .bipush 18, 3, [], 18), (3, .if_icmp .le 53, 6, [56], 0), (6, .aload_n 0, 7, [], 0), (7, .getfield 26, 10, [3, 4], 0), (10, .sipush 170, 13, [], 170), (13, .if_icmp .ge 43, 16, [56], 0), (16, .aload_n 0, 17, [], 0), (17, .getfield 11, 20, [3, 0], 0), (20, .aload_n 0, 21, [], 0), (21, .getfield 26, 24, [3, 4], 0), (24, .iload_n 1, 25, [], 0), (25, .iastore, 26, [], 0), (26, .aload_n 0, 27, [], 0), (27, .getfield 15, 30, [3, 1], 0), (30, .aload_n 0, 31, [], 0), (31, .getfield 26, 34, [3, 4], 0), (34, .iload_n 2, 35, [], 0), (35, .iastore, 36, [], 0), (36, .aload_n 0, 37, [], 0), (37, .getfield 18, 40, [3, 2], 0), (40, .aload_n 0, 41, [], 0), (41, .getfield 26, 44, [3, 4], 0), (44, .iload_n 3, 45, [], 0), (45, .iastore, 46, [], 0), (46, .aload_n 0, 47, [], 0), (47, .dup, 48, [], 0), (48, .getfield 26, 51, [3, 4], 0), (51, .iconst 1, 52, [], 1), (52, .iadd, 53, [], 0), (53, .putfield 26, 56, [3, 4, 0], 0), (56, .return_, 57, [], 0)]
theorem ok_X3_cover : ∀ q ∈ L_X3_cover, rok cX3_cover 4 2 q = true := by decide +kernel
theorem fk_X3_cover : ∀ q ∈ L_X3_cover, fck FT_X3 PT_X3 KT_X3 q = true := by decide +kernel
noncomputable def cs_X3_cover : List CT := []
noncomputable def m_X3_cover : MT := fun As S => brn xT cs_X3_cover L_X3_cover [] (dsp []) 34 [] 0 (zipN 0 As) [] S
theorem s_X3_cover (M : xM p l e R s m args below meth c cells slots Q D xT g cI cZ A 4 cX3_cover RX3 2 cs_X3_cover L_X3_cover R0) {As : List AV} {S : XS} (h : m_X3_cover As S = some R0) : xG p l e R s m args below meth c cells slots Q D xT g cI cZ A 4 0 (zipN 0 As) [] S := xa_blk M (fun _ q => absurd q List.not_mem_nil) h
set_option maxRecDepth 20000 in
theorem c_X3_cover {l : Launch} {D : va_G} {g : Nat → Nat} {cI cZ : ClassId} {A : Nat → Prop} (hD : ∀ S, va_D A (ww xT g cI cZ S)) : xMet l D xT g cI cZ A yX3_cover (wm yX3_cover cX3_cover 4 2) { frames := 0, cells := 0, slots := 0, locals := 0 } 4 m_X3_cover :=
  xa_met (ft := FT_X3) (pt := PT_X3) (kt := KT_X3) (cs := cs_X3_cover) (L := L_X3_cover) hD (by decide) (by decide) ok_X3_cover fk_X3_cover fa_X3 (fun p e s m args below meth c Q R0 C0 hts hN => all_get (fun _ q => absurd q List.not_mem_nil)) (fun p e s m args below meth c Q R0 As S M h => s_X3_cover M h)
def L_X3_greatest : List CE := [(0, .bipush 18, 2, [], 18), (2, .istore_n 3, 3, [], 0), (3, .iconst 0, 4, [], 0), (4, .istore 4, 6, [], 0), (6, .iload 4, 8, [], 0), (8, .aload_n 0, 9, [], 0), (9, .getfield 26, 12, [3, 4], 0), (12, .if_icmp .ge 43, 15, [55], 0), (15, .aload_n 0, 16, [], 0), (16, .getfield 11, 19, [3, 0], 0), (19, .iload 4, 21, [], 0), (21, .iaload, 22, [], 0), (22, .iload_n 2, 23, [], 0), (23, .if_icmp .gt 26, 26, [49], 0), (26, .aload_n 0, 27, [], 0), (27, .getfield 15, 30, [3, 1], 0), (30, .iload 4, 32, [], 0), (32, .iaload, 33, [], 0), (33, .iload_n 1, 34, [], 0), (34, .if_icmp .lt 15, 37, [49], 0), (37, .iload_n 3, 38, [], 0), (38, .aload_n 0, 39, [], 0), (39, .getfield 18, 42, [3, 2], 0), (42, .iload 4, 44, [], 0), (44, .iaload, 45, [], 0), (45, .invokestatic 34, 48, [0], 0), (48, .istore_n 3, 49, [], 0), (49, .iinc 4 1, 52, [], 1), (52, .goto (-46), 55, [6], 0), (55, .iload_n 3, 56, [], 0), (56, .ireturn, 57, [0], 0)]
theorem ok_X3_greatest : ∀ q ∈ L_X3_greatest, rok cX3_greatest 5 0 q = true := by decide +kernel
theorem fk_X3_greatest : ∀ q ∈ L_X3_greatest, fck FT_X3 PT_X3 KT_X3 q = true := by decide +kernel
noncomputable def cs_X3_greatest : List CT := [(true, 34, 2, 1, 0, sem_max)]
noncomputable def b_X3_greatest_6 : Nat → BT
  | 0 => fun _ _ _ => none
  | n + 1 => fun lv st S => brn xT cs_X3_greatest L_X3_greatest [6] (dsp [(6, [0, 1, 2, 3, 4], b_X3_greatest_6 n)]) 33 [] 6 lv st S
theorem s_X3_greatest_6 (M : xM p l e R s m args below meth c cells slots Q D xT g cI cZ A 5 cX3_greatest RX3 0 cs_X3_greatest L_X3_greatest R0) : ∀ n lv st S, b_X3_greatest_6 n lv st S = some R0 → xG p l e R s m args below meth c cells slots Q D xT g cI cZ A 5 6 lv st S := by
  intro n
  induction n with
  | zero => intro lv st S h; cases h
  | succ n ih => intro lv st S h; exact xa_blk M (List.forall_mem_cons.mpr ⟨fun lv st S h => (ih) lv st S h, fun _ q => absurd q List.not_mem_nil⟩) h
noncomputable def m_X3_greatest : MT := fun As S => brn xT cs_X3_greatest L_X3_greatest [6] (dsp [(6, [0, 1, 2, 3, 4], b_X3_greatest_6 fu)]) 33 [] 0 (zipN 0 As) [] S
theorem s_X3_greatest (M : xM p l e R s m args below meth c cells slots Q D xT g cI cZ A 5 cX3_greatest RX3 0 cs_X3_greatest L_X3_greatest R0) {As : List AV} {S : XS} (h : m_X3_greatest As S = some R0) : xG p l e R s m args below meth c cells slots Q D xT g cI cZ A 5 0 (zipN 0 As) [] S := xa_blk M (List.forall_mem_cons.mpr ⟨fun lv st S h => (s_X3_greatest_6 M fu) lv st S h, fun _ q => absurd q List.not_mem_nil⟩) h
set_option maxRecDepth 20000 in
theorem c_X3_greatest {l : Launch} {D : va_G} {g : Nat → Nat} {cI cZ : ClassId} {A : Nat → Prop} (hD : ∀ S, va_D A (ww xT g cI cZ S)) : xMet l D xT g cI cZ A yX3_greatest (wm yX3_greatest cX3_greatest 5 0) { frames := 1, cells := 0, slots := 0, locals := 21 } 3 m_X3_greatest :=
  xa_met (ft := FT_X3) (pt := PT_X3) (kt := KT_X3) (cs := cs_X3_greatest) (L := L_X3_greatest) hD (by decide) (by decide) ok_X3_greatest fk_X3_greatest fa_X3 (fun p e s m args below meth c Q R0 C0 hts hN => all_get (List.forall_mem_cons.mpr ⟨xcf_max C0 (hts _ (List.mem_cons_of_mem _ km_X3_34)) (hts _ (List.mem_cons_of_mem _ km_s)) (hts _ (List.mem_cons_of_mem _ km_n)) (hts _ (List.mem_cons_of_mem _ km_c)) ⟨by decide, by decide⟩ ⟨Nat.zero_le _, Nat.zero_le _⟩, fun _ q => absurd q List.not_mem_nil⟩)) (fun p e s m args below meth c Q R0 As S M h => s_X3_greatest M h)
def L_X3_reachOut : List CE := [(0, .aload_n 0, 1, [], 0), (1, .aload_n 0, 2, [], 0), (2, .getfield 30, 5, [3, 5], 0), (5, .iload_n 1, 6, [], 0), (6, .invokestatic 34, 9, [0], 0), (9, .putfield 30, 12, [3, 5, 0], 0), (12, .return_, 13, [], 0)]
theorem ok_X3_reachOut : ∀ q ∈ L_X3_reachOut, rok cX3_reachOut 2 2 q = true := by decide +kernel
theorem fk_X3_reachOut : ∀ q ∈ L_X3_reachOut, fck FT_X3 PT_X3 KT_X3 q = true := by decide +kernel
noncomputable def cs_X3_reachOut : List CT := [(true, 34, 2, 1, 0, sem_max)]
noncomputable def m_X3_reachOut : MT := fun As S => brn xT cs_X3_reachOut L_X3_reachOut [] (dsp []) 9 [] 0 (zipN 0 As) [] S
theorem s_X3_reachOut (M : xM p l e R s m args below meth c cells slots Q D xT g cI cZ A 2 cX3_reachOut RX3 2 cs_X3_reachOut L_X3_reachOut R0) {As : List AV} {S : XS} (h : m_X3_reachOut As S = some R0) : xG p l e R s m args below meth c cells slots Q D xT g cI cZ A 2 0 (zipN 0 As) [] S := xa_blk M (fun _ q => absurd q List.not_mem_nil) h
set_option maxRecDepth 20000 in
theorem c_X3_reachOut {l : Launch} {D : va_G} {g : Nat → Nat} {cI cZ : ClassId} {A : Nat → Prop} (hD : ∀ S, va_D A (ww xT g cI cZ S)) : xMet l D xT g cI cZ A yX3_reachOut (wm yX3_reachOut cX3_reachOut 2 2) { frames := 1, cells := 0, slots := 0, locals := 21 } 2 m_X3_reachOut :=
  xa_met (ft := FT_X3) (pt := PT_X3) (kt := KT_X3) (cs := cs_X3_reachOut) (L := L_X3_reachOut) hD (by decide) (by decide) ok_X3_reachOut fk_X3_reachOut fa_X3 (fun p e s m args below meth c Q R0 C0 hts hN => all_get (List.forall_mem_cons.mpr ⟨xcf_max C0 (hts _ (List.mem_cons_of_mem _ km_X3_34)) (hts _ (List.mem_cons_of_mem _ km_s)) (hts _ (List.mem_cons_of_mem _ km_n)) (hts _ (List.mem_cons_of_mem _ km_c)) ⟨by decide, by decide⟩ ⟨Nat.zero_le _, Nat.zero_le _⟩, fun _ q => absurd q List.not_mem_nil⟩)) (fun p e s m args below meth c Q R0 As S M h => s_X3_reachOut M h)
def L_X4_has : List CE := [(0, .iload_n 1, 1, [], 0), (1, .ifCond .lt 15, 4, [16], 0), (4, .iload_n 1, 5, [], 0), (5, .aload_n 0, 6, [], 0), (6, .getfield 30, 9, [4, 6], 0), (9, .if_icmp .ge 7, 12, [16], 0), (12, .iconst 1, 13, [], 1), (13, .goto 4, 16, [17], 0), (16, .iconst 0, 17, [], 0), (17, .ireturn, 18, [1], 0)]
theorem ok_X4_has : ∀ q ∈ L_X4_has, rok cX4_has 2 1 q = true := by decide +kernel
theorem fk_X4_has : ∀ q ∈ L_X4_has, fck FT_X4 PT_X4 KT_X4 q = true := by decide +kernel
noncomputable def cs_X4_has : List CT := []
noncomputable def m_X4_has : MT := fun As S => brn xT cs_X4_has L_X4_has [] (dsp []) 12 [] 0 (zipN 0 As) [] S
theorem s_X4_has (M : xM p l e R s m args below meth c cells slots Q D xT g cI cZ A 2 cX4_has RX4 1 cs_X4_has L_X4_has R0) {As : List AV} {S : XS} (h : m_X4_has As S = some R0) : xG p l e R s m args below meth c cells slots Q D xT g cI cZ A 2 0 (zipN 0 As) [] S := xa_blk M (fun _ q => absurd q List.not_mem_nil) h
set_option maxRecDepth 20000 in
theorem c_X4_has {l : Launch} {D : va_G} {g : Nat → Nat} {cI cZ : ClassId} {A : Nat → Prop} (hD : ∀ S, va_D A (ww xT g cI cZ S)) : xMet l D xT g cI cZ A yX4_has (wm yX4_has cX4_has 2 1) { frames := 0, cells := 0, slots := 0, locals := 0 } 2 m_X4_has :=
  xa_met (ft := FT_X4) (pt := PT_X4) (kt := KT_X4) (cs := cs_X4_has) (L := L_X4_has) hD (by decide) (by decide) ok_X4_has fk_X4_has fa_X4 (fun p e s m args below meth c Q R0 C0 hts hN => all_get (fun _ q => absurd q List.not_mem_nil)) (fun p e s m args below meth c Q R0 As S M h => s_X4_has M h)
def L_X4_add : List CE := [(0, .aload_n 0, 1, [], 0), (1, .getfield 30, 4, [4, 6], 0), (4, .istore 5, 6, [], 0), (6, .aload_n 0, 7, [], 0), (7, .getfield 9, 10, [4, 0], 0), (10, .iload 5, 12, [], 0), (12, .iload_n 1, 13, [], 0), (13, .iastore, 14, [], 0), (14, .aload_n 0, 15, [], 0), (15, .getfield 15, 18, [4, 1], 0), (18, .iload 5, 20, [], 0), (20, .iload_n 2, 21, [], 0), (21, .iastore, 22, [], 0), (22, .aload_n 0, 23, [], 0), (23, .getfield 18, 26, [4, 2], 0), (26, .iload 5, 28, [], 0), (28, .iload_n 3, 29, [], 0), (29, .iastore, 30, [], 0), (30, .aload_n 0, 31, [], 0), (31, .getfield 21, 34, [4, 3], 0), (34, .iload 5, 36, [], 0), (36, .iload 4, 38, [], 0), (38, .iastore, 39, [], 0), (39, .aload_n 0, 40, [], 0), (40, .dup, 41, [], 0), (41, .getfield 30, 44, [4, 6], 0), (44, .iconst 1, 45, [], 1), (45, .iadd, 46, [], 0), (46, .putfield 30, 49, [4, 6, 0], 0), (49, .iload 5, 51, [], 0), (51, .ireturn, 52, [0], 0)]
theorem ok_X4_add : ∀ q ∈ L_X4_add, rok cX4_add 6 0 q = true := by decide +kernel
theorem fk_X4_add : ∀ q ∈ L_X4_add, fck FT_X4 PT_X4 KT_X4 q = true := by decide +kernel
noncomputable def cs_X4_add : List CT := []
noncomputable def m_X4_add : MT := fun As S => brn xT cs_X4_add L_X4_add [] (dsp []) 33 [] 0 (zipN 0 As) [] S
theorem s_X4_add (M : xM p l e R s m args below meth c cells slots Q D xT g cI cZ A 6 cX4_add RX4 0 cs_X4_add L_X4_add R0) {As : List AV} {S : XS} (h : m_X4_add As S = some R0) : xG p l e R s m args below meth c cells slots Q D xT g cI cZ A 6 0 (zipN 0 As) [] S := xa_blk M (fun _ q => absurd q List.not_mem_nil) h
set_option maxRecDepth 20000 in
theorem c_X4_add {l : Launch} {D : va_G} {g : Nat → Nat} {cI cZ : ClassId} {A : Nat → Prop} (hD : ∀ S, va_D A (ww xT g cI cZ S)) : xMet l D xT g cI cZ A yX4_add (wm yX4_add cX4_add 6 0) { frames := 0, cells := 0, slots := 0, locals := 0 } 5 m_X4_add :=
  xa_met (ft := FT_X4) (pt := PT_X4) (kt := KT_X4) (cs := cs_X4_add) (L := L_X4_add) hD (by decide) (by decide) ok_X4_add fk_X4_add fa_X4 (fun p e s m args below meth c Q R0 C0 hts hN => all_get (fun _ q => absurd q List.not_mem_nil)) (fun p e s m args below meth c Q R0 As S M h => s_X4_add M h)
end
end
section
set_option maxRecDepth 100000 in
theorem u_X0_has (S : XS) (a1 : Int32) : m_X0_has [.inr 1, .inl a1] S = (if a1 < 0 then (some (S, some (some (.inl 0)))) else (if S 1 6 ≤ a1 then (some (S, some (some (.inl 0)))) else (some (S, some (some (.inl 1)))))) := rfl
set_option maxRecDepth 100000 in
theorem v_X0_isAt (f2 : BT) (S : XS) (a1 : Int32) : brn xT cs_X0_isAt L_X0_isAt [2] (dsp [(2, [0, 1, 2], f2)]) 20 [] 0 [(0, .inr 1), (1, .inl a1)] [] S = (f2 [(0, .inr 1), (1, .inl a1), (2, .inl 0)] [] S) := rfl
theorem u_X0_isAt (S : XS) (a1 : Int32) : m_X0_isAt [.inr 1, .inl a1] S = (b_X0_isAt_2 fu [(0, .inr 1), (1, .inl a1), (2, .inl 0)] [] S) := v_X0_isAt _ S a1
set_option maxRecDepth 100000 in
theorem v_X0_isAt_2 (f2 : BT) (S : XS) (a1 a2 : Int32) : brn xT cs_X0_isAt L_X0_isAt [2] (dsp [(2, [0, 1, 2], f2)]) 20 [] 2 [(0, .inr 1), (1, .inl a1), (2, .inl a2)] [] S = (if S 1 6 ≤ a2 then (some (S, some (some (.inl 0)))) else (gA a2 40 (if S 7 a2.toNatClampNeg = a1 then (some (S, some (some (.inl 1)))) else (f2 [(0, .inr 1), (1, .inl a1), (2, .inl (a2 + 1))] [] S)))) := rfl
theorem u_X0_isAt_2 (n : Nat) (S : XS) (a1 a2 : Int32) : b_X0_isAt_2 (n + 1) [(0, .inr 1), (1, .inl a1), (2, .inl a2)] [] S = (if S 1 6 ≤ a2 then (some (S, some (some (.inl 0)))) else (gA a2 40 (if S 7 a2.toNatClampNeg = a1 then (some (S, some (some (.inl 1)))) else (b_X0_isAt_2 n [(0, .inr 1), (1, .inl a1), (2, .inl (a2 + 1))] [] S)))) := v_X0_isAt_2 _ S a1 a2
set_option maxRecDepth 100000 in
theorem u_X0_add (S : XS) (a1 a2 a3 a4 a5 a6 : Int32) : m_X0_add [.inr 1, .inl a1, .inl a2, .inl a3, .inl a4, .inl a5, .inl a6] S = (gA (S 1 6) 40 (gA (S 1 6) 40 (gA (S 1 6) 40 (gA (S 1 6) 40 (gA (S 1 6) 40 (gA (S 1 6) 40 (some (up2 (up2 (up2 (up2 (up2 (up2 (up2 S 7 (S 1 6).toNatClampNeg a1) 8 (S 1 6).toNatClampNeg a2) 9 (S 1 6).toNatClampNeg a3) 10 (S 1 6).toNatClampNeg a4) 11 (S 1 6).toNatClampNeg a5) 12 (S 1 6).toNatClampNeg a6) 1 6 (((up2 (up2 (up2 (up2 (up2 (up2 S 7 (S 1 6).toNatClampNeg a1) 8 (S 1 6).toNatClampNeg a2) 9 (S 1 6).toNatClampNeg a3) 10 (S 1 6).toNatClampNeg a4) 11 (S 1 6).toNatClampNeg a5) 12 (S 1 6).toNatClampNeg a6) 1 6) + 1), some (some (.inl (S 1 6))))))))))) := rfl
set_option maxRecDepth 100000 in
theorem v_X0_next (f4 : BT) (S : XS) (a1 : Int32) : brn xT cs_X0_next L_X0_next [4] (dsp [(4, [0, 1, 2, 3], f4)]) 36 [] 0 [(0, .inr 1), (1, .inl a1)] [] S = (f4 [(0, .inr 1), (1, .inl a1), (2, .inl (-1)), (3, .inl 0)] [] S) := rfl
theorem u_X0_next (S : XS) (a1 : Int32) : m_X0_next [.inr 1, .inl a1] S = (b_X0_next_4 fu [(0, .inr 1), (1, .inl a1), (2, .inl (-1)), (3, .inl 0)] [] S) := v_X0_next _ S a1
set_option maxRecDepth 100000 in
theorem v_X0_next_4 (f4 : BT) (S : XS) (a1 a2 a3 : Int32) : brn xT cs_X0_next L_X0_next [4] (dsp [(4, [0, 1, 2, 3], f4)]) 36 [] 4 [(0, .inr 1), (1, .inl a1), (2, .inl a2), (3, .inl a3)] [] S = (if S 1 6 ≤ a3 then (some (S, some (some (.inl a2)))) else (gA a3 40 (gA a1 40 (if S 7 a3.toNatClampNeg ≤ S 7 a1.toNatClampNeg then (f4 [(0, .inr 1), (1, .inl a1), (2, .inl a2), (3, .inl (a3 + 1))] [] S) else (if a2 < 0 then (f4 [(0, .inr 1), (1, .inl a1), (2, .inl a3), (3, .inl (a3 + 1))] [] S) else (gA a3 40 (gA a2 40 (if S 7 a2.toNatClampNeg ≤ S 7 a3.toNatClampNeg then (f4 [(0, .inr 1), (1, .inl a1), (2, .inl a2), (3, .inl (a3 + 1))] [] S) else (f4 [(0, .inr 1), (1, .inl a1), (2, .inl a3), (3, .inl (a3 + 1))] [] S))))))))) := rfl
theorem u_X0_next_4 (n : Nat) (S : XS) (a1 a2 a3 : Int32) : b_X0_next_4 (n + 1) [(0, .inr 1), (1, .inl a1), (2, .inl a2), (3, .inl a3)] [] S = (if S 1 6 ≤ a3 then (some (S, some (some (.inl a2)))) else (gA a3 40 (gA a1 40 (if S 7 a3.toNatClampNeg ≤ S 7 a1.toNatClampNeg then (b_X0_next_4 n [(0, .inr 1), (1, .inl a1), (2, .inl a2), (3, .inl (a3 + 1))] [] S) else (if a2 < 0 then (b_X0_next_4 n [(0, .inr 1), (1, .inl a1), (2, .inl a3), (3, .inl (a3 + 1))] [] S) else (gA a3 40 (gA a2 40 (if S 7 a2.toNatClampNeg ≤ S 7 a3.toNatClampNeg then (b_X0_next_4 n [(0, .inr 1), (1, .inl a1), (2, .inl a2), (3, .inl (a3 + 1))] [] S) else (b_X0_next_4 n [(0, .inr 1), (1, .inl a1), (2, .inl a3), (3, .inl (a3 + 1))] [] S))))))))) := v_X0_next_4 _ S a1 a2 a3
set_option maxRecDepth 100000 in
theorem v_X0_greatestX (f4 : BT) (S : XS) : brn xT cs_X0_greatestX L_X0_greatestX [4] (dsp [(4, [0, 1, 2], f4)]) 21 [] 0 [(0, .inr 1)] [] S = (f4 [(0, .inr 1), (1, .inl 0), (2, .inl 0)] [] S) := rfl
theorem u_X0_greatestX (S : XS) : m_X0_greatestX [.inr 1] S = (b_X0_greatestX_4 fu [(0, .inr 1), (1, .inl 0), (2, .inl 0)] [] S) := v_X0_greatestX _ S
set_option maxRecDepth 100000 in
theorem v_X0_greatestX_4 (f4 : BT) (S : XS) (a1 a2 : Int32) : brn xT cs_X0_greatestX L_X0_greatestX [4] (dsp [(4, [0, 1, 2], f4)]) 21 [] 4 [(0, .inr 1), (1, .inl a1), (2, .inl a2)] [] S = (if S 1 6 ≤ a2 then (some (S, some (some (.inl a1)))) else (gA a2 40 (f4 [(0, .inr 1), (1, .inl (if a1 < S 7 a2.toNatClampNeg then S 7 a2.toNatClampNeg else a1)), (2, .inl (a2 + 1))] [] S))) := rfl
theorem u_X0_greatestX_4 (n : Nat) (S : XS) (a1 a2 : Int32) : b_X0_greatestX_4 (n + 1) [(0, .inr 1), (1, .inl a1), (2, .inl a2)] [] S = (if S 1 6 ≤ a2 then (some (S, some (some (.inl a1)))) else (gA a2 40 (b_X0_greatestX_4 n [(0, .inr 1), (1, .inl (if a1 < S 7 a2.toNatClampNeg then S 7 a2.toNatClampNeg else a1)), (2, .inl (a2 + 1))] [] S))) := v_X0_greatestX_4 _ S a1 a2
set_option maxRecDepth 100000 in
theorem v_X0_moveBehind (f2 : BT) (S : XS) (a1 a2 : Int32) : brn xT cs_X0_moveBehind L_X0_moveBehind [2] (dsp [(2, [0, 1, 2, 3], f2)]) 25 [] 0 [(0, .inr 1), (1, .inl a1), (2, .inl a2)] [] S = (f2 [(0, .inr 1), (1, .inl a1), (2, .inl a2), (3, .inl 0)] [] S) := rfl
theorem u_X0_moveBehind (S : XS) (a1 a2 : Int32) : m_X0_moveBehind [.inr 1, .inl a1, .inl a2] S = (b_X0_moveBehind_2 fu [(0, .inr 1), (1, .inl a1), (2, .inl a2), (3, .inl 0)] [] S) := v_X0_moveBehind _ S a1 a2
set_option maxRecDepth 100000 in
theorem v_X0_moveBehind_2 (f2 : BT) (S : XS) (a1 a2 a3 : Int32) : brn xT cs_X0_moveBehind L_X0_moveBehind [2] (dsp [(2, [0, 1, 2, 3], f2)]) 25 [] 2 [(0, .inr 1), (1, .inl a1), (2, .inl a2), (3, .inl a3)] [] S = (if S 1 6 ≤ a3 then (some (S, some none)) else (gA a3 40 (if S 7 a3.toNatClampNeg ≤ a1 then (f2 [(0, .inr 1), (1, .inl a1), (2, .inl a2), (3, .inl (a3 + 1))] [] S) else (gA a3 40 (gA a3 40 (f2 [(0, .inr 1), (1, .inl a1), (2, .inl a2), (3, .inl (a3 + 1))] [] (up2 S 7 a3.toNatClampNeg ((S 7 a3.toNatClampNeg) + a2)))))))) := rfl
theorem u_X0_moveBehind_2 (n : Nat) (S : XS) (a1 a2 a3 : Int32) : b_X0_moveBehind_2 (n + 1) [(0, .inr 1), (1, .inl a1), (2, .inl a2), (3, .inl a3)] [] S = (if S 1 6 ≤ a3 then (some (S, some none)) else (gA a3 40 (if S 7 a3.toNatClampNeg ≤ a1 then (b_X0_moveBehind_2 n [(0, .inr 1), (1, .inl a1), (2, .inl a2), (3, .inl (a3 + 1))] [] S) else (gA a3 40 (gA a3 40 (b_X0_moveBehind_2 n [(0, .inr 1), (1, .inl a1), (2, .inl a2), (3, .inl (a3 + 1))] [] (up2 S 7 a3.toNatClampNeg ((S 7 a3.toNatClampNeg) + a2)))))))) := v_X0_moveBehind_2 _ S a1 a2 a3
set_option maxRecDepth 100000 in
theorem v_X0_haveBothVoices (f4 : BT) (S : XS) : brn xT cs_X0_haveBothVoices L_X0_haveBothVoices [4] (dsp [(4, [0, 1, 2], f4)]) 29 [] 0 [(0, .inr 1)] [] S = (f4 [(0, .inr 1), (1, .inl 0), (2, .inl 0)] [] S) := rfl
theorem u_X0_haveBothVoices (S : XS) : m_X0_haveBothVoices [.inr 1] S = (b_X0_haveBothVoices_4 fu [(0, .inr 1), (1, .inl 0), (2, .inl 0)] [] S) := v_X0_haveBothVoices _ S
set_option maxRecDepth 100000 in
theorem v_X0_haveBothVoices_4 (f4 : BT) (S : XS) (a1 a2 : Int32) : brn xT cs_X0_haveBothVoices L_X0_haveBothVoices [4] (dsp [(4, [0, 1, 2], f4)]) 29 [] 4 [(0, .inr 1), (1, .inl a1), (2, .inl a2)] [] S = (if S 1 6 ≤ a2 then (if a1 ≤ 0 then (some (S, some (some (.inl 0)))) else (if S 1 6 ≤ a1 then (some (S, some (some (.inl 0)))) else (some (S, some (some (.inl 1)))))) else (gA a2 40 (f4 [(0, .inr 1), (1, .inl (a1 + (S 10 a2.toNatClampNeg))), (2, .inl (a2 + 1))] [] S))) := rfl
theorem u_X0_haveBothVoices_4 (n : Nat) (S : XS) (a1 a2 : Int32) : b_X0_haveBothVoices_4 (n + 1) [(0, .inr 1), (1, .inl a1), (2, .inl a2)] [] S = (if S 1 6 ≤ a2 then (if a1 ≤ 0 then (some (S, some (some (.inl 0)))) else (if S 1 6 ≤ a1 then (some (S, some (some (.inl 0)))) else (some (S, some (some (.inl 1)))))) else (gA a2 40 (b_X0_haveBothVoices_4 n [(0, .inr 1), (1, .inl (a1 + (S 10 a2.toNatClampNeg))), (2, .inl (a2 + 1))] [] S))) := v_X0_haveBothVoices_4 _ S a1 a2
set_option maxRecDepth 100000 in
theorem u_X1_has (S : XS) (a1 : Int32) : m_X1_has [.inr 2, .inl a1] S = (if a1 < 0 then (some (S, some (some (.inl 0)))) else (if 10 ≤ a1 then (some (S, some (some (.inl 0)))) else (some (S, some (some (.inl 1)))))) := rfl
set_option maxRecDepth 100000 in
theorem u_X1_takes (S : XS) (a1 a2 : Int32) : m_X1_takes [.inr 2, .inl a1, .inl a2] S = (if a1 < 0 then (some (S, some (some (.inl 0)))) else (if 6 ≤ a1 then (some (S, some (some (.inl 0)))) else (if a2 < 0 then (some (S, some (some (.inl 0)))) else (gA a1 6 (if mostf a1.toNatClampNeg < a2 then (some (S, some (some (.inl 0)))) else (some (S, some (some (.inl 1))))))))) := rfl
set_option maxRecDepth 100000 in
theorem u_X1_get (S : XS) (a1 a2 : Int32) : m_X1_get [.inr 2, .inl a1, .inl a2] S = (gA ((a1 * 6) + a2) 60 (some (S, some (some (.inl (S 13 ((a1 * 6) + a2).toNatClampNeg)))))) := rfl
set_option maxRecDepth 100000 in
theorem u_X1_change (S : XS) (a1 a2 a3 : Int32) : m_X1_change [.inr 2, .inl a1, .inl a2, .inl a3] S = (cli (m_X1_get [.inr 2, .inl a1, .inl a2] S) (fun S1 r1 => gA ((a1 * 6) + a2) 60 (some (up2 S1 13 ((a1 * 6) + a2).toNatClampNeg a3, some (some (.inl r1)))))) := rfl
set_option maxRecDepth 100000 in
theorem u_X1_liesFromX (S : XS) (a1 : Int32) : m_X1_liesFromX [.inr 2, .inl a1] S = (cli (m_X1_get [.inr 2, .inl a1, .inl 2] S) (fun S1 r1 => if r1 = 1 then (some (S1, some (some (.inl 1)))) else (some (S1, some (some (.inl 0)))))) := rfl
set_option maxRecDepth 100000 in
theorem u_X1_isInRow (S : XS) (a1 : Int32) : m_X1_isInRow [.inr 2, .inl a1] S = (cli (m_X1_get [.inr 2, .inl a1, .inl 4] S) (fun S1 r1 => if r1 = 1 then (some (S1, some (some (.inl 1)))) else (some (S1, some (some (.inl 0)))))) := rfl
set_option maxRecDepth 100000 in
theorem u_X1_rank (S : XS) (a1 : Int32) : m_X1_rank [.inr 2, .inl a1] S = (cli (m_X1_get [.inr 2, .inl a1, .inl 5] S) (fun S1 r1 => gA 0 6 (cli (m_X1_get [.inr 2, .inl a1, .inl 0] S1) (fun S2 r2 => some (S2, some (some (.inl ((r1 * ((mostf (0 : Int32).toNatClampNeg) + 1)) + r2)))))))) := rfl
set_option maxRecDepth 100000 in
theorem u_X2_has (S : XS) (a1 : Int32) : m_X2_has [.inr 3, .inl a1] S = (if a1 < 0 then (some (S, some (some (.inl 0)))) else (if S 3 11 ≤ a1 then (some (S, some (some (.inl 0)))) else (gA a1 80 (if S 18 a1.toNatClampNeg = 0 then (some (S, some (some (.inl 1)))) else (some (S, some (some (.inl 0)))))))) := rfl
set_option maxRecDepth 100000 in
theorem u_X2_add (S : XS) (a1 a2 a3 a4 : Int32) : m_X2_add [.inr 3, .inl a1, .inl a2, .inl a3, .inl a4] S = (gA (S 3 11) 80 (gA (S 3 11) 80 (gA (S 3 11) 80 (gA (S 3 11) 80 (some (up2 (up2 (up2 (up2 (up2 S 14 (S 3 11).toNatClampNeg a1) 15 (S 3 11).toNatClampNeg a2) 16 (S 3 11).toNatClampNeg a3) 17 (S 3 11).toNatClampNeg a4) 3 11 (((up2 (up2 (up2 (up2 S 14 (S 3 11).toNatClampNeg a1) 15 (S 3 11).toNatClampNeg a2) 16 (S 3 11).toNatClampNeg a3) 17 (S 3 11).toNatClampNeg a4) 3 11) + 1), some (some (.inl (S 3 11))))))))) := rfl
set_option maxRecDepth 100000 in
theorem v_X2_countThere (f4 : BT) (S : XS) : brn xT cs_X2_countThere L_X2_countThere [4] (dsp [(4, [0, 1, 2], f4)]) 25 [] 0 [(0, .inr 3)] [] S = (f4 [(0, .inr 3), (1, .inl 0), (2, .inl 0)] [] S) := rfl
theorem u_X2_countThere (S : XS) : m_X2_countThere [.inr 3] S = (b_X2_countThere_4 fu [(0, .inr 3), (1, .inl 0), (2, .inl 0)] [] S) := v_X2_countThere _ S
set_option maxRecDepth 100000 in
theorem v_X2_countThere_4 (f4 : BT) (S : XS) (a1 a2 : Int32) : brn xT cs_X2_countThere L_X2_countThere [4] (dsp [(4, [0, 1, 2], f4)]) 25 [] 4 [(0, .inr 3), (1, .inl a1), (2, .inl a2)] [] S = (if S 3 11 ≤ a2 then (some (S, some (some (.inl a1)))) else (gA a2 80 (if S 18 a2.toNatClampNeg = 0 then (f4 [(0, .inr 3), (1, .inl (a1 + 1)), (2, .inl (a2 + 1))] [] S) else (f4 [(0, .inr 3), (1, .inl (a1 + 0)), (2, .inl (a2 + 1))] [] S)))) := rfl
theorem u_X2_countThere_4 (n : Nat) (S : XS) (a1 a2 : Int32) : b_X2_countThere_4 (n + 1) [(0, .inr 3), (1, .inl a1), (2, .inl a2)] [] S = (if S 3 11 ≤ a2 then (some (S, some (some (.inl a1)))) else (gA a2 80 (if S 18 a2.toNatClampNeg = 0 then (b_X2_countThere_4 n [(0, .inr 3), (1, .inl (a1 + 1)), (2, .inl (a2 + 1))] [] S) else (b_X2_countThere_4 n [(0, .inr 3), (1, .inl (a1 + 0)), (2, .inl (a2 + 1))] [] S)))) := v_X2_countThere_4 _ S a1 a2
set_option maxRecDepth 100000 in
theorem v_X2_countAt (f4 : BT) (S : XS) (a1 : Int32) : brn xT cs_X2_countAt L_X2_countAt [4] (dsp [(4, [0, 1, 2, 3], f4)]) 31 [] 0 [(0, .inr 3), (1, .inl a1)] [] S = (f4 [(0, .inr 3), (1, .inl a1), (2, .inl 0), (3, .inl 0)] [] S) := rfl
theorem u_X2_countAt (S : XS) (a1 : Int32) : m_X2_countAt [.inr 3, .inl a1] S = (b_X2_countAt_4 fu [(0, .inr 3), (1, .inl a1), (2, .inl 0), (3, .inl 0)] [] S) := v_X2_countAt _ S a1
set_option maxRecDepth 100000 in
theorem v_X2_countAt_4 (f4 : BT) (S : XS) (a1 a2 a3 : Int32) : brn xT cs_X2_countAt L_X2_countAt [4] (dsp [(4, [0, 1, 2, 3], f4)]) 31 [] 4 [(0, .inr 3), (1, .inl a1), (2, .inl a2), (3, .inl a3)] [] S = (if S 3 11 ≤ a3 then (some (S, some (some (.inl a2)))) else (gA a3 80 (if S 18 a3.toNatClampNeg = 0 then (gA a3 80 (if S 14 a3.toNatClampNeg = a1 then (f4 [(0, .inr 3), (1, .inl a1), (2, .inl (a2 + 1)), (3, .inl (a3 + 1))] [] S) else (f4 [(0, .inr 3), (1, .inl a1), (2, .inl (a2 + 0)), (3, .inl (a3 + 1))] [] S))) else (f4 [(0, .inr 3), (1, .inl a1), (2, .inl (a2 + 0)), (3, .inl (a3 + 1))] [] S)))) := rfl
theorem u_X2_countAt_4 (n : Nat) (S : XS) (a1 a2 a3 : Int32) : b_X2_countAt_4 (n + 1) [(0, .inr 3), (1, .inl a1), (2, .inl a2), (3, .inl a3)] [] S = (if S 3 11 ≤ a3 then (some (S, some (some (.inl a2)))) else (gA a3 80 (if S 18 a3.toNatClampNeg = 0 then (gA a3 80 (if S 14 a3.toNatClampNeg = a1 then (b_X2_countAt_4 n [(0, .inr 3), (1, .inl a1), (2, .inl (a2 + 1)), (3, .inl (a3 + 1))] [] S) else (b_X2_countAt_4 n [(0, .inr 3), (1, .inl a1), (2, .inl (a2 + 0)), (3, .inl (a3 + 1))] [] S))) else (b_X2_countAt_4 n [(0, .inr 3), (1, .inl a1), (2, .inl (a2 + 0)), (3, .inl (a3 + 1))] [] S)))) := v_X2_countAt_4 _ S a1 a2 a3
set_option maxRecDepth 100000 in
theorem u_X2_isOn (S : XS) (a1 a2 a3 : Int32) : m_X2_isOn [.inr 3, .inl a1, .inl a2, .inl a3] S = (gA a1 80 (if S 18 a1.toNatClampNeg = 0 then (gA a1 80 (if S 14 a1.toNatClampNeg = a2 then (gA a1 80 (if S 20 a1.toNatClampNeg = a3 then (some (S, some (some (.inl 1)))) else (some (S, some (some (.inl 0)))))) else (some (S, some (some (.inl 0)))))) else (some (S, some (some (.inl 0)))))) := rfl
set_option maxRecDepth 100000 in
theorem u_X2_isOf (S : XS) (a1 a2 a3 : Int32) : m_X2_isOf [.inr 3, .inl a1, .inl a2, .inl a3] S = (gA a1 80 (if S 15 a1.toNatClampNeg = a2 then (gA a1 80 (if S 20 a1.toNatClampNeg = a3 then (some (S, some (some (.inl 1)))) else (some (S, some (some (.inl 0)))))) else (some (S, some (some (.inl 0)))))) := rfl
set_option maxRecDepth 100000 in
theorem u_X2_behind (S : XS) (a1 : Int32) : m_X2_behind [.inr 3, .inl a1] S = (gA a1 80 (gA a1 80 (some (S, some (some (.inl ((S 19 a1.toNatClampNeg) + (S 16 a1.toNatClampNeg)))))))) := rfl
set_option maxRecDepth 100000 in
theorem u_X2_shareX (S : XS) (a1 a2 : Int32) : m_X2_shareX [.inr 3, .inl a1, .inl a2] S = (gA a1 80 (cli (m_X2_behind [.inr 3, .inl a2] S) (fun S1 r1 => if r1 ≤ S 19 a1.toNatClampNeg then (some (S1, some (some (.inl 0)))) else (gA a2 80 (cli (m_X2_behind [.inr 3, .inl a1] S1) (fun S2 r2 => if r2 ≤ S1 19 a2.toNatClampNeg then (some (S2, some (some (.inl 0)))) else (some (S2, some (some (.inl 1)))))))))) := rfl
set_option maxRecDepth 100000 in
theorem v_X2_countNearer (f4 : BT) (S : XS) (a1 : Int32) : brn xT cs_X2_countNearer L_X2_countNearer [4, 52] (dsp [(4, [0, 1, 2, 3], f4)]) 59 [] 0 [(0, .inr 3), (1, .inl a1)] [] S = (f4 [(0, .inr 3), (1, .inl a1), (2, .inl 0), (3, .inl 0)] [] S) := rfl
theorem u_X2_countNearer (S : XS) (a1 : Int32) : m_X2_countNearer [.inr 3, .inl a1] S = (b_X2_countNearer_4 fu [(0, .inr 3), (1, .inl a1), (2, .inl 0), (3, .inl 0)] [] S) := v_X2_countNearer _ S a1
set_option maxRecDepth 100000 in
theorem v_X2_countNearer_4 (f52 : BT) (S : XS) (a1 a2 a3 : Int32) : brn xT cs_X2_countNearer L_X2_countNearer [4, 52] (dsp [(52, [0, 1, 2, 3], f52)]) 59 [] 4 [(0, .inr 3), (1, .inl a1), (2, .inl a2), (3, .inl a3)] [] S = (if S 3 11 ≤ a3 then (some (S, some (some (.inl a2)))) else (gA a3 80 (gA a1 80 (if S 21 a3.toNatClampNeg < S 21 a1.toNatClampNeg then (f52 [(0, .inr 3), (1, .inl a1), (2, .inl a2), (3, .inl a3)] [.inl 1] S) else (gA a3 80 (gA a1 80 (if S 21 a3.toNatClampNeg = S 21 a1.toNatClampNeg then (if a1 ≤ a3 then (f52 [(0, .inr 3), (1, .inl a1), (2, .inl a2), (3, .inl a3)] [.inl 0] S) else (f52 [(0, .inr 3), (1, .inl a1), (2, .inl a2), (3, .inl a3)] [.inl 1] S)) else (f52 [(0, .inr 3), (1, .inl a1), (2, .inl a2), (3, .inl a3)] [.inl 0] S)))))))) := rfl
theorem u_X2_countNearer_4 (n : Nat) (S : XS) (a1 a2 a3 : Int32) : b_X2_countNearer_4 (n + 1) [(0, .inr 3), (1, .inl a1), (2, .inl a2), (3, .inl a3)] [] S = (if S 3 11 ≤ a3 then (some (S, some (some (.inl a2)))) else (gA a3 80 (gA a1 80 (if S 21 a3.toNatClampNeg < S 21 a1.toNatClampNeg then (b_X2_countNearer_52 (b_X2_countNearer_4 n) [(0, .inr 3), (1, .inl a1), (2, .inl a2), (3, .inl a3)] [.inl 1] S) else (gA a3 80 (gA a1 80 (if S 21 a3.toNatClampNeg = S 21 a1.toNatClampNeg then (if a1 ≤ a3 then (b_X2_countNearer_52 (b_X2_countNearer_4 n) [(0, .inr 3), (1, .inl a1), (2, .inl a2), (3, .inl a3)] [.inl 0] S) else (b_X2_countNearer_52 (b_X2_countNearer_4 n) [(0, .inr 3), (1, .inl a1), (2, .inl a2), (3, .inl a3)] [.inl 1] S)) else (b_X2_countNearer_52 (b_X2_countNearer_4 n) [(0, .inr 3), (1, .inl a1), (2, .inl a2), (3, .inl a3)] [.inl 0] S)))))))) := v_X2_countNearer_4 _ S a1 a2 a3
set_option maxRecDepth 100000 in
theorem v_X2_countNearer_52 (f4 : BT) (S : XS) (a1 a2 a3 t0 : Int32) : brn xT cs_X2_countNearer L_X2_countNearer [4, 52] (dsp [(4, [0, 1, 2, 3], f4)]) 59 [] 52 [(0, .inr 3), (1, .inl a1), (2, .inl a2), (3, .inl a3)] [.inl t0] S = (if t0 = 0 then (f4 [(0, .inr 3), (1, .inl a1), (2, .inl (a2 + 0)), (3, .inl (a3 + 1))] [] S) else (gA a1 80 (gA a1 80 (cli (m_X2_isOn [.inr 3, .inl a3, .inl (S 14 a1.toNatClampNeg), .inl (S 20 a1.toNatClampNeg)] S) (fun S1 r1 => if r1 = 0 then (f4 [(0, .inr 3), (1, .inl a1), (2, .inl (a2 + 0)), (3, .inl (a3 + 1))] [] S1) else (f4 [(0, .inr 3), (1, .inl a1), (2, .inl (a2 + 1)), (3, .inl (a3 + 1))] [] S1)))))) := rfl
theorem u_X2_countNearer_52 (k4 : BT) (S : XS) (a1 a2 a3 t0 : Int32) : b_X2_countNearer_52 k4 [(0, .inr 3), (1, .inl a1), (2, .inl a2), (3, .inl a3)] [.inl t0] S = (if t0 = 0 then (k4 [(0, .inr 3), (1, .inl a1), (2, .inl (a2 + 0)), (3, .inl (a3 + 1))] [] S) else (gA a1 80 (gA a1 80 (cli (m_X2_isOn [.inr 3, .inl a3, .inl (S 14 a1.toNatClampNeg), .inl (S 20 a1.toNatClampNeg)] S) (fun S1 r1 => if r1 = 0 then (k4 [(0, .inr 3), (1, .inl a1), (2, .inl (a2 + 0)), (3, .inl (a3 + 1))] [] S1) else (k4 [(0, .inr 3), (1, .inl a1), (2, .inl (a2 + 1)), (3, .inl (a3 + 1))] [] S1)))))) := v_X2_countNearer_52 _ S a1 a2 a3 t0
set_option maxRecDepth 100000 in
theorem v_X3_clear_5 (f12 : BT) (S : XS) : brn xT cs_X3_clear L_X3_clear [12] (dsp [(12, [0, 1], f12)]) 21 [] 0 [(0, .inr 5)] [] S = (f12 [(0, .inr 5), (1, .inl 0)] [] (up2 (up2 S 5 4 0) 5 5 0)) := rfl
theorem u_X3_clear_5 (S : XS) : m_X3_clear [.inr 5] S = (b_X3_clear_12 fu [(0, .inr 5), (1, .inl 0)] [] (up2 (up2 S 5 4 0) 5 5 0)) := v_X3_clear_5 _ S
set_option maxRecDepth 100000 in
theorem v_X3_clear_5_12 (f12 : BT) (S : XS) (a1 : Int32) : brn xT cs_X3_clear L_X3_clear [12] (dsp [(12, [0, 1], f12)]) 21 [] 12 [(0, .inr 5), (1, .inl a1)] [] S = (if 10 ≤ a1 then (some (S, some none)) else (gA a1 10 (f12 [(0, .inr 5), (1, .inl (a1 + 1))] [] (up2 S 34 a1.toNatClampNeg (-100003))))) := rfl
theorem u_X3_clear_5_12 (n : Nat) (S : XS) (a1 : Int32) : b_X3_clear_12 (n + 1) [(0, .inr 5), (1, .inl a1)] [] S = (if 10 ≤ a1 then (some (S, some none)) else (gA a1 10 (b_X3_clear_12 n [(0, .inr 5), (1, .inl (a1 + 1))] [] (up2 S 34 a1.toNatClampNeg (-100003))))) := v_X3_clear_5_12 _ S a1
set_option maxRecDepth 100000 in
theorem v_X3_clear_6 (f12 : BT) (S : XS) : brn xT cs_X3_clear L_X3_clear [12] (dsp [(12, [0, 1], f12)]) 21 [] 0 [(0, .inr 6)] [] S = (f12 [(0, .inr 6), (1, .inl 0)] [] (up2 (up2 S 6 4 0) 6 5 0)) := rfl
theorem u_X3_clear_6 (S : XS) : m_X3_clear [.inr 6] S = (b_X3_clear_12 fu [(0, .inr 6), (1, .inl 0)] [] (up2 (up2 S 6 4 0) 6 5 0)) := v_X3_clear_6 _ S
set_option maxRecDepth 100000 in
theorem v_X3_clear_6_12 (f12 : BT) (S : XS) (a1 : Int32) : brn xT cs_X3_clear L_X3_clear [12] (dsp [(12, [0, 1], f12)]) 21 [] 12 [(0, .inr 6), (1, .inl a1)] [] S = (if 10 ≤ a1 then (some (S, some none)) else (gA a1 10 (f12 [(0, .inr 6), (1, .inl (a1 + 1))] [] (up2 S 38 a1.toNatClampNeg (-100003))))) := rfl
theorem u_X3_clear_6_12 (n : Nat) (S : XS) (a1 : Int32) : b_X3_clear_12 (n + 1) [(0, .inr 6), (1, .inl a1)] [] S = (if 10 ≤ a1 then (some (S, some none)) else (gA a1 10 (b_X3_clear_12 n [(0, .inr 6), (1, .inl (a1 + 1))] [] (up2 S 38 a1.toNatClampNeg (-100003))))) := v_X3_clear_6_12 _ S a1
set_option maxRecDepth 100000 in
theorem u_X3_cover_5 (S : XS) (a1 a2 a3 : Int32) : m_X3_cover [.inr 5, .inl a1, .inl a2, .inl a3] S = (if a3 ≤ 18 then (some (S, some none)) else (if 170 ≤ S 5 4 then (some (S, some none)) else (gA (S 5 4) 170 (gA ((up2 S 31 (S 5 4).toNatClampNeg a1) 5 4) 170 (gA ((up2 (up2 S 31 (S 5 4).toNatClampNeg a1) 32 ((up2 S 31 (S 5 4).toNatClampNeg a1) 5 4).toNatClampNeg a2) 5 4) 170 (some (up2 (up2 (up2 (up2 S 31 (S 5 4).toNatClampNeg a1) 32 ((up2 S 31 (S 5 4).toNatClampNeg a1) 5 4).toNatClampNeg a2) 33 ((up2 (up2 S 31 (S 5 4).toNatClampNeg a1) 32 ((up2 S 31 (S 5 4).toNatClampNeg a1) 5 4).toNatClampNeg a2) 5 4).toNatClampNeg a3) 5 4 (((up2 (up2 (up2 S 31 (S 5 4).toNatClampNeg a1) 32 ((up2 S 31 (S 5 4).toNatClampNeg a1) 5 4).toNatClampNeg a2) 33 ((up2 (up2 S 31 (S 5 4).toNatClampNeg a1) 32 ((up2 S 31 (S 5 4).toNatClampNeg a1) 5 4).toNatClampNeg a2) 5 4).toNatClampNeg a3) 5 4) + 1), some none))))))) := rfl
set_option maxRecDepth 100000 in
theorem u_X3_cover_6 (S : XS) (a1 a2 a3 : Int32) : m_X3_cover [.inr 6, .inl a1, .inl a2, .inl a3] S = (if a3 ≤ 18 then (some (S, some none)) else (if 170 ≤ S 6 4 then (some (S, some none)) else (gA (S 6 4) 170 (gA ((up2 S 35 (S 6 4).toNatClampNeg a1) 6 4) 170 (gA ((up2 (up2 S 35 (S 6 4).toNatClampNeg a1) 36 ((up2 S 35 (S 6 4).toNatClampNeg a1) 6 4).toNatClampNeg a2) 6 4) 170 (some (up2 (up2 (up2 (up2 S 35 (S 6 4).toNatClampNeg a1) 36 ((up2 S 35 (S 6 4).toNatClampNeg a1) 6 4).toNatClampNeg a2) 37 ((up2 (up2 S 35 (S 6 4).toNatClampNeg a1) 36 ((up2 S 35 (S 6 4).toNatClampNeg a1) 6 4).toNatClampNeg a2) 6 4).toNatClampNeg a3) 6 4 (((up2 (up2 (up2 S 35 (S 6 4).toNatClampNeg a1) 36 ((up2 S 35 (S 6 4).toNatClampNeg a1) 6 4).toNatClampNeg a2) 37 ((up2 (up2 S 35 (S 6 4).toNatClampNeg a1) 36 ((up2 S 35 (S 6 4).toNatClampNeg a1) 6 4).toNatClampNeg a2) 6 4).toNatClampNeg a3) 6 4) + 1), some none))))))) := rfl
set_option maxRecDepth 100000 in
theorem v_X3_greatest_5 (f6 : BT) (S : XS) (a1 a2 : Int32) : brn xT cs_X3_greatest L_X3_greatest [6] (dsp [(6, [0, 1, 2, 3, 4], f6)]) 33 [] 0 [(0, .inr 5), (1, .inl a1), (2, .inl a2)] [] S = (f6 [(0, .inr 5), (1, .inl a1), (2, .inl a2), (3, .inl 18), (4, .inl 0)] [] S) := rfl
theorem u_X3_greatest_5 (S : XS) (a1 a2 : Int32) : m_X3_greatest [.inr 5, .inl a1, .inl a2] S = (b_X3_greatest_6 fu [(0, .inr 5), (1, .inl a1), (2, .inl a2), (3, .inl 18), (4, .inl 0)] [] S) := v_X3_greatest_5 _ S a1 a2
set_option maxRecDepth 100000 in
theorem v_X3_greatest_5_6 (f6 : BT) (S : XS) (a1 a2 a3 a4 : Int32) : brn xT cs_X3_greatest L_X3_greatest [6] (dsp [(6, [0, 1, 2, 3, 4], f6)]) 33 [] 6 [(0, .inr 5), (1, .inl a1), (2, .inl a2), (3, .inl a3), (4, .inl a4)] [] S = (if S 5 4 ≤ a4 then (some (S, some (some (.inl a3)))) else (gA a4 170 (if a2 < S 31 a4.toNatClampNeg then (f6 [(0, .inr 5), (1, .inl a1), (2, .inl a2), (3, .inl a3), (4, .inl (a4 + 1))] [] S) else (gA a4 170 (if S 32 a4.toNatClampNeg < a1 then (f6 [(0, .inr 5), (1, .inl a1), (2, .inl a2), (3, .inl a3), (4, .inl (a4 + 1))] [] S) else (gA a4 170 (f6 [(0, .inr 5), (1, .inl a1), (2, .inl a2), (3, .inl (if a3 < S 33 a4.toNatClampNeg then S 33 a4.toNatClampNeg else a3)), (4, .inl (a4 + 1))] [] S))))))) := rfl
theorem u_X3_greatest_5_6 (n : Nat) (S : XS) (a1 a2 a3 a4 : Int32) : b_X3_greatest_6 (n + 1) [(0, .inr 5), (1, .inl a1), (2, .inl a2), (3, .inl a3), (4, .inl a4)] [] S = (if S 5 4 ≤ a4 then (some (S, some (some (.inl a3)))) else (gA a4 170 (if a2 < S 31 a4.toNatClampNeg then (b_X3_greatest_6 n [(0, .inr 5), (1, .inl a1), (2, .inl a2), (3, .inl a3), (4, .inl (a4 + 1))] [] S) else (gA a4 170 (if S 32 a4.toNatClampNeg < a1 then (b_X3_greatest_6 n [(0, .inr 5), (1, .inl a1), (2, .inl a2), (3, .inl a3), (4, .inl (a4 + 1))] [] S) else (gA a4 170 (b_X3_greatest_6 n [(0, .inr 5), (1, .inl a1), (2, .inl a2), (3, .inl (if a3 < S 33 a4.toNatClampNeg then S 33 a4.toNatClampNeg else a3)), (4, .inl (a4 + 1))] [] S))))))) := v_X3_greatest_5_6 _ S a1 a2 a3 a4
set_option maxRecDepth 100000 in
theorem v_X3_greatest_6 (f6 : BT) (S : XS) (a1 a2 : Int32) : brn xT cs_X3_greatest L_X3_greatest [6] (dsp [(6, [0, 1, 2, 3, 4], f6)]) 33 [] 0 [(0, .inr 6), (1, .inl a1), (2, .inl a2)] [] S = (f6 [(0, .inr 6), (1, .inl a1), (2, .inl a2), (3, .inl 18), (4, .inl 0)] [] S) := rfl
theorem u_X3_greatest_6 (S : XS) (a1 a2 : Int32) : m_X3_greatest [.inr 6, .inl a1, .inl a2] S = (b_X3_greatest_6 fu [(0, .inr 6), (1, .inl a1), (2, .inl a2), (3, .inl 18), (4, .inl 0)] [] S) := v_X3_greatest_6 _ S a1 a2
set_option maxRecDepth 100000 in
theorem v_X3_greatest_6_6 (f6 : BT) (S : XS) (a1 a2 a3 a4 : Int32) : brn xT cs_X3_greatest L_X3_greatest [6] (dsp [(6, [0, 1, 2, 3, 4], f6)]) 33 [] 6 [(0, .inr 6), (1, .inl a1), (2, .inl a2), (3, .inl a3), (4, .inl a4)] [] S = (if S 6 4 ≤ a4 then (some (S, some (some (.inl a3)))) else (gA a4 170 (if a2 < S 35 a4.toNatClampNeg then (f6 [(0, .inr 6), (1, .inl a1), (2, .inl a2), (3, .inl a3), (4, .inl (a4 + 1))] [] S) else (gA a4 170 (if S 36 a4.toNatClampNeg < a1 then (f6 [(0, .inr 6), (1, .inl a1), (2, .inl a2), (3, .inl a3), (4, .inl (a4 + 1))] [] S) else (gA a4 170 (f6 [(0, .inr 6), (1, .inl a1), (2, .inl a2), (3, .inl (if a3 < S 37 a4.toNatClampNeg then S 37 a4.toNatClampNeg else a3)), (4, .inl (a4 + 1))] [] S))))))) := rfl
theorem u_X3_greatest_6_6 (n : Nat) (S : XS) (a1 a2 a3 a4 : Int32) : b_X3_greatest_6 (n + 1) [(0, .inr 6), (1, .inl a1), (2, .inl a2), (3, .inl a3), (4, .inl a4)] [] S = (if S 6 4 ≤ a4 then (some (S, some (some (.inl a3)))) else (gA a4 170 (if a2 < S 35 a4.toNatClampNeg then (b_X3_greatest_6 n [(0, .inr 6), (1, .inl a1), (2, .inl a2), (3, .inl a3), (4, .inl (a4 + 1))] [] S) else (gA a4 170 (if S 36 a4.toNatClampNeg < a1 then (b_X3_greatest_6 n [(0, .inr 6), (1, .inl a1), (2, .inl a2), (3, .inl a3), (4, .inl (a4 + 1))] [] S) else (gA a4 170 (b_X3_greatest_6 n [(0, .inr 6), (1, .inl a1), (2, .inl a2), (3, .inl (if a3 < S 37 a4.toNatClampNeg then S 37 a4.toNatClampNeg else a3)), (4, .inl (a4 + 1))] [] S))))))) := v_X3_greatest_6_6 _ S a1 a2 a3 a4
set_option maxRecDepth 100000 in
theorem u_X3_reachOut_5 (S : XS) (a1 : Int32) : m_X3_reachOut [.inr 5, .inl a1] S = (some (up2 S 5 5 (if S 5 5 < a1 then a1 else S 5 5), some none)) := rfl
set_option maxRecDepth 100000 in
theorem u_X3_reachOut_6 (S : XS) (a1 : Int32) : m_X3_reachOut [.inr 6, .inl a1] S = (some (up2 S 6 5 (if S 6 5 < a1 then a1 else S 6 5), some none)) := rfl
set_option maxRecDepth 100000 in
theorem u_X4_has (S : XS) (a1 : Int32) : m_X4_has [.inr 4, .inl a1] S = (if a1 < 0 then (some (S, some (some (.inl 0)))) else (if S 4 6 ≤ a1 then (some (S, some (some (.inl 0)))) else (some (S, some (some (.inl 1)))))) := rfl
set_option maxRecDepth 100000 in
theorem u_X4_add (S : XS) (a1 a2 a3 a4 : Int32) : m_X4_add [.inr 4, .inl a1, .inl a2, .inl a3, .inl a4] S = (gA (S 4 6) 10 (gA (S 4 6) 10 (gA (S 4 6) 10 (gA (S 4 6) 10 (some (up2 (up2 (up2 (up2 (up2 S 25 (S 4 6).toNatClampNeg a1) 26 (S 4 6).toNatClampNeg a2) 27 (S 4 6).toNatClampNeg a3) 28 (S 4 6).toNatClampNeg a4) 4 6 (((up2 (up2 (up2 (up2 S 25 (S 4 6).toNatClampNeg a1) 26 (S 4 6).toNatClampNeg a2) 27 (S 4 6).toNatClampNeg a3) 28 (S 4 6).toNatClampNeg a4) 4 6) + 1), some (some (.inl (S 4 6))))))))) := rfl
end
section
section
variable {p : Program} {l : Launch} {e : Env} {R : Room} {s : State} {m : MethodId} {args : Array Value} {below : List Frame} {meth : Method} {c : Code} {cells slots : Nat} {Q : State → Prop} {D : va_G} {g : Nat → Nat} {cI cZ : ClassId} {A : Nat → Prop} {R0 : RS}
def L_X5_isWithin : List CE := [(0, .iload_n 0, 1, [], 0), (1, .iload_n 1, 2, [], 0), (2, .if_icmp .lt 12, 5, [14], 0), (5, .iload_n 0, 6, [], 0), (6, .iload_n 2, 7, [], 0), (7, .if_icmp .gt 7, 10, [14], 0), (10, .iconst 1, 11, [], 1), (11, .goto 4, 14, [15], 0), (14, .iconst 0, 15, [], 0), (15, .ireturn, 16, [1], 0)]
theorem ok_X5_isWithin : ∀ q ∈ L_X5_isWithin, rok cX5_isWithin 3 1 q = true := by decide +kernel
theorem fk_X5_isWithin : ∀ q ∈ L_X5_isWithin, fck FT_X5 PT_X5 KT_X5 q = true := by decide +kernel
noncomputable def cs_X5_isWithin : List CT := []
noncomputable def m_X5_isWithin : MT := fun As S => brn xT cs_X5_isWithin L_X5_isWithin [] (dsp []) 12 [] 0 (zipN 0 As) [] S
theorem s_X5_isWithin (M : xM p l e R s m args below meth c cells slots Q D xT g cI cZ A 3 cX5_isWithin RX5 1 cs_X5_isWithin L_X5_isWithin R0) {As : List AV} {S : XS} (h : m_X5_isWithin As S = some R0) : xG p l e R s m args below meth c cells slots Q D xT g cI cZ A 3 0 (zipN 0 As) [] S := xa_blk M (fun _ q => absurd q List.not_mem_nil) h
set_option maxRecDepth 20000 in
theorem c_X5_isWithin {l : Launch} {D : va_G} {g : Nat → Nat} {cI cZ : ClassId} {A : Nat → Prop} (hD : ∀ S, va_D A (ww xT g cI cZ S)) : xMet l D xT g cI cZ A yX5_isWithin (wm yX5_isWithin cX5_isWithin 3 1) { frames := 0, cells := 0, slots := 0, locals := 0 } 3 m_X5_isWithin :=
  xa_met (ft := FT_X5) (pt := PT_X5) (kt := KT_X5) (cs := cs_X5_isWithin) (L := L_X5_isWithin) hD (by decide) (by decide) ok_X5_isWithin fk_X5_isWithin fa_X5 (fun p e s m args below meth c Q R0 C0 hts hN => all_get (fun _ q => absurd q List.not_mem_nil)) (fun p e s m args below meth c Q R0 As S M h => s_X5_isWithin M h)
def L_X5_isHead : List CE := [(0, .iload_n 0, 1, [], 0), (1, .bipush (-60), 3, [], (-60)), (3, .bipush 60, 5, [], 60), (5, .invokestatic 55, 8, [0], 0), (8, .ireturn, 9, [1], 0)]
theorem ok_X5_isHead : ∀ q ∈ L_X5_isHead, rok cX5_isHead 1 1 q = true := by decide +kernel
theorem fk_X5_isHead : ∀ q ∈ L_X5_isHead, fck FT_X5 PT_X5 KT_X5 q = true := by decide +kernel
noncomputable def cs_X5_isHead : List CT := [(true, 55, 3, 1, 5, m_X5_isWithin)]
noncomputable def m_X5_isHead : MT := fun As S => brn xT cs_X5_isHead L_X5_isHead [] (dsp []) 7 [] 0 (zipN 0 As) [] S
theorem s_X5_isHead (M : xM p l e R s m args below meth c cells slots Q D xT g cI cZ A 1 cX5_isHead RX5 1 cs_X5_isHead L_X5_isHead R0) {As : List AV} {S : XS} (h : m_X5_isHead As S = some R0) : xG p l e R s m args below meth c cells slots Q D xT g cI cZ A 1 0 (zipN 0 As) [] S := xa_blk M (fun _ q => absurd q List.not_mem_nil) h
set_option maxRecDepth 20000 in
theorem c_X5_isHead {l : Launch} {D : va_G} {g : Nat → Nat} {cI cZ : ClassId} {A : Nat → Prop} (hD : ∀ S, va_D A (ww xT g cI cZ S)) : xMet l D xT g cI cZ A yX5_isHead (wm yX5_isHead cX5_isHead 1 1) { frames := 1, cells := 0, slots := 0, locals := 22 } 1 m_X5_isHead :=
  xa_met (ft := FT_X5) (pt := PT_X5) (kt := KT_X5) (cs := cs_X5_isHead) (L := L_X5_isHead) hD (by decide) (by decide) ok_X5_isHead fk_X5_isHead fa_X5 (fun p e s m args below meth c Q R0 C0 hts hN => all_get (List.forall_mem_cons.mpr ⟨xcf_S C0 hts hN (c_X5_isWithin hD) (good_S kl_X5_55 kt_X5_isWithin kn_X5 kc_X5_isWithin) rfl ⟨rfl, rfl⟩ (by decide +kernel) ⟨by decide, by decide⟩ ⟨Nat.zero_le _, Nat.zero_le _⟩, fun _ q => absurd q List.not_mem_nil⟩)) (fun p e s m args below meth c Q R0 As S M h => s_X5_isHead M h)
def L_X5_addItem : List CE := [(0, .iload_n 1, 1, [], 0), (1, .iconst 0, 2, [], 0), (2, .ldc 180, 4, [], 100000), (4, .invokestatic 55, 7, [0], 0), (7, .ifCond .eq 24, 10, [31], 0), (10, .iload 4, 12, [], 0), (12, .iconst 0, 13, [], 0), (13, .iconst 1, 14, [], 1), (14, .invokestatic 55, 17, [0], 0), (17, .ifCond .eq 14, 20, [31], 0), (20, .aload_n 0, 21, [], 0), (21, .getfield 10, 24, [5, 0], 0), (24, .iload_n 1, 25, [], 0), (25, .invokevirtual 214, 28, [1], 0), (28, .ifCond .eq 6, 31, [34], 0), (31, .ldc 59, 33, [], (-100001)), (33, .ireturn, 34, [0], 0), (34, .aload_n 0, 35, [], 0), (35, .getfield 10, 38, [5, 0], 0), (38, .getfield 200, 41, [0, 6], 0), (41, .bipush 40, 43, [], 40), (43, .if_icmp .lt 6, 46, [49], 0), (46, .ldc 90, 48, [], (-100002)), (48, .ireturn, 49, [0], 0), (49, .aload_n 0, 50, [], 0), (50, .iconst 0, 51, [], 0), (51, .putfield 73, 54, [5, 9, 1], 0), (54, .aload_n 0, 55, [], 0), (55, .getfield 10, 58, [5, 0], 0), (58, .iload_n 1, 59, [], 0), (59, .iload_n 2, 60, [], 0), (60, .iload_n 3, 61, [], 0), (61, .iload 4, 63, [], 0), (63, .iload 5, 65, [], 0), (65, .iload 6, 67, [], 0), (67, .invokevirtual 217, 70, [2], 0), (70, .ireturn, 71, [0], 0)]
theorem ok_X5_addItem : ∀ q ∈ L_X5_addItem, rok cX5_addItem 7 0 q = true := by decide +kernel
theorem fk_X5_addItem : ∀ q ∈ L_X5_addItem, fck FT_X5 PT_X5 KT_X5 q = true := by decide +kernel
noncomputable def cs_X5_addItem : List CT := [(true, 55, 3, 1, 5, m_X5_isWithin), (false, 214, 2, 1, 0, m_X0_isAt), (false, 217, 7, 1, 0, m_X0_add)]
noncomputable def m_X5_addItem : MT := fun As S => brn xT cs_X5_addItem L_X5_addItem [] (dsp []) 39 [] 0 (zipN 0 As) [] S
theorem s_X5_addItem (M : xM p l e R s m args below meth c cells slots Q D xT g cI cZ A 7 cX5_addItem RX5 0 cs_X5_addItem L_X5_addItem R0) {As : List AV} {S : XS} (h : m_X5_addItem As S = some R0) : xG p l e R s m args below meth c cells slots Q D xT g cI cZ A 7 0 (zipN 0 As) [] S := xa_blk M (fun _ q => absurd q List.not_mem_nil) h
set_option maxRecDepth 20000 in
theorem c_X5_addItem {l : Launch} {D : va_G} {g : Nat → Nat} {cI cZ : ClassId} {A : Nat → Prop} (hD : ∀ S, va_D A (ww xT g cI cZ S)) : xMet l D xT g cI cZ A yX5_addItem (wm yX5_addItem cX5_addItem 7 0) { frames := 1, cells := 0, slots := 0, locals := 27 } 7 m_X5_addItem :=
  xa_met (ft := FT_X5) (pt := PT_X5) (kt := KT_X5) (cs := cs_X5_addItem) (L := L_X5_addItem) hD (by decide) (by decide) ok_X5_addItem fk_X5_addItem fa_X5 (fun p e s m args below meth c Q R0 C0 hts hN => all_get (List.forall_mem_cons.mpr ⟨xcf_S C0 hts hN (c_X5_isWithin hD) (good_S kl_X5_55 kt_X5_isWithin kn_X5 kc_X5_isWithin) rfl ⟨rfl, rfl⟩ (by decide +kernel) ⟨by decide, by decide⟩ ⟨Nat.zero_le _, Nat.zero_le _⟩, List.forall_mem_cons.mpr ⟨xcf_VN (C := RX0) (host := "StackMarks") C0 hts hN (c_X0_isAt hD) (good_N kc_X0_isAt) (by decide +kernel) (List.mem_cons_of_mem _ kn_X0) (List.mem_cons_of_mem _ ki_X0_isAt) (List.mem_cons_of_mem _ ks_X0_isAt) rfl ⟨rfl, rfl⟩ rfl (by decide +kernel) ⟨by decide, by decide⟩ ⟨Nat.zero_le _, Nat.zero_le _⟩, List.forall_mem_cons.mpr ⟨xcf_VN (C := RX0) (host := "StackMarks") C0 hts hN (c_X0_add hD) (good_N kc_X0_add) (by decide +kernel) (List.mem_cons_of_mem _ kn_X0) (List.mem_cons_of_mem _ ki_X0_add) (List.mem_cons_of_mem _ ks_X0_add) rfl ⟨rfl, rfl⟩ rfl (by decide +kernel) ⟨by decide, by decide⟩ ⟨Nat.zero_le _, Nat.zero_le _⟩, fun _ q => absurd q List.not_mem_nil⟩⟩⟩)) (fun p e s m args below meth c Q R0 As S M h => s_X5_addItem M h)
def L_X5_note : List CE := [(0, .iload_n 2, 1, [], 0), (1, .invokestatic 51, 4, [0], 0), (4, .ifCond .eq 25, 7, [29], 0), (7, .iload_n 3, 8, [], 0), (8, .invokestatic 51, 11, [0], 0), (11, .ifCond .eq 18, 14, [29], 0), (14, .iload_n 2, 15, [], 0), (15, .iload_n 3, 16, [], 0), (16, .if_icmp .gt 13, 19, [29], 0), (19, .iload 5, 21, [], 0), (21, .iconst (-1), 22, [], (-1)), (22, .iconst 1, 23, [], 1), (23, .invokestatic 55, 26, [1], 0), (26, .ifCond .ne 6, 29, [32], 0), (29, .ldc 59, 31, [], (-100001)), (31, .ireturn, 32, [0], 0), (32, .aload_n 0, 33, [], 0), (33, .iload_n 1, 34, [], 0), (34, .iload_n 2, 35, [], 0), (35, .iload_n 3, 36, [], 0), (36, .iload 4, 38, [], 0), (38, .iload 5, 40, [], 0), (40, .iconst 0, 41, [], 0), (41, .invokevirtual 60, 44, [2], 0), (44, .ireturn, 45, [0], 0)]
theorem ok_X5_note : ∀ q ∈ L_X5_note, rok cX5_note 6 0 q = true := by decide +kernel
theorem fk_X5_note : ∀ q ∈ L_X5_note, fck FT_X5 PT_X5 KT_X5 q = true := by decide +kernel
noncomputable def cs_X5_note : List CT := [(true, 51, 1, 1, 5, m_X5_isHead), (true, 55, 3, 1, 5, m_X5_isWithin), (false, 60, 7, 1, 5, m_X5_addItem)]
noncomputable def m_X5_note : MT := fun As S => brn xT cs_X5_note L_X5_note [] (dsp []) 27 [] 0 (zipN 0 As) [] S
theorem s_X5_note (M : xM p l e R s m args below meth c cells slots Q D xT g cI cZ A 6 cX5_note RX5 0 cs_X5_note L_X5_note R0) {As : List AV} {S : XS} (h : m_X5_note As S = some R0) : xG p l e R s m args below meth c cells slots Q D xT g cI cZ A 6 0 (zipN 0 As) [] S := xa_blk M (fun _ q => absurd q List.not_mem_nil) h
set_option maxRecDepth 20000 in
theorem c_X5_note {l : Launch} {D : va_G} {g : Nat → Nat} {cI cZ : ClassId} {A : Nat → Prop} (hD : ∀ S, va_D A (ww xT g cI cZ S)) : xMet l D xT g cI cZ A yX5_note (wm yX5_note cX5_note 6 0) { frames := 2, cells := 0, slots := 0, locals := 53 } 6 m_X5_note :=
  xa_met (ft := FT_X5) (pt := PT_X5) (kt := KT_X5) (cs := cs_X5_note) (L := L_X5_note) hD (by decide) (by decide) ok_X5_note fk_X5_note fa_X5 (fun p e s m args below meth c Q R0 C0 hts hN => all_get (List.forall_mem_cons.mpr ⟨xcf_S C0 hts hN (c_X5_isHead hD) (good_S kl_X5_51 kt_X5_isHead kn_X5 kc_X5_isHead) rfl ⟨rfl, rfl⟩ (by decide +kernel) ⟨by decide, by decide⟩ ⟨Nat.zero_le _, Nat.zero_le _⟩, List.forall_mem_cons.mpr ⟨xcf_S C0 hts hN (c_X5_isWithin hD) (good_S kl_X5_55 kt_X5_isWithin kn_X5 kc_X5_isWithin) rfl ⟨rfl, rfl⟩ (by decide +kernel) ⟨by decide, by decide⟩ ⟨Nat.zero_le _, Nat.zero_le _⟩, List.forall_mem_cons.mpr ⟨xcf_V (C := RX5) C0 hts hN (c_X5_addItem hD) (good_V kl_X5_60 ki_X5_addItem ks_X5_addItem kn_X5 kc_X5_addItem) rfl ⟨rfl, rfl⟩ rfl (by decide +kernel) ⟨by decide, by decide⟩ ⟨Nat.zero_le _, Nat.zero_le _⟩, fun _ q => absurd q List.not_mem_nil⟩⟩⟩)) (fun p e s m args below meth c Q R0 As S M h => s_X5_note M h)
def L_X5_rest : List CE := [(0, .iload_n 2, 1, [], 0), (1, .invokestatic 51, 4, [0], 0), (4, .ifCond .ne 6, 7, [10], 0), (7, .ldc 59, 9, [], (-100001)), (9, .ireturn, 10, [0], 0), (10, .aload_n 0, 11, [], 0), (11, .iload_n 1, 12, [], 0), (12, .iload_n 2, 13, [], 0), (13, .iload_n 2, 14, [], 0), (14, .iload_n 3, 15, [], 0), (15, .iconst 0, 16, [], 0), (16, .iconst 1, 17, [], 1), (17, .invokevirtual 60, 20, [1], 0), (20, .ireturn, 21, [0], 0)]
theorem ok_X5_rest : ∀ q ∈ L_X5_rest, rok cX5_rest 4 0 q = true := by decide +kernel
theorem fk_X5_rest : ∀ q ∈ L_X5_rest, fck FT_X5 PT_X5 KT_X5 q = true := by decide +kernel
noncomputable def cs_X5_rest : List CT := [(true, 51, 1, 1, 5, m_X5_isHead), (false, 60, 7, 1, 5, m_X5_addItem)]
noncomputable def m_X5_rest : MT := fun As S => brn xT cs_X5_rest L_X5_rest [] (dsp []) 16 [] 0 (zipN 0 As) [] S
theorem s_X5_rest (M : xM p l e R s m args below meth c cells slots Q D xT g cI cZ A 4 cX5_rest RX5 0 cs_X5_rest L_X5_rest R0) {As : List AV} {S : XS} (h : m_X5_rest As S = some R0) : xG p l e R s m args below meth c cells slots Q D xT g cI cZ A 4 0 (zipN 0 As) [] S := xa_blk M (fun _ q => absurd q List.not_mem_nil) h
set_option maxRecDepth 20000 in
theorem c_X5_rest {l : Launch} {D : va_G} {g : Nat → Nat} {cI cZ : ClassId} {A : Nat → Prop} (hD : ∀ S, va_D A (ww xT g cI cZ S)) : xMet l D xT g cI cZ A yX5_rest (wm yX5_rest cX5_rest 4 0) { frames := 2, cells := 0, slots := 0, locals := 53 } 4 m_X5_rest :=
  xa_met (ft := FT_X5) (pt := PT_X5) (kt := KT_X5) (cs := cs_X5_rest) (L := L_X5_rest) hD (by decide) (by decide) ok_X5_rest fk_X5_rest fa_X5 (fun p e s m args below meth c Q R0 C0 hts hN => all_get (List.forall_mem_cons.mpr ⟨xcf_S C0 hts hN (c_X5_isHead hD) (good_S kl_X5_51 kt_X5_isHead kn_X5 kc_X5_isHead) rfl ⟨rfl, rfl⟩ (by decide +kernel) ⟨by decide, by decide⟩ ⟨Nat.zero_le _, Nat.zero_le _⟩, List.forall_mem_cons.mpr ⟨xcf_V (C := RX5) C0 hts hN (c_X5_addItem hD) (good_V kl_X5_60 ki_X5_addItem ks_X5_addItem kn_X5 kc_X5_addItem) rfl ⟨rfl, rfl⟩ rfl (by decide +kernel) ⟨by decide, by decide⟩ ⟨Nat.zero_le _, Nat.zero_le _⟩, fun _ q => absurd q List.not_mem_nil⟩⟩)) (fun p e s m args below meth c Q R0 As S M h => s_X5_rest M h)
def L_X5_lift : List CE := [(0, .aload_n 0, 1, [], 0), (1, .getfield 10, 4, [5, 0], 0), (4, .iload_n 1, 5, [], 0), (5, .invokevirtual 64, 8, [0], 0), (8, .ifCond .eq 14, 11, [22], 0), (11, .iload_n 2, 12, [], 0), (12, .bipush (-120), 14, [], (-120)), (14, .bipush 120, 16, [], 120), (16, .invokestatic 55, 19, [1], 0), (19, .ifCond .ne 6, 22, [25], 0), (22, .ldc 59, 24, [], (-100001)), (24, .ireturn, 25, [0], 0), (25, .aload_n 0, 26, [], 0), (26, .getfield 10, 29, [5, 0], 0), (29, .getfield 67, 32, [0, 1], 0), (32, .iload_n 1, 33, [], 0), (33, .iaload, 34, [], 0), (34, .iload_n 2, 35, [], 0), (35, .iadd, 36, [], 0), (36, .invokestatic 51, 39, [2], 0), (39, .ifCond .eq 20, 42, [59], 0), (42, .aload_n 0, 43, [], 0), (43, .getfield 10, 46, [5, 0], 0), (46, .getfield 70, 49, [0, 2], 0), (49, .iload_n 1, 50, [], 0), (50, .iaload, 51, [], 0), (51, .iload_n 2, 52, [], 0), (52, .iadd, 53, [], 0), (53, .invokestatic 51, 56, [2], 0), (56, .ifCond .ne 6, 59, [62], 0), (59, .ldc 59, 61, [], (-100001)), (61, .ireturn, 62, [0], 0), (62, .aload_n 0, 63, [], 0), (63, .getfield 10, 66, [5, 0], 0), (66, .getfield 67, 69, [0, 1], 0), (69, .iload_n 1, 70, [], 0), (70, .dup2, 71, [], 0), (71, .iaload, 72, [], 0), (72, .iload_n 2, 73, [], 0), (73, .iadd, 74, [], 0), (74, .iastore, 75, [], 0), (75, .aload_n 0, 76, [], 0), (76, .getfield 10, 79, [5, 0], 0), (79, .getfield 70, 82, [0, 2], 0), (82, .iload_n 1, 83, [], 0), (83, .dup2, 84, [], 0), (84, .iaload, 85, [], 0), (85, .iload_n 2, 86, [], 0), (86, .iadd, 87, [], 0), (87, .iastore, 88, [], 0), (88, .aload_n 0, 89, [], 0), (89, .iconst 0, 90, [], 0), (90, .putfield 73, 93, [5, 9, 1], 0), (93, .iconst 1, 94, [], 1), (94, .ireturn, 95, [0], 0)]
theorem ok_X5_lift : ∀ q ∈ L_X5_lift, rok cX5_lift 3 0 q = true := by decide +kernel
theorem fk_X5_lift : ∀ q ∈ L_X5_lift, fck FT_X5 PT_X5 KT_X5 q = true := by decide +kernel
noncomputable def cs_X5_lift : List CT := [(false, 64, 2, 1, 0, m_X0_has), (true, 55, 3, 1, 5, m_X5_isWithin), (true, 51, 1, 1, 5, m_X5_isHead)]
noncomputable def m_X5_lift : MT := fun As S => brn xT cs_X5_lift L_X5_lift [] (dsp []) 57 [] 0 (zipN 0 As) [] S
theorem s_X5_lift (M : xM p l e R s m args below meth c cells slots Q D xT g cI cZ A 3 cX5_lift RX5 0 cs_X5_lift L_X5_lift R0) {As : List AV} {S : XS} (h : m_X5_lift As S = some R0) : xG p l e R s m args below meth c cells slots Q D xT g cI cZ A 3 0 (zipN 0 As) [] S := xa_blk M (fun _ q => absurd q List.not_mem_nil) h
set_option maxRecDepth 20000 in
theorem c_X5_lift {l : Launch} {D : va_G} {g : Nat → Nat} {cI cZ : ClassId} {A : Nat → Prop} (hD : ∀ S, va_D A (ww xT g cI cZ S)) : xMet l D xT g cI cZ A yX5_lift (wm yX5_lift cX5_lift 3 0) { frames := 2, cells := 0, slots := 0, locals := 42 } 3 m_X5_lift :=
  xa_met (ft := FT_X5) (pt := PT_X5) (kt := KT_X5) (cs := cs_X5_lift) (L := L_X5_lift) hD (by decide) (by decide) ok_X5_lift fk_X5_lift fa_X5 (fun p e s m args below meth c Q R0 C0 hts hN => all_get (List.forall_mem_cons.mpr ⟨xcf_VN (C := RX0) (host := "StackMarks") C0 hts hN (c_X0_has hD) (good_N kc_X0_has) (by decide +kernel) (List.mem_cons_of_mem _ kn_X0) (List.mem_cons_of_mem _ ki_X0_has) (List.mem_cons_of_mem _ ks_X0_has) rfl ⟨rfl, rfl⟩ rfl (by decide +kernel) ⟨by decide, by decide⟩ ⟨Nat.zero_le _, Nat.zero_le _⟩, List.forall_mem_cons.mpr ⟨xcf_S C0 hts hN (c_X5_isWithin hD) (good_S kl_X5_55 kt_X5_isWithin kn_X5 kc_X5_isWithin) rfl ⟨rfl, rfl⟩ (by decide +kernel) ⟨by decide, by decide⟩ ⟨Nat.zero_le _, Nat.zero_le _⟩, List.forall_mem_cons.mpr ⟨xcf_S C0 hts hN (c_X5_isHead hD) (good_S kl_X5_51 kt_X5_isHead kn_X5 kc_X5_isHead) rfl ⟨rfl, rfl⟩ (by decide +kernel) ⟨by decide, by decide⟩ ⟨Nat.zero_le _, Nat.zero_le _⟩, fun _ q => absurd q List.not_mem_nil⟩⟩⟩)) (fun p e s m args below meth c Q R0 As S M h => s_X5_lift M h)
def L_X5_set : List CE := [(0, .aload_n 0, 1, [], 0), (1, .getfield 19, 4, [5, 1], 0), (4, .iload_n 1, 5, [], 0), (5, .invokevirtual 77, 8, [0], 0), (8, .ifCond .eq 15, 11, [23], 0), (11, .aload_n 0, 12, [], 0), (12, .getfield 19, 15, [5, 1], 0), (15, .iload_n 2, 16, [], 0), (16, .iload_n 3, 17, [], 0), (17, .invokevirtual 78, 20, [1], 0), (20, .ifCond .ne 6, 23, [26], 0), (23, .ldc 59, 25, [], (-100001)), (25, .ireturn, 26, [0], 0), (26, .aload_n 0, 27, [], 0), (27, .iconst 0, 28, [], 0), (28, .putfield 73, 31, [5, 9, 1], 0), (31, .aload_n 0, 32, [], 0), (32, .getfield 19, 35, [5, 1], 0), (35, .iload_n 1, 36, [], 0), (36, .iload_n 2, 37, [], 0), (37, .iload_n 3, 38, [], 0), (38, .invokevirtual 82, 41, [2], 0), (41, .ireturn, 42, [0], 0)]
theorem ok_X5_set : ∀ q ∈ L_X5_set, rok cX5_set 4 0 q = true := by decide +kernel
theorem fk_X5_set : ∀ q ∈ L_X5_set, fck FT_X5 PT_X5 KT_X5 q = true := by decide +kernel
noncomputable def cs_X5_set : List CT := [(false, 77, 2, 1, 1, m_X1_has), (false, 78, 3, 1, 1, m_X1_takes), (false, 82, 4, 1, 1, m_X1_change)]
noncomputable def m_X5_set : MT := fun As S => brn xT cs_X5_set L_X5_set [] (dsp []) 25 [] 0 (zipN 0 As) [] S
theorem s_X5_set (M : xM p l e R s m args below meth c cells slots Q D xT g cI cZ A 4 cX5_set RX5 0 cs_X5_set L_X5_set R0) {As : List AV} {S : XS} (h : m_X5_set As S = some R0) : xG p l e R s m args below meth c cells slots Q D xT g cI cZ A 4 0 (zipN 0 As) [] S := xa_blk M (fun _ q => absurd q List.not_mem_nil) h
set_option maxRecDepth 20000 in
theorem c_X5_set {l : Launch} {D : va_G} {g : Nat → Nat} {cI cZ : ClassId} {A : Nat → Prop} (hD : ∀ S, va_D A (ww xT g cI cZ S)) : xMet l D xT g cI cZ A yX5_set (wm yX5_set cX5_set 4 0) { frames := 2, cells := 0, slots := 0, locals := 46 } 4 m_X5_set :=
  xa_met (ft := FT_X5) (pt := PT_X5) (kt := KT_X5) (cs := cs_X5_set) (L := L_X5_set) hD (by decide) (by decide) ok_X5_set fk_X5_set fa_X5 (fun p e s m args below meth c Q R0 C0 hts hN => all_get (List.forall_mem_cons.mpr ⟨xcf_VN (C := RX1) (host := "StackMarks") C0 hts hN (c_X1_has hD) (good_N kc_X1_has) (by decide +kernel) (List.mem_cons_of_mem _ kn_X1) (List.mem_cons_of_mem _ ki_X1_has) (List.mem_cons_of_mem _ ks_X1_has) rfl ⟨rfl, rfl⟩ rfl (by decide +kernel) ⟨by decide, by decide⟩ ⟨Nat.zero_le _, Nat.zero_le _⟩, List.forall_mem_cons.mpr ⟨xcf_VN (C := RX1) (host := "StackMarks") C0 hts hN (c_X1_takes hD) (good_N kc_X1_takes) (by decide +kernel) (List.mem_cons_of_mem _ kn_X1) (List.mem_cons_of_mem _ ki_X1_takes) (List.mem_cons_of_mem _ ks_X1_takes) rfl ⟨rfl, rfl⟩ rfl (by decide +kernel) ⟨by decide, by decide⟩ ⟨Nat.zero_le _, Nat.zero_le _⟩, List.forall_mem_cons.mpr ⟨xcf_VN (C := RX1) (host := "StackMarks") C0 hts hN (c_X1_change hD) (good_N kc_X1_change) (by decide +kernel) (List.mem_cons_of_mem _ kn_X1) (List.mem_cons_of_mem _ ki_X1_change) (List.mem_cons_of_mem _ ks_X1_change) rfl ⟨rfl, rfl⟩ rfl (by decide +kernel) ⟨by decide, by decide⟩ ⟨Nat.zero_le _, Nat.zero_le _⟩, fun _ q => absurd q List.not_mem_nil⟩⟩⟩)) (fun p e s m args below meth c Q R0 As S M h => s_X5_set M h)
def L_X5_mark : List CE := [(0, .aload_n 0, 1, [], 0), (1, .getfield 10, 4, [5, 0], 0), (4, .iload_n 1, 5, [], 0), (5, .invokevirtual 64, 8, [0], 0), (8, .ifCond .eq 14, 11, [22], 0), (11, .aload_n 0, 12, [], 0), (12, .getfield 19, 15, [5, 1], 0), (15, .iload_n 2, 16, [], 0), (16, .invokevirtual 77, 19, [1], 0), (19, .ifCond .ne 6, 22, [25], 0), (22, .ldc 59, 24, [], (-100001)), (24, .ireturn, 25, [0], 0), (25, .iload_n 3, 26, [], 0), (26, .iconst 1, 27, [], 1), (27, .sipush 400, 30, [], 400), (30, .invokestatic 55, 33, [2], 0), (33, .ifCond .eq 14, 36, [47], 0), (36, .iload 4, 38, [], 0), (38, .iconst 1, 39, [], 1), (39, .bipush 40, 41, [], 40), (41, .invokestatic 55, 44, [2], 0), (44, .ifCond .ne 6, 47, [50], 0), (47, .ldc 59, 49, [], (-100001)), (49, .ireturn, 50, [0], 0), (50, .aload_n 0, 51, [], 0), (51, .getfield 26, 54, [5, 2], 0), (54, .getfield 86, 57, [2, 11], 0), (57, .bipush 80, 59, [], 80), (59, .if_icmp .lt 6, 62, [65], 0), (62, .ldc 90, 64, [], (-100002)), (64, .ireturn, 65, [0], 0), (65, .aload_n 0, 66, [], 0), (66, .iconst 0, 67, [], 0), (67, .putfield 73, 70, [5, 9, 1], 0), (70, .aload_n 0, 71, [], 0), (71, .getfield 26, 74, [5, 2], 0), (74, .iload_n 1, 75, [], 0), (75, .iload_n 2, 76, [], 0), (76, .iload_n 3, 77, [], 0), (77, .iload 4, 79, [], 0), (79, .invokevirtual 91, 82, [3], 0), (82, .ireturn, 83, [0], 0)]
theorem ok_X5_mark : ∀ q ∈ L_X5_mark, rok cX5_mark 5 0 q = true := by decide +kernel
theorem fk_X5_mark : ∀ q ∈ L_X5_mark, fck FT_X5 PT_X5 KT_X5 q = true := by decide +kernel
noncomputable def cs_X5_mark : List CT := [(false, 64, 2, 1, 0, m_X0_has), (false, 77, 2, 1, 1, m_X1_has), (true, 55, 3, 1, 5, m_X5_isWithin), (false, 91, 5, 1, 2, m_X2_add)]
noncomputable def m_X5_mark : MT := fun As S => brn xT cs_X5_mark L_X5_mark [] (dsp []) 44 [] 0 (zipN 0 As) [] S
theorem s_X5_mark (M : xM p l e R s m args below meth c cells slots Q D xT g cI cZ A 5 cX5_mark RX5 0 cs_X5_mark L_X5_mark R0) {As : List AV} {S : XS} (h : m_X5_mark As S = some R0) : xG p l e R s m args below meth c cells slots Q D xT g cI cZ A 5 0 (zipN 0 As) [] S := xa_blk M (fun _ q => absurd q List.not_mem_nil) h
set_option maxRecDepth 20000 in
theorem c_X5_mark {l : Launch} {D : va_G} {g : Nat → Nat} {cI cZ : ClassId} {A : Nat → Prop} (hD : ∀ S, va_D A (ww xT g cI cZ S)) : xMet l D xT g cI cZ A yX5_mark (wm yX5_mark cX5_mark 5 0) { frames := 1, cells := 0, slots := 0, locals := 25 } 5 m_X5_mark :=
  xa_met (ft := FT_X5) (pt := PT_X5) (kt := KT_X5) (cs := cs_X5_mark) (L := L_X5_mark) hD (by decide) (by decide) ok_X5_mark fk_X5_mark fa_X5 (fun p e s m args below meth c Q R0 C0 hts hN => all_get (List.forall_mem_cons.mpr ⟨xcf_VN (C := RX0) (host := "StackMarks") C0 hts hN (c_X0_has hD) (good_N kc_X0_has) (by decide +kernel) (List.mem_cons_of_mem _ kn_X0) (List.mem_cons_of_mem _ ki_X0_has) (List.mem_cons_of_mem _ ks_X0_has) rfl ⟨rfl, rfl⟩ rfl (by decide +kernel) ⟨by decide, by decide⟩ ⟨Nat.zero_le _, Nat.zero_le _⟩, List.forall_mem_cons.mpr ⟨xcf_VN (C := RX1) (host := "StackMarks") C0 hts hN (c_X1_has hD) (good_N kc_X1_has) (by decide +kernel) (List.mem_cons_of_mem _ kn_X1) (List.mem_cons_of_mem _ ki_X1_has) (List.mem_cons_of_mem _ ks_X1_has) rfl ⟨rfl, rfl⟩ rfl (by decide +kernel) ⟨by decide, by decide⟩ ⟨Nat.zero_le _, Nat.zero_le _⟩, List.forall_mem_cons.mpr ⟨xcf_S C0 hts hN (c_X5_isWithin hD) (good_S kl_X5_55 kt_X5_isWithin kn_X5 kc_X5_isWithin) rfl ⟨rfl, rfl⟩ (by decide +kernel) ⟨by decide, by decide⟩ ⟨Nat.zero_le _, Nat.zero_le _⟩, List.forall_mem_cons.mpr ⟨xcf_VN (C := RX2) (host := "StackMarks") C0 hts hN (c_X2_add hD) (good_N kc_X2_add) (by decide +kernel) (List.mem_cons_of_mem _ kn_X2) (List.mem_cons_of_mem _ ki_X2_add) (List.mem_cons_of_mem _ ks_X2_add) rfl ⟨rfl, rfl⟩ rfl (by decide +kernel) ⟨by decide, by decide⟩ ⟨Nat.zero_le _, Nat.zero_le _⟩, fun _ q => absurd q List.not_mem_nil⟩⟩⟩⟩)) (fun p e s m args below meth c Q R0 As S M h => s_X5_mark M h)
def L_X5_drop : List CE := [(0, .aload_n 0, 1, [], 0), (1, .getfield 26, 4, [5, 2], 0), (4, .iload_n 1, 5, [], 0), (5, .invokevirtual 95, 8, [0], 0), (8, .ifCond .ne 6, 11, [14], 0), (11, .ldc 59, 13, [], (-100001)), (13, .ireturn, 14, [0], 0), (14, .aload_n 0, 15, [], 0), (15, .getfield 26, 18, [5, 2], 0), (18, .getfield 96, 21, [2, 4], 0), (21, .iload_n 1, 22, [], 0), (22, .iconst 1, 23, [], 1), (23, .bastore, 24, [], 0), (24, .aload_n 0, 25, [], 0), (25, .iconst 0, 26, [], 0), (26, .putfield 73, 29, [5, 9, 1], 0), (29, .iconst 1, 30, [], 1), (30, .ireturn, 31, [0], 0)]
theorem ok_X5_drop : ∀ q ∈ L_X5_drop, rok cX5_drop 2 0 q = true := by decide +kernel
theorem fk_X5_drop : ∀ q ∈ L_X5_drop, fck FT_X5 PT_X5 KT_X5 q = true := by decide +kernel
noncomputable def cs_X5_drop : List CT := [(false, 95, 2, 1, 2, m_X2_has)]
noncomputable def m_X5_drop : MT := fun As S => brn xT cs_X5_drop L_X5_drop [] (dsp []) 20 [] 0 (zipN 0 As) [] S
theorem s_X5_drop (M : xM p l e R s m args below meth c cells slots Q D xT g cI cZ A 2 cX5_drop RX5 0 cs_X5_drop L_X5_drop R0) {As : List AV} {S : XS} (h : m_X5_drop As S = some R0) : xG p l e R s m args below meth c cells slots Q D xT g cI cZ A 2 0 (zipN 0 As) [] S := xa_blk M (fun _ q => absurd q List.not_mem_nil) h
set_option maxRecDepth 20000 in
theorem c_X5_drop {l : Launch} {D : va_G} {g : Nat → Nat} {cI cZ : ClassId} {A : Nat → Prop} (hD : ∀ S, va_D A (ww xT g cI cZ S)) : xMet l D xT g cI cZ A yX5_drop (wm yX5_drop cX5_drop 2 0) { frames := 1, cells := 0, slots := 0, locals := 21 } 2 m_X5_drop :=
  xa_met (ft := FT_X5) (pt := PT_X5) (kt := KT_X5) (cs := cs_X5_drop) (L := L_X5_drop) hD (by decide) (by decide) ok_X5_drop fk_X5_drop fa_X5 (fun p e s m args below meth c Q R0 C0 hts hN => all_get (List.forall_mem_cons.mpr ⟨xcf_VN (C := RX2) (host := "StackMarks") C0 hts hN (c_X2_has hD) (good_N kc_X2_has) (by decide +kernel) (List.mem_cons_of_mem _ kn_X2) (List.mem_cons_of_mem _ ki_X2_has) (List.mem_cons_of_mem _ ks_X2_has) rfl ⟨rfl, rfl⟩ rfl (by decide +kernel) ⟨by decide, by decide⟩ ⟨Nat.zero_le _, Nat.zero_le _⟩, fun _ q => absurd q List.not_mem_nil⟩)) (fun p e s m args below meth c Q R0 As S M h => s_X5_drop M h)
def L_X5_isSide : List CE := [(0, .iload_n 0, 1, [], 0), (1, .iconst 1, 2, [], 1), (2, .if_icmp .eq 8, 5, [10], 0), (5, .iload_n 0, 6, [], 0), (6, .iconst (-1), 7, [], (-1)), (7, .if_icmp .ne 7, 10, [14], 0), (10, .iconst 1, 11, [], 1), (11, .goto 4, 14, [15], 0), (14, .iconst 0, 15, [], 0), (15, .ireturn, 16, [1], 0)]
theorem ok_X5_isSide : ∀ q ∈ L_X5_isSide, rok cX5_isSide 1 1 q = true := by decide +kernel
theorem fk_X5_isSide : ∀ q ∈ L_X5_isSide, fck FT_X5 PT_X5 KT_X5 q = true := by decide +kernel
noncomputable def cs_X5_isSide : List CT := []
noncomputable def m_X5_isSide : MT := fun As S => brn xT cs_X5_isSide L_X5_isSide [] (dsp []) 12 [] 0 (zipN 0 As) [] S
theorem s_X5_isSide (M : xM p l e R s m args below meth c cells slots Q D xT g cI cZ A 1 cX5_isSide RX5 1 cs_X5_isSide L_X5_isSide R0) {As : List AV} {S : XS} (h : m_X5_isSide As S = some R0) : xG p l e R s m args below meth c cells slots Q D xT g cI cZ A 1 0 (zipN 0 As) [] S := xa_blk M (fun _ q => absurd q List.not_mem_nil) h
set_option maxRecDepth 20000 in
theorem c_X5_isSide {l : Launch} {D : va_G} {g : Nat → Nat} {cI cZ : ClassId} {A : Nat → Prop} (hD : ∀ S, va_D A (ww xT g cI cZ S)) : xMet l D xT g cI cZ A yX5_isSide (wm yX5_isSide cX5_isSide 1 1) { frames := 0, cells := 0, slots := 0, locals := 0 } 1 m_X5_isSide :=
  xa_met (ft := FT_X5) (pt := PT_X5) (kt := KT_X5) (cs := cs_X5_isSide) (L := L_X5_isSide) hD (by decide) (by decide) ok_X5_isSide fk_X5_isSide fa_X5 (fun p e s m args below meth c Q R0 C0 hts hN => all_get (fun _ q => absurd q List.not_mem_nil)) (fun p e s m args below meth c Q R0 As S M h => s_X5_isSide M h)
def L_X5_slur : List CE := [(0, .aload_n 0, 1, [], 0), (1, .getfield 10, 4, [5, 0], 0), (4, .iload_n 1, 5, [], 0), (5, .invokevirtual 64, 8, [0], 0), (8, .ifCond .eq 35, 11, [43], 0), (11, .aload_n 0, 12, [], 0), (12, .getfield 10, 15, [5, 0], 0), (15, .iload_n 2, 16, [], 0), (16, .invokevirtual 64, 19, [0], 0), (19, .ifCond .eq 24, 22, [43], 0), (22, .aload_n 0, 23, [], 0), (23, .getfield 10, 26, [5, 0], 0), (26, .getfield 100, 29, [0, 0], 0), (29, .iload_n 2, 30, [], 0), (30, .iaload, 31, [], 0), (31, .aload_n 0, 32, [], 0), (32, .getfield 10, 35, [5, 0], 0), (35, .getfield 100, 38, [0, 0], 0), (38, .iload_n 1, 39, [], 0), (39, .iaload, 40, [], 0), (40, .if_icmp .gt 6, 43, [46], 0), (43, .ldc 59, 45, [], (-100001)), (45, .ireturn, 46, [0], 0), (46, .iload_n 3, 47, [], 0), (47, .invokestatic 103, 50, [1], 0), (50, .ifCond .eq 14, 53, [64], 0), (53, .iload 4, 55, [], 0), (55, .iconst 1, 56, [], 1), (56, .bipush 20, 58, [], 20), (58, .invokestatic 55, 61, [2], 0), (61, .ifCond .ne 6, 64, [67], 0), (64, .ldc 59, 66, [], (-100001)), (66, .ireturn, 67, [0], 0), (67, .aload_n 0, 68, [], 0), (68, .getfield 33, 71, [5, 3], 0), (71, .getfield 106, 74, [4, 6], 0), (74, .bipush 10, 76, [], 10), (76, .if_icmp .lt 6, 79, [82], 0), (79, .ldc 90, 81, [], (-100002)), (81, .ireturn, 82, [0], 0), (82, .aload_n 0, 83, [], 0), (83, .iconst 0, 84, [], 0), (84, .putfield 73, 87, [5, 9, 1], 0), (87, .aload_n 0, 88, [], 0), (88, .getfield 33, 91, [5, 3], 0), (91, .iload_n 1, 92, [], 0), (92, .iload_n 2, 93, [], 0), (93, .iload_n 3, 94, [], 0), (94, .iload 4, 96, [], 0), (96, .invokevirtual 107, 99, [3], 0), (99, .ireturn, 100, [0], 0)]
theorem ok_X5_slur : ∀ q ∈ L_X5_slur, rok cX5_slur 5 0 q = true := by decide +kernel
theorem fk_X5_slur : ∀ q ∈ L_X5_slur, fck FT_X5 PT_X5 KT_X5 q = true := by decide +kernel
noncomputable def cs_X5_slur : List CT := [(false, 64, 2, 1, 0, m_X0_has), (true, 103, 1, 1, 5, m_X5_isSide), (true, 55, 3, 1, 5, m_X5_isWithin), (false, 107, 5, 1, 4, m_X4_add)]
noncomputable def m_X5_slur : MT := fun As S => brn xT cs_X5_slur L_X5_slur [] (dsp []) 53 [] 0 (zipN 0 As) [] S
theorem s_X5_slur (M : xM p l e R s m args below meth c cells slots Q D xT g cI cZ A 5 cX5_slur RX5 0 cs_X5_slur L_X5_slur R0) {As : List AV} {S : XS} (h : m_X5_slur As S = some R0) : xG p l e R s m args below meth c cells slots Q D xT g cI cZ A 5 0 (zipN 0 As) [] S := xa_blk M (fun _ q => absurd q List.not_mem_nil) h
set_option maxRecDepth 20000 in
theorem c_X5_slur {l : Launch} {D : va_G} {g : Nat → Nat} {cI cZ : ClassId} {A : Nat → Prop} (hD : ∀ S, va_D A (ww xT g cI cZ S)) : xMet l D xT g cI cZ A yX5_slur (wm yX5_slur cX5_slur 5 0) { frames := 1, cells := 0, slots := 0, locals := 25 } 5 m_X5_slur :=
  xa_met (ft := FT_X5) (pt := PT_X5) (kt := KT_X5) (cs := cs_X5_slur) (L := L_X5_slur) hD (by decide) (by decide) ok_X5_slur fk_X5_slur fa_X5 (fun p e s m args below meth c Q R0 C0 hts hN => all_get (List.forall_mem_cons.mpr ⟨xcf_VN (C := RX0) (host := "StackMarks") C0 hts hN (c_X0_has hD) (good_N kc_X0_has) (by decide +kernel) (List.mem_cons_of_mem _ kn_X0) (List.mem_cons_of_mem _ ki_X0_has) (List.mem_cons_of_mem _ ks_X0_has) rfl ⟨rfl, rfl⟩ rfl (by decide +kernel) ⟨by decide, by decide⟩ ⟨Nat.zero_le _, Nat.zero_le _⟩, List.forall_mem_cons.mpr ⟨xcf_S C0 hts hN (c_X5_isSide hD) (good_S kl_X5_103 kt_X5_isSide kn_X5 kc_X5_isSide) rfl ⟨rfl, rfl⟩ (by decide +kernel) ⟨by decide, by decide⟩ ⟨Nat.zero_le _, Nat.zero_le _⟩, List.forall_mem_cons.mpr ⟨xcf_S C0 hts hN (c_X5_isWithin hD) (good_S kl_X5_55 kt_X5_isWithin kn_X5 kc_X5_isWithin) rfl ⟨rfl, rfl⟩ (by decide +kernel) ⟨by decide, by decide⟩ ⟨Nat.zero_le _, Nat.zero_le _⟩, List.forall_mem_cons.mpr ⟨xcf_VN (C := RX4) (host := "StackMarks") C0 hts hN (c_X4_add hD) (good_N kc_X4_add) (by decide +kernel) (List.mem_cons_of_mem _ kn_X4) (List.mem_cons_of_mem _ ki_X4_add) (List.mem_cons_of_mem _ ks_X4_add) rfl ⟨rfl, rfl⟩ rfl (by decide +kernel) ⟨by decide, by decide⟩ ⟨Nat.zero_le _, Nat.zero_le _⟩, fun _ q => absurd q List.not_mem_nil⟩⟩⟩⟩)) (fun p e s m args below meth c Q R0 As S M h => s_X5_slur M h)
def L_X5_coverHeads : List CE := [(0, .aload_n 0, 1, [], 0), (1, .getfield 10, 4, [5, 0], 0), (4, .getfield 100, 7, [0, 0], 0), (7, .iload_n 1, 8, [], 0), (8, .iaload, 9, [], 0), (9, .istore 4, 11, [], 0), (11, .aload_n 0, 12, [], 0), (12, .getfield 40, 15, [5, 4], 0), (15, .iload 4, 17, [], 0), (17, .iload_n 2, 18, [], 0), (18, .isub, 19, [], 0), (19, .iload 4, 21, [], 0), (21, .iload_n 2, 22, [], 0), (22, .iadd, 23, [], 0), (23, .aload_n 0, 24, [], 0), (24, .getfield 10, 27, [5, 0], 0), (27, .getfield 70, 30, [0, 2], 0), (30, .iload_n 1, 31, [], 0), (31, .iaload, 32, [], 0), (32, .iload_n 3, 33, [], 0), (33, .iadd, 34, [], 0), (34, .invokevirtual 246, 37, [0], 0), (37, .aload_n 0, 38, [], 0), (38, .getfield 44, 41, [5, 5], 0), (41, .iload 4, 43, [], 0), (43, .iload_n 2, 44, [], 0), (44, .isub, 45, [], 0), (45, .iload 4, 47, [], 0), (47, .iload_n 2, 48, [], 0), (48, .iadd, 49, [], 0), (49, .iload_n 3, 50, [], 0), (50, .aload_n 0, 51, [], 0), (51, .getfield 10, 54, [5, 0], 0), (54, .getfield 67, 57, [0, 1], 0), (57, .iload_n 1, 58, [], 0), (58, .iaload, 59, [], 0), (59, .isub, 60, [], 0), (60, .invokevirtual 246, 63, [0], 0), (63, .return_, 64, [], 0)]
theorem ok_X5_coverHeads : ∀ q ∈ L_X5_coverHeads, rok cX5_coverHeads 5 2 q = true := by decide +kernel
theorem fk_X5_coverHeads : ∀ q ∈ L_X5_coverHeads, fck FT_X5 PT_X5 KT_X5 q = true := by decide +kernel
noncomputable def cs_X5_coverHeads : List CT := [(false, 246, 4, 0, 3, m_X3_cover)]
noncomputable def m_X5_coverHeads : MT := fun As S => brn xT cs_X5_coverHeads L_X5_coverHeads [] (dsp []) 41 [] 0 (zipN 0 As) [] S
theorem s_X5_coverHeads (M : xM p l e R s m args below meth c cells slots Q D xT g cI cZ A 5 cX5_coverHeads RX5 2 cs_X5_coverHeads L_X5_coverHeads R0) {As : List AV} {S : XS} (h : m_X5_coverHeads As S = some R0) : xG p l e R s m args below meth c cells slots Q D xT g cI cZ A 5 0 (zipN 0 As) [] S := xa_blk M (fun _ q => absurd q List.not_mem_nil) h
set_option maxRecDepth 20000 in
theorem c_X5_coverHeads {l : Launch} {D : va_G} {g : Nat → Nat} {cI cZ : ClassId} {A : Nat → Prop} (hD : ∀ S, va_D A (ww xT g cI cZ S)) : xMet l D xT g cI cZ A yX5_coverHeads (wm yX5_coverHeads cX5_coverHeads 5 2) { frames := 1, cells := 0, slots := 0, locals := 23 } 4 m_X5_coverHeads :=
  xa_met (ft := FT_X5) (pt := PT_X5) (kt := KT_X5) (cs := cs_X5_coverHeads) (L := L_X5_coverHeads) hD (by decide) (by decide) ok_X5_coverHeads fk_X5_coverHeads fa_X5 (fun p e s m args below meth c Q R0 C0 hts hN => all_get (List.forall_mem_cons.mpr ⟨xcf_VN (C := RX3) (host := "StackMarks") C0 hts hN (c_X3_cover hD) (good_N kc_X3_cover) (by decide +kernel) (List.mem_cons_of_mem _ kn_X3) (List.mem_cons_of_mem _ ki_X3_cover) (List.mem_cons_of_mem _ ks_X3_cover) rfl ⟨rfl, rfl⟩ rfl (by decide +kernel) ⟨by decide, by decide⟩ ⟨Nat.zero_le _, Nat.zero_le _⟩, fun _ q => absurd q List.not_mem_nil⟩)) (fun p e s m args below meth c Q R0 As S M h => s_X5_coverHeads M h)
def L_X5_coverStem : List CE := [(0, .aload_n 0, 1, [], 0), (1, .getfield 10, 4, [5, 0], 0), (4, .getfield 100, 7, [0, 0], 0), (7, .iload_n 1, 8, [], 0), (8, .iaload, 9, [], 0), (9, .istore_n 2, 10, [], 0), (10, .aload_n 0, 11, [], 0), (11, .getfield 10, 14, [5, 0], 0), (14, .getfield 191, 17, [0, 4], 0), (17, .iload_n 1, 18, [], 0), (18, .iaload, 19, [], 0), (19, .iconst 1, 20, [], 1), (20, .if_icmp .ne 31, 23, [51], 0), (23, .aload_n 0, 24, [], 0), (24, .getfield 40, 27, [5, 4], 0), (27, .iload_n 2, 28, [], 0), (28, .iconst 1, 29, [], 1), (29, .isub, 30, [], 0), (30, .iload_n 2, 31, [], 0), (31, .iconst 1, 32, [], 1), (32, .iadd, 33, [], 0), (33, .aload_n 0, 34, [], 0), (34, .getfield 10, 37, [5, 0], 0), (37, .getfield 70, 40, [0, 2], 0), (40, .iload_n 1, 41, [], 0), (41, .iaload, 42, [], 0), (42, .bipush 28, 44, [], 28), (44, .iadd, 45, [], 0), (45, .invokevirtual 246, 48, [0], 0), (48, .goto 41, 51, [89], 0), (51, .aload_n 0, 52, [], 0), (52, .getfield 10, 55, [5, 0], 0), (55, .getfield 191, 58, [0, 4], 0), (58, .iload_n 1, 59, [], 0), (59, .iaload, 60, [], 0), (60, .iconst (-1), 61, [], (-1)), (61, .if_icmp .ne 28, 64, [89], 0), (64, .aload_n 0, 65, [], 0), (65, .getfield 44, 68, [5, 5], 0), (68, .iload_n 2, 69, [], 0), (69, .iconst 1, 70, [], 1), (70, .isub, 71, [], 0), (71, .iload_n 2, 72, [], 0), (72, .iconst 1, 73, [], 1), (73, .iadd, 74, [], 0), (74, .bipush 28, 76, [], 28), (76, .aload_n 0, 77, [], 0), (77, .getfield 10, 80, [5, 0], 0), (80, .getfield 67, 83, [0, 1], 0), (83, .iload_n 1, 84, [], 0), (84, .iaload, 85, [], 0), (85, .isub, 86, [], 0), (86, .invokevirtual 246, 89, [0], 0), (89, .return_, 90, [], 0)]
theorem ok_X5_coverStem : ∀ q ∈ L_X5_coverStem, rok cX5_coverStem 3 2 q = true := by decide +kernel
theorem fk_X5_coverStem : ∀ q ∈ L_X5_coverStem, fck FT_X5 PT_X5 KT_X5 q = true := by decide +kernel
noncomputable def cs_X5_coverStem : List CT := [(false, 246, 4, 0, 3, m_X3_cover)]
noncomputable def m_X5_coverStem : MT := fun As S => brn xT cs_X5_coverStem L_X5_coverStem [] (dsp []) 56 [] 0 (zipN 0 As) [] S
theorem s_X5_coverStem (M : xM p l e R s m args below meth c cells slots Q D xT g cI cZ A 3 cX5_coverStem RX5 2 cs_X5_coverStem L_X5_coverStem R0) {As : List AV} {S : XS} (h : m_X5_coverStem As S = some R0) : xG p l e R s m args below meth c cells slots Q D xT g cI cZ A 3 0 (zipN 0 As) [] S := xa_blk M (fun _ q => absurd q List.not_mem_nil) h
set_option maxRecDepth 20000 in
theorem c_X5_coverStem {l : Launch} {D : va_G} {g : Nat → Nat} {cI cZ : ClassId} {A : Nat → Prop} (hD : ∀ S, va_D A (ww xT g cI cZ S)) : xMet l D xT g cI cZ A yX5_coverStem (wm yX5_coverStem cX5_coverStem 3 2) { frames := 1, cells := 0, slots := 0, locals := 23 } 2 m_X5_coverStem :=
  xa_met (ft := FT_X5) (pt := PT_X5) (kt := KT_X5) (cs := cs_X5_coverStem) (L := L_X5_coverStem) hD (by decide) (by decide) ok_X5_coverStem fk_X5_coverStem fa_X5 (fun p e s m args below meth c Q R0 C0 hts hN => all_get (List.forall_mem_cons.mpr ⟨xcf_VN (C := RX3) (host := "StackMarks") C0 hts hN (c_X3_cover hD) (good_N kc_X3_cover) (by decide +kernel) (List.mem_cons_of_mem _ kn_X3) (List.mem_cons_of_mem _ ki_X3_cover) (List.mem_cons_of_mem _ ks_X3_cover) rfl ⟨rfl, rfl⟩ rfl (by decide +kernel) ⟨by decide, by decide⟩ ⟨Nat.zero_le _, Nat.zero_le _⟩, fun _ q => absurd q List.not_mem_nil⟩)) (fun p e s m args below meth c Q R0 As S M h => s_X5_coverStem M h)
def L_X5_coverItems : List CE := [(0, .iconst 0, 1, [], 0), (1, .istore_n 1, 2, [], 0), (2, .iload_n 1, 3, [], 0), (3, .aload_n 0, 4, [], 0), (4, .getfield 10, 7, [5, 0], 0), (7, .getfield 200, 10, [0, 6], 0), (10, .if_icmp .ge 46, 13, [56], 0), (13, .aload_n 0, 14, [], 0), (14, .getfield 10, 17, [5, 0], 0), (17, .getfield 194, 20, [0, 5], 0), (20, .iload_n 1, 21, [], 0), (21, .iaload, 22, [], 0), (22, .iconst 1, 23, [], 1), (23, .if_icmp .ne 14, 26, [37], 0), (26, .aload_n 0, 27, [], 0), (27, .iload_n 1, 28, [], 0), (28, .iconst 5, 29, [], 5), (29, .bipush 8, 31, [], 8), (31, .invokevirtual 238, 34, [0], 0), (34, .goto 16, 37, [50], 0), (37, .aload_n 0, 38, [], 0), (38, .iload_n 1, 39, [], 0), (39, .bipush 6, 41, [], 6), (41, .iconst 4, 42, [], 4), (42, .invokevirtual 238, 45, [0], 0), (45, .aload_n 0, 46, [], 0), (46, .iload_n 1, 47, [], 0), (47, .invokevirtual 242, 50, [1], 0), (50, .iinc 1 1, 53, [], 1), (53, .goto (-51), 56, [2], 0), (56, .return_, 57, [], 0)]
theorem ok_X5_coverItems : ∀ q ∈ L_X5_coverItems, rok cX5_coverItems 2 2 q = true := by decide +kernel
theorem fk_X5_coverItems : ∀ q ∈ L_X5_coverItems, fck FT_X5 PT_X5 KT_X5 q = true := by decide +kernel
noncomputable def cs_X5_coverItems : List CT := [(false, 238, 4, 0, 5, m_X5_coverHeads), (false, 242, 2, 0, 5, m_X5_coverStem)]
noncomputable def b_X5_coverItems_2 : Nat → BT
  | 0 => fun _ _ _ => none
  | n + 1 => fun lv st S => brn xT cs_X5_coverItems L_X5_coverItems [2] (dsp [(2, [0, 1], b_X5_coverItems_2 n)]) 33 [] 2 lv st S
theorem s_X5_coverItems_2 (M : xM p l e R s m args below meth c cells slots Q D xT g cI cZ A 2 cX5_coverItems RX5 2 cs_X5_coverItems L_X5_coverItems R0) : ∀ n lv st S, b_X5_coverItems_2 n lv st S = some R0 → xG p l e R s m args below meth c cells slots Q D xT g cI cZ A 2 2 lv st S := by
  intro n
  induction n with
  | zero => intro lv st S h; cases h
  | succ n ih => intro lv st S h; exact xa_blk M (List.forall_mem_cons.mpr ⟨fun lv st S h => (ih) lv st S h, fun _ q => absurd q List.not_mem_nil⟩) h
noncomputable def m_X5_coverItems : MT := fun As S => brn xT cs_X5_coverItems L_X5_coverItems [2] (dsp [(2, [0, 1], b_X5_coverItems_2 fu)]) 33 [] 0 (zipN 0 As) [] S
theorem s_X5_coverItems (M : xM p l e R s m args below meth c cells slots Q D xT g cI cZ A 2 cX5_coverItems RX5 2 cs_X5_coverItems L_X5_coverItems R0) {As : List AV} {S : XS} (h : m_X5_coverItems As S = some R0) : xG p l e R s m args below meth c cells slots Q D xT g cI cZ A 2 0 (zipN 0 As) [] S := xa_blk M (List.forall_mem_cons.mpr ⟨fun lv st S h => (s_X5_coverItems_2 M fu) lv st S h, fun _ q => absurd q List.not_mem_nil⟩) h
set_option maxRecDepth 20000 in
theorem c_X5_coverItems {l : Launch} {D : va_G} {g : Nat → Nat} {cI cZ : ClassId} {A : Nat → Prop} (hD : ∀ S, va_D A (ww xT g cI cZ S)) : xMet l D xT g cI cZ A yX5_coverItems (wm yX5_coverItems cX5_coverItems 2 2) { frames := 2, cells := 0, slots := 0, locals := 47 } 1 m_X5_coverItems :=
  xa_met (ft := FT_X5) (pt := PT_X5) (kt := KT_X5) (cs := cs_X5_coverItems) (L := L_X5_coverItems) hD (by decide) (by decide) ok_X5_coverItems fk_X5_coverItems fa_X5 (fun p e s m args below meth c Q R0 C0 hts hN => all_get (List.forall_mem_cons.mpr ⟨xcf_V (C := RX5) C0 hts hN (c_X5_coverHeads hD) (good_V kl_X5_238 ki_X5_coverHeads ks_X5_coverHeads kn_X5 kc_X5_coverHeads) rfl ⟨rfl, rfl⟩ rfl (by decide +kernel) ⟨by decide, by decide⟩ ⟨Nat.zero_le _, Nat.zero_le _⟩, List.forall_mem_cons.mpr ⟨xcf_V (C := RX5) C0 hts hN (c_X5_coverStem hD) (good_V kl_X5_242 ki_X5_coverStem ks_X5_coverStem kn_X5 kc_X5_coverStem) rfl ⟨rfl, rfl⟩ rfl (by decide +kernel) ⟨by decide, by decide⟩ ⟨Nat.zero_le _, Nat.zero_le _⟩, fun _ q => absurd q List.not_mem_nil⟩⟩)) (fun p e s m args below meth c Q R0 As S M h => s_X5_coverItems M h)
def L_X5_outline : List CE := [(0, .iload_n 1, 1, [], 0), (1, .iconst 1, 2, [], 1), (2, .if_icmp .ne 10, 5, [12], 0), (5, .aload_n 0, 6, [], 0), (6, .getfield 40, 9, [5, 4], 0), (9, .goto 7, 12, [16], 0), (12, .aload_n 0, 13, [], 0), (13, .getfield 44, 16, [5, 5], 0), (16, .areturn, 17, [], 0)]
theorem ok_X5_outline : ∀ q ∈ L_X5_outline, rok cX5_outline 2 3 q = true := by decide +kernel
theorem fk_X5_outline : ∀ q ∈ L_X5_outline, fck FT_X5 PT_X5 KT_X5 q = true := by decide +kernel
noncomputable def cs_X5_outline : List CT := []
noncomputable def m_X5_outline : MT := fun As S => brn xT cs_X5_outline L_X5_outline [] (dsp []) 11 [] 0 (zipN 0 As) [] S
theorem s_X5_outline (M : xM p l e R s m args below meth c cells slots Q D xT g cI cZ A 2 cX5_outline RX5 3 cs_X5_outline L_X5_outline R0) {As : List AV} {S : XS} (h : m_X5_outline As S = some R0) : xG p l e R s m args below meth c cells slots Q D xT g cI cZ A 2 0 (zipN 0 As) [] S := xa_blk M (fun _ q => absurd q List.not_mem_nil) h
set_option maxRecDepth 20000 in
theorem c_X5_outline {l : Launch} {D : va_G} {g : Nat → Nat} {cI cZ : ClassId} {A : Nat → Prop} (hD : ∀ S, va_D A (ww xT g cI cZ S)) : xMet l D xT g cI cZ A yX5_outline (wm yX5_outline cX5_outline 2 3) { frames := 0, cells := 0, slots := 0, locals := 0 } 2 m_X5_outline :=
  xa_met (ft := FT_X5) (pt := PT_X5) (kt := KT_X5) (cs := cs_X5_outline) (L := L_X5_outline) hD (by decide) (by decide) ok_X5_outline fk_X5_outline fa_X5 (fun p e s m args below meth c Q R0 C0 hts hN => all_get (fun _ q => absurd q List.not_mem_nil)) (fun p e s m args below meth c Q R0 As S M h => s_X5_outline M h)
def L_X5_laySlurs : List CE := [(0, .iconst 0, 1, [], 0), (1, .istore_n 1, 2, [], 0), (2, .iload_n 1, 3, [], 0), (3, .aload_n 0, 4, [], 0), (4, .getfield 33, 7, [5, 3], 0), (7, .getfield 106, 10, [4, 6], 0), (10, .if_icmp .ge 124, 13, [134], 0), (13, .aload_n 0, 14, [], 0), (14, .aload_n 0, 15, [], 0), (15, .getfield 33, 18, [5, 3], 0), (18, .getfield 249, 21, [4, 2], 0), (21, .iload_n 1, 22, [], 0), (22, .iaload, 23, [], 0), (23, .invokevirtual 153, 26, [0], 0), (26, .astore_n 2, 27, [], 0), (27, .aload_n 0, 28, [], 0), (28, .getfield 10, 31, [5, 0], 0), (31, .getfield 100, 34, [0, 0], 0), (34, .aload_n 0, 35, [], 0), (35, .getfield 33, 38, [5, 3], 0), (38, .getfield 250, 41, [4, 0], 0), (41, .iload_n 1, 42, [], 0), (42, .iaload, 43, [], 0), (43, .iaload, 44, [], 0), (44, .istore_n 3, 45, [], 0), (45, .aload_n 0, 46, [], 0), (46, .getfield 10, 49, [5, 0], 0), (49, .getfield 100, 52, [0, 0], 0), (52, .aload_n 0, 53, [], 0), (53, .getfield 33, 56, [5, 3], 0), (56, .getfield 253, 59, [4, 1], 0), (59, .iload_n 1, 60, [], 0), (60, .iaload, 61, [], 0), (61, .iaload, 62, [], 0), (62, .istore 4, 64, [], 0), (64, .aload_n 2, 65, [], 0), (65, .iload_n 3, 66, [], 0), (66, .iload 4, 68, [], 0), (68, .invokevirtual 157, 71, [1], 0), (71, .iconst 3, 72, [], 3), (72, .iadd, 73, [], 0), (73, .istore 5, 75, [], 0), (75, .iload 5, 77, [], 0), (77, .aload_n 0, 78, [], 0), (78, .getfield 33, 81, [5, 3], 0), (81, .getfield 256, 84, [4, 3], 0), (84, .iload_n 1, 85, [], 0), (85, .iaload, 86, [], 0), (86, .iadd, 87, [], 0), (87, .istore 6, 89, [], 0), (89, .aload_n 0, 90, [], 0), (90, .getfield 33, 93, [5, 3], 0), (93, .getfield 150, 96, [4, 4], 0), (96, .iload_n 1, 97, [], 0), (97, .iload 5, 99, [], 0), (99, .iastore, 100, [], 0), (100, .aload_n 0, 101, [], 0), (101, .getfield 33, 104, [5, 3], 0), (104, .getfield 151, 107, [4, 5], 0), (107, .iload_n 1, 108, [], 0), (108, .iload 6, 110, [], 0), (110, .iastore, 111, [], 0), (111, .aload_n 2, 112, [], 0), (112, .iload_n 3, 113, [], 0), (113, .iload 4, 115, [], 0), (115, .iload 6, 117, [], 0), (117, .iconst 3, 118, [], 3), (118, .iadd, 119, [], 0), (119, .invokevirtual 246, 122, [2], 0), (122, .aload_n 2, 123, [], 0), (123, .iload 6, 125, [], 0), (125, .invokevirtual 259, 128, [3], 0), (128, .iinc 1 1, 131, [], 1), (131, .goto (-129), 134, [2], 0), (134, .return_, 135, [], 0)]
theorem ok_X5_laySlurs : ∀ q ∈ L_X5_laySlurs, rok cX5_laySlurs 7 2 q = true := by decide +kernel
theorem fk_X5_laySlurs : ∀ q ∈ L_X5_laySlurs, fck FT_X5 PT_X5 KT_X5 q = true := by decide +kernel
noncomputable def cs_X5_laySlurs : List CT := [(false, 153, 2, 2, 5, m_X5_outline), (false, 157, 3, 1, 3, m_X3_greatest), (false, 246, 4, 0, 3, m_X3_cover), (false, 259, 2, 0, 3, m_X3_reachOut)]
noncomputable def b_X5_laySlurs_2 : Nat → BT
  | 0 => fun _ _ _ => none
  | n + 1 => fun lv st S => brn xT cs_X5_laySlurs L_X5_laySlurs [2] (dsp [(2, [0, 1], b_X5_laySlurs_2 n)]) 77 [] 2 lv st S
theorem s_X5_laySlurs_2 (M : xM p l e R s m args below meth c cells slots Q D xT g cI cZ A 7 cX5_laySlurs RX5 2 cs_X5_laySlurs L_X5_laySlurs R0) : ∀ n lv st S, b_X5_laySlurs_2 n lv st S = some R0 → xG p l e R s m args below meth c cells slots Q D xT g cI cZ A 7 2 lv st S := by
  intro n
  induction n with
  | zero => intro lv st S h; cases h
  | succ n ih => intro lv st S h; exact xa_blk M (List.forall_mem_cons.mpr ⟨fun lv st S h => (ih) lv st S h, fun _ q => absurd q List.not_mem_nil⟩) h
noncomputable def m_X5_laySlurs : MT := fun As S => brn xT cs_X5_laySlurs L_X5_laySlurs [2] (dsp [(2, [0, 1], b_X5_laySlurs_2 fu)]) 77 [] 0 (zipN 0 As) [] S
theorem s_X5_laySlurs (M : xM p l e R s m args below meth c cells slots Q D xT g cI cZ A 7 cX5_laySlurs RX5 2 cs_X5_laySlurs L_X5_laySlurs R0) {As : List AV} {S : XS} (h : m_X5_laySlurs As S = some R0) : xG p l e R s m args below meth c cells slots Q D xT g cI cZ A 7 0 (zipN 0 As) [] S := xa_blk M (List.forall_mem_cons.mpr ⟨fun lv st S h => (s_X5_laySlurs_2 M fu) lv st S h, fun _ q => absurd q List.not_mem_nil⟩) h
set_option maxRecDepth 20000 in
theorem c_X5_laySlurs {l : Launch} {D : va_G} {g : Nat → Nat} {cI cZ : ClassId} {A : Nat → Prop} (hD : ∀ S, va_D A (ww xT g cI cZ S)) : xMet l D xT g cI cZ A yX5_laySlurs (wm yX5_laySlurs cX5_laySlurs 7 2) { frames := 2, cells := 0, slots := 0, locals := 45 } 1 m_X5_laySlurs :=
  xa_met (ft := FT_X5) (pt := PT_X5) (kt := KT_X5) (cs := cs_X5_laySlurs) (L := L_X5_laySlurs) hD (by decide) (by decide) ok_X5_laySlurs fk_X5_laySlurs fa_X5 (fun p e s m args below meth c Q R0 C0 hts hN => all_get (List.forall_mem_cons.mpr ⟨xcf_V (C := RX5) C0 hts hN (c_X5_outline hD) (good_V kl_X5_153 ki_X5_outline ks_X5_outline kn_X5 kc_X5_outline) rfl ⟨rfl, rfl⟩ rfl (by decide +kernel) ⟨by decide, by decide⟩ ⟨Nat.zero_le _, Nat.zero_le _⟩, List.forall_mem_cons.mpr ⟨xcf_VN (C := RX3) (host := "StackMarks") C0 hts hN (c_X3_greatest hD) (good_N kc_X3_greatest) (by decide +kernel) (List.mem_cons_of_mem _ kn_X3) (List.mem_cons_of_mem _ ki_X3_greatest) (List.mem_cons_of_mem _ ks_X3_greatest) rfl ⟨rfl, rfl⟩ rfl (by decide +kernel) ⟨by decide, by decide⟩ ⟨Nat.zero_le _, Nat.zero_le _⟩, List.forall_mem_cons.mpr ⟨xcf_VN (C := RX3) (host := "StackMarks") C0 hts hN (c_X3_cover hD) (good_N kc_X3_cover) (by decide +kernel) (List.mem_cons_of_mem _ kn_X3) (List.mem_cons_of_mem _ ki_X3_cover) (List.mem_cons_of_mem _ ks_X3_cover) rfl ⟨rfl, rfl⟩ rfl (by decide +kernel) ⟨by decide, by decide⟩ ⟨Nat.zero_le _, Nat.zero_le _⟩, List.forall_mem_cons.mpr ⟨xcf_VN (C := RX3) (host := "StackMarks") C0 hts hN (c_X3_reachOut hD) (good_N kc_X3_reachOut) (by decide +kernel) (List.mem_cons_of_mem _ kn_X3) (List.mem_cons_of_mem _ ki_X3_reachOut) (List.mem_cons_of_mem _ ks_X3_reachOut) rfl ⟨rfl, rfl⟩ rfl (by decide +kernel) ⟨by decide, by decide⟩ ⟨Nat.zero_le _, Nat.zero_le _⟩, fun _ q => absurd q List.not_mem_nil⟩⟩⟩⟩)) (fun p e s m args below meth c Q R0 As S M h => s_X5_laySlurs M h)
def L_X5_leftEdge : List CE := [(0, .aload_n 0, 1, [], 0), (1, .getfield 10, 4, [5, 0], 0), (4, .getfield 100, 7, [0, 0], 0), (7, .aload_n 0, 8, [], 0), (8, .getfield 26, 11, [5, 2], 0), (11, .getfield 181, 14, [2, 0], 0), (14, .iload_n 1, 15, [], 0), (15, .iaload, 16, [], 0), (16, .iaload, 17, [], 0), (17, .istore_n 2, 18, [], 0), (18, .aload_n 0, 19, [], 0), (19, .getfield 19, 22, [5, 1], 0), (22, .aload_n 0, 23, [], 0), (23, .getfield 26, 26, [5, 2], 0), (26, .getfield 224, 29, [2, 1], 0), (29, .iload_n 1, 30, [], 0), (30, .iaload, 31, [], 0), (31, .invokevirtual 227, 34, [0], 0), (34, .ifCond .eq 7, 37, [41], 0), (37, .iload_n 2, 38, [], 0), (38, .goto 16, 41, [54], 0), (41, .iload_n 2, 42, [], 0), (42, .aload_n 0, 43, [], 0), (43, .getfield 26, 46, [5, 2], 0), (46, .getfield 230, 49, [2, 2], 0), (49, .iload_n 1, 50, [], 0), (50, .iaload, 51, [], 0), (51, .iconst 2, 52, [], 2), (52, .idiv, 53, [], 0), (53, .isub, 54, [], 0), (54, .ireturn, 55, [0], 0)]
theorem ok_X5_leftEdge : ∀ q ∈ L_X5_leftEdge, rok cX5_leftEdge 3 0 q = true := by decide +kernel
theorem fk_X5_leftEdge : ∀ q ∈ L_X5_leftEdge, fck FT_X5 PT_X5 KT_X5 q = true := by decide +kernel
noncomputable def cs_X5_leftEdge : List CT := [(false, 227, 2, 1, 1, m_X1_liesFromX)]
noncomputable def m_X5_leftEdge : MT := fun As S => brn xT cs_X5_leftEdge L_X5_leftEdge [] (dsp []) 33 [] 0 (zipN 0 As) [] S
theorem s_X5_leftEdge (M : xM p l e R s m args below meth c cells slots Q D xT g cI cZ A 3 cX5_leftEdge RX5 0 cs_X5_leftEdge L_X5_leftEdge R0) {As : List AV} {S : XS} (h : m_X5_leftEdge As S = some R0) : xG p l e R s m args below meth c cells slots Q D xT g cI cZ A 3 0 (zipN 0 As) [] S := xa_blk M (fun _ q => absurd q List.not_mem_nil) h
set_option maxRecDepth 20000 in
theorem c_X5_leftEdge {l : Launch} {D : va_G} {g : Nat → Nat} {cI cZ : ClassId} {A : Nat → Prop} (hD : ∀ S, va_D A (ww xT g cI cZ S)) : xMet l D xT g cI cZ A yX5_leftEdge (wm yX5_leftEdge cX5_leftEdge 3 0) { frames := 2, cells := 0, slots := 0, locals := 43 } 2 m_X5_leftEdge :=
  xa_met (ft := FT_X5) (pt := PT_X5) (kt := KT_X5) (cs := cs_X5_leftEdge) (L := L_X5_leftEdge) hD (by decide) (by decide) ok_X5_leftEdge fk_X5_leftEdge fa_X5 (fun p e s m args below meth c Q R0 C0 hts hN => all_get (List.forall_mem_cons.mpr ⟨xcf_VN (C := RX1) (host := "StackMarks") C0 hts hN (c_X1_liesFromX hD) (good_N kc_X1_liesFromX) (by decide +kernel) (List.mem_cons_of_mem _ kn_X1) (List.mem_cons_of_mem _ ki_X1_liesFromX) (List.mem_cons_of_mem _ ks_X1_liesFromX) rfl ⟨rfl, rfl⟩ rfl (by decide +kernel) ⟨by decide, by decide⟩ ⟨Nat.zero_le _, Nat.zero_le _⟩, fun _ q => absurd q List.not_mem_nil⟩)) (fun p e s m args below meth c Q R0 As S M h => s_X5_leftEdge M h)
def L_X5_chooseSide : List CE := [(0, .aload_n 0, 1, [], 0), (1, .getfield 26, 4, [5, 2], 0), (4, .getfield 181, 7, [2, 0], 0), (7, .iload_n 1, 8, [], 0), (8, .iaload, 9, [], 0), (9, .istore_n 3, 10, [], 0), (10, .aload_n 0, 11, [], 0), (11, .getfield 10, 14, [5, 0], 0), (14, .getfield 188, 17, [0, 3], 0), (17, .iload_n 3, 18, [], 0), (18, .iaload, 19, [], 0), (19, .ifCond .ne 7, 22, [26], 0), (22, .iconst 1, 23, [], 1), (23, .goto 4, 26, [27], 0), (26, .iconst (-1), 27, [], (-1)), (27, .istore 4, 29, [], 0), (29, .iload_n 2, 30, [], 0), (30, .ifCond .ne 15, 33, [45], 0), (33, .aload_n 0, 34, [], 0), (34, .getfield 10, 37, [5, 0], 0), (37, .getfield 191, 40, [0, 4], 0), (40, .iload_n 3, 41, [], 0), (41, .iaload, 42, [], 0), (42, .ifCond .ne 8, 45, [50], 0), (45, .iload 4, 47, [], 0), (47, .goto 12, 50, [59], 0), (50, .aload_n 0, 51, [], 0), (51, .getfield 10, 54, [5, 0], 0), (54, .getfield 191, 57, [0, 4], 0), (57, .iload_n 3, 58, [], 0), (58, .iaload, 59, [], 0), (59, .istore 5, 61, [], 0), (61, .aload_n 0, 62, [], 0), (62, .getfield 19, 65, [5, 1], 0), (65, .aload_n 0, 66, [], 0), (66, .getfield 26, 69, [5, 2], 0), (69, .getfield 224, 72, [2, 1], 0), (72, .iload_n 1, 73, [], 0), (73, .iaload, 74, [], 0), (74, .iconst 1, 75, [], 1), (75, .invokevirtual 284, 78, [0], 0), (78, .tableswitch 44 0 2 #[26, 29, 42], 104, [122, 104, 107, 120], 0), (104, .iload 5, 106, [], 0), (106, .ireturn, 107, [0], 0), (107, .iload_n 2, 108, [], 0), (108, .ifCond .eq 8, 111, [116], 0), (111, .iload 4, 113, [], 0), (113, .goto 6, 116, [119], 0), (116, .iload 5, 118, [], 0), (118, .ineg, 119, [], 0), (119, .ireturn, 120, [0], 0), (120, .iconst 1, 121, [], 1), (121, .ireturn, 122, [0], 0), (122, .iconst (-1), 123, [], (-1)), (123, .ireturn, 124, [0], 0)]
theorem ok_X5_chooseSide : ∀ q ∈ L_X5_chooseSide, rok cX5_chooseSide 6 0 q = true := by decide +kernel
theorem fk_X5_chooseSide : ∀ q ∈ L_X5_chooseSide, fck FT_X5 PT_X5 KT_X5 q = true := by decide +kernel
noncomputable def cs_X5_chooseSide : List CT := [(false, 284, 3, 1, 1, m_X1_get)]
noncomputable def b_X5_chooseSide_27 : BT := fun lv st S => brn xT cs_X5_chooseSide L_X5_chooseSide [27] (dsp []) 57 [] 27 lv st S
theorem s_X5_chooseSide_27 (M : xM p l e R s m args below meth c cells slots Q D xT g cI cZ A 6 cX5_chooseSide RX5 0 cs_X5_chooseSide L_X5_chooseSide R0) : ∀ lv st S, b_X5_chooseSide_27 lv st S = some R0 → xG p l e R s m args below meth c cells slots Q D xT g cI cZ A 6 27 lv st S := fun lv st S h => xa_blk M (fun _ q => absurd q List.not_mem_nil) h
noncomputable def m_X5_chooseSide : MT := fun As S => brn xT cs_X5_chooseSide L_X5_chooseSide [27] (dsp [(27, [0, 1, 2, 3], b_X5_chooseSide_27)]) 57 [] 0 (zipN 0 As) [] S
theorem s_X5_chooseSide (M : xM p l e R s m args below meth c cells slots Q D xT g cI cZ A 6 cX5_chooseSide RX5 0 cs_X5_chooseSide L_X5_chooseSide R0) {As : List AV} {S : XS} (h : m_X5_chooseSide As S = some R0) : xG p l e R s m args below meth c cells slots Q D xT g cI cZ A 6 0 (zipN 0 As) [] S := xa_blk M (List.forall_mem_cons.mpr ⟨fun lv st S h => (s_X5_chooseSide_27 M) lv st S h, fun _ q => absurd q List.not_mem_nil⟩) h
set_option maxRecDepth 20000 in
theorem c_X5_chooseSide {l : Launch} {D : va_G} {g : Nat → Nat} {cI cZ : ClassId} {A : Nat → Prop} (hD : ∀ S, va_D A (ww xT g cI cZ S)) : xMet l D xT g cI cZ A yX5_chooseSide (wm yX5_chooseSide cX5_chooseSide 6 0) { frames := 1, cells := 0, slots := 0, locals := 22 } 3 m_X5_chooseSide :=
  xa_met (ft := FT_X5) (pt := PT_X5) (kt := KT_X5) (cs := cs_X5_chooseSide) (L := L_X5_chooseSide) hD (by decide) (by decide) ok_X5_chooseSide fk_X5_chooseSide fa_X5 (fun p e s m args below meth c Q R0 C0 hts hN => all_get (List.forall_mem_cons.mpr ⟨xcf_VN (C := RX1) (host := "StackMarks") C0 hts hN (c_X1_get hD) (good_N kc_X1_get) (by decide +kernel) (List.mem_cons_of_mem _ kn_X1) (List.mem_cons_of_mem _ ki_X1_get) (List.mem_cons_of_mem _ ks_X1_get) rfl ⟨rfl, rfl⟩ rfl (by decide +kernel) ⟨by decide, by decide⟩ ⟨Nat.zero_le _, Nat.zero_le _⟩, fun _ q => absurd q List.not_mem_nil⟩)) (fun p e s m args below meth c Q R0 As S M h => s_X5_chooseSide M h)
def L_X5_rank : List CE := [(0, .aload_n 0, 1, [], 0), (1, .getfield 19, 4, [5, 1], 0), (4, .aload_n 0, 5, [], 0), (5, .getfield 26, 8, [5, 2], 0), (8, .getfield 224, 11, [2, 1], 0), (11, .iload_n 1, 12, [], 0), (12, .iaload, 13, [], 0), (13, .invokevirtual 282, 16, [0], 0), (16, .ldc_w 283, 19, [], 100001), (19, .imul, 20, [], 0), (20, .aload_n 0, 21, [], 0), (21, .getfield 10, 24, [5, 0], 0), (24, .getfield 100, 27, [0, 0], 0), (27, .aload_n 0, 28, [], 0), (28, .getfield 26, 31, [5, 2], 0), (31, .getfield 181, 34, [2, 0], 0), (34, .iload_n 1, 35, [], 0), (35, .iaload, 36, [], 0), (36, .iaload, 37, [], 0), (37, .iadd, 38, [], 0), (38, .ireturn, 39, [0], 0)]
theorem ok_X5_rank : ∀ q ∈ L_X5_rank, rok cX5_rank 2 0 q = true := by decide +kernel
theorem fk_X5_rank : ∀ q ∈ L_X5_rank, fck FT_X5 PT_X5 KT_X5 q = true := by decide +kernel
noncomputable def cs_X5_rank : List CT := [(false, 282, 2, 1, 1, m_X1_rank)]
noncomputable def m_X5_rank : MT := fun As S => brn xT cs_X5_rank L_X5_rank [] (dsp []) 23 [] 0 (zipN 0 As) [] S
theorem s_X5_rank (M : xM p l e R s m args below meth c cells slots Q D xT g cI cZ A 2 cX5_rank RX5 0 cs_X5_rank L_X5_rank R0) {As : List AV} {S : XS} (h : m_X5_rank As S = some R0) : xG p l e R s m args below meth c cells slots Q D xT g cI cZ A 2 0 (zipN 0 As) [] S := xa_blk M (fun _ q => absurd q List.not_mem_nil) h
set_option maxRecDepth 20000 in
theorem c_X5_rank {l : Launch} {D : va_G} {g : Nat → Nat} {cI cZ : ClassId} {A : Nat → Prop} (hD : ∀ S, va_D A (ww xT g cI cZ S)) : xMet l D xT g cI cZ A yX5_rank (wm yX5_rank cX5_rank 2 0) { frames := 2, cells := 0, slots := 0, locals := 43 } 2 m_X5_rank :=
  xa_met (ft := FT_X5) (pt := PT_X5) (kt := KT_X5) (cs := cs_X5_rank) (L := L_X5_rank) hD (by decide) (by decide) ok_X5_rank fk_X5_rank fa_X5 (fun p e s m args below meth c Q R0 C0 hts hN => all_get (List.forall_mem_cons.mpr ⟨xcf_VN (C := RX1) (host := "StackMarks") C0 hts hN (c_X1_rank hD) (good_N kc_X1_rank) (by decide +kernel) (List.mem_cons_of_mem _ kn_X1) (List.mem_cons_of_mem _ ki_X1_rank) (List.mem_cons_of_mem _ ks_X1_rank) rfl ⟨rfl, rfl⟩ rfl (by decide +kernel) ⟨by decide, by decide⟩ ⟨Nat.zero_le _, Nat.zero_le _⟩, fun _ q => absurd q List.not_mem_nil⟩)) (fun p e s m args below meth c Q R0 As S M h => s_X5_rank M h)
def L_X5_queueMark : List CE := [(0, .aload_n 0, 1, [], 0), (1, .getfield 266, 4, [5, 7], 0), (4, .istore_n 2, 5, [], 0), (5, .iload_n 2, 6, [], 0), (6, .ifCond .le 43, 9, [49], 0), (9, .aload_n 0, 10, [], 0), (10, .iload_n 1, 11, [], 0), (11, .invokevirtual 279, 14, [0], 0), (14, .aload_n 0, 15, [], 0), (15, .aload_n 0, 16, [], 0), (16, .getfield 47, 19, [5, 6], 0), (19, .iload_n 2, 20, [], 0), (20, .iconst 1, 21, [], 1), (21, .isub, 22, [], 0), (22, .iaload, 23, [], 0), (23, .invokevirtual 279, 26, [0], 0), (26, .if_icmp .ge 23, 29, [49], 0), (29, .aload_n 0, 30, [], 0), (30, .getfield 47, 33, [5, 6], 0), (33, .iload_n 2, 34, [], 0), (34, .aload_n 0, 35, [], 0), (35, .getfield 47, 38, [5, 6], 0), (38, .iload_n 2, 39, [], 0), (39, .iconst 1, 40, [], 1), (40, .isub, 41, [], 0), (41, .iaload, 42, [], 0), (42, .iastore, 43, [], 0), (43, .iinc 2 (-1), 46, [], (-1)), (46, .goto (-41), 49, [5], 0), (49, .aload_n 0, 50, [], 0), (50, .getfield 47, 53, [5, 6], 0), (53, .iload_n 2, 54, [], 0), (54, .iload_n 1, 55, [], 0), (55, .iastore, 56, [], 0), (56, .aload_n 0, 57, [], 0), (57, .dup, 58, [], 0), (58, .getfield 266, 61, [5, 7], 0), (61, .iconst 1, 62, [], 1), (62, .iadd, 63, [], 0), (63, .putfield 266, 66, [5, 7, 0], 0), (66, .return_, 67, [], 0)]
theorem ok_X5_queueMark : ∀ q ∈ L_X5_queueMark, rok cX5_queueMark 3 2 q = true := by decide +kernel
theorem fk_X5_queueMark : ∀ q ∈ L_X5_queueMark, fck FT_X5 PT_X5 KT_X5 q = true := by decide +kernel
noncomputable def cs_X5_queueMark : List CT := [(false, 279, 2, 1, 5, m_X5_rank)]
noncomputable def b_X5_queueMark_5 : Nat → BT
  | 0 => fun _ _ _ => none
  | n + 1 => fun lv st S => brn xT cs_X5_queueMark L_X5_queueMark [5] (dsp [(5, [0, 1, 2], b_X5_queueMark_5 n)]) 43 [] 5 lv st S
theorem s_X5_queueMark_5 (M : xM p l e R s m args below meth c cells slots Q D xT g cI cZ A 3 cX5_queueMark RX5 2 cs_X5_queueMark L_X5_queueMark R0) : ∀ n lv st S, b_X5_queueMark_5 n lv st S = some R0 → xG p l e R s m args below meth c cells slots Q D xT g cI cZ A 3 5 lv st S := by
  intro n
  induction n with
  | zero => intro lv st S h; cases h
  | succ n ih => intro lv st S h; exact xa_blk M (List.forall_mem_cons.mpr ⟨fun lv st S h => (ih) lv st S h, fun _ q => absurd q List.not_mem_nil⟩) h
noncomputable def m_X5_queueMark : MT := fun As S => brn xT cs_X5_queueMark L_X5_queueMark [5] (dsp [(5, [0, 1, 2], b_X5_queueMark_5 fu)]) 43 [] 0 (zipN 0 As) [] S
theorem s_X5_queueMark (M : xM p l e R s m args below meth c cells slots Q D xT g cI cZ A 3 cX5_queueMark RX5 2 cs_X5_queueMark L_X5_queueMark R0) {As : List AV} {S : XS} (h : m_X5_queueMark As S = some R0) : xG p l e R s m args below meth c cells slots Q D xT g cI cZ A 3 0 (zipN 0 As) [] S := xa_blk M (List.forall_mem_cons.mpr ⟨fun lv st S h => (s_X5_queueMark_5 M fu) lv st S h, fun _ q => absurd q List.not_mem_nil⟩) h
set_option maxRecDepth 20000 in
theorem c_X5_queueMark {l : Launch} {D : va_G} {g : Nat → Nat} {cI cZ : ClassId} {A : Nat → Prop} (hD : ∀ S, va_D A (ww xT g cI cZ S)) : xMet l D xT g cI cZ A yX5_queueMark (wm yX5_queueMark cX5_queueMark 3 2) { frames := 3, cells := 0, slots := 0, locals := 64 } 2 m_X5_queueMark :=
  xa_met (ft := FT_X5) (pt := PT_X5) (kt := KT_X5) (cs := cs_X5_queueMark) (L := L_X5_queueMark) hD (by decide) (by decide) ok_X5_queueMark fk_X5_queueMark fa_X5 (fun p e s m args below meth c Q R0 C0 hts hN => all_get (List.forall_mem_cons.mpr ⟨xcf_V (C := RX5) C0 hts hN (c_X5_rank hD) (good_V kl_X5_279 ki_X5_rank ks_X5_rank kn_X5 kc_X5_rank) rfl ⟨rfl, rfl⟩ rfl (by decide +kernel) ⟨by decide, by decide⟩ ⟨Nat.zero_le _, Nat.zero_le _⟩, fun _ q => absurd q List.not_mem_nil⟩)) (fun p e s m args below meth c Q R0 As S M h => s_X5_queueMark M h)
def L_X5_queueMarks : List CE := [(0, .aload_n 0, 1, [], 0), (1, .getfield 10, 4, [5, 0], 0), (4, .invokevirtual 262, 7, [0], 0), (7, .istore_n 1, 8, [], 0), (8, .aload_n 0, 9, [], 0), (9, .iconst 0, 10, [], 0), (10, .putfield 266, 13, [5, 7, 0], 0), (13, .iconst 0, 14, [], 0), (14, .istore_n 2, 15, [], 0), (15, .iload_n 2, 16, [], 0), (16, .aload_n 0, 17, [], 0), (17, .getfield 26, 20, [5, 2], 0), (20, .getfield 86, 23, [2, 11], 0), (23, .if_icmp .ge 75, 26, [98], 0), (26, .aload_n 0, 27, [], 0), (27, .getfield 26, 30, [5, 2], 0), (30, .getfield 96, 33, [2, 4], 0), (33, .iload_n 2, 34, [], 0), (34, .baload, 35, [], 0), (35, .ifCond .ne 57, 38, [92], 0), (38, .aload_n 0, 39, [], 0), (39, .getfield 26, 42, [5, 2], 0), (42, .getfield 127, 45, [2, 5], 0), (45, .iload_n 2, 46, [], 0), (46, .aload_n 0, 47, [], 0), (47, .iload_n 2, 48, [], 0), (48, .invokevirtual 269, 51, [1], 0), (51, .iastore, 52, [], 0), (52, .aload_n 0, 53, [], 0), (53, .getfield 26, 56, [5, 2], 0), (56, .getfield 134, 59, [2, 6], 0), (59, .iload_n 2, 60, [], 0), (60, .aload_n 0, 61, [], 0), (61, .iload_n 2, 62, [], 0), (62, .iload_n 1, 63, [], 0), (63, .invokevirtual 272, 66, [2], 0), (66, .iastore, 67, [], 0), (67, .aload_n 0, 68, [], 0), (68, .getfield 26, 71, [5, 2], 0), (71, .getfield 143, 74, [2, 9], 0), (74, .iload_n 2, 75, [], 0), (75, .iconst 0, 76, [], 0), (76, .bastore, 77, [], 0), (77, .aload_n 0, 78, [], 0), (78, .getfield 26, 81, [5, 2], 0), (81, .getfield 146, 84, [2, 10], 0), (84, .iload_n 2, 85, [], 0), (85, .iconst (-1), 86, [], (-1)), (86, .iastore, 87, [], 0), (87, .aload_n 0, 88, [], 0), (88, .iload_n 2, 89, [], 0), (89, .invokevirtual 276, 92, [3], 0), (92, .iinc 2 1, 95, [], 1), (95, .goto (-80), 98, [15], 0), (98, .return_, 99, [], 0)]
theorem ok_X5_queueMarks : ∀ q ∈ L_X5_queueMarks, rok cX5_queueMarks 3 2 q = true := by decide +kernel
theorem fk_X5_queueMarks : ∀ q ∈ L_X5_queueMarks, fck FT_X5 PT_X5 KT_X5 q = true := by decide +kernel
noncomputable def cs_X5_queueMarks : List CT := [(false, 262, 1, 1, 0, m_X0_haveBothVoices), (false, 269, 2, 1, 5, m_X5_leftEdge), (false, 272, 3, 1, 5, m_X5_chooseSide), (false, 276, 2, 0, 5, m_X5_queueMark)]
noncomputable def b_X5_queueMarks_15 : Nat → BT
  | 0 => fun _ _ _ => none
  | n + 1 => fun lv st S => brn xT cs_X5_queueMarks L_X5_queueMarks [15] (dsp [(15, [0, 1, 2], b_X5_queueMarks_15 n)]) 57 [] 15 lv st S
theorem s_X5_queueMarks_15 (M : xM p l e R s m args below meth c cells slots Q D xT g cI cZ A 3 cX5_queueMarks RX5 2 cs_X5_queueMarks L_X5_queueMarks R0) : ∀ n lv st S, b_X5_queueMarks_15 n lv st S = some R0 → xG p l e R s m args below meth c cells slots Q D xT g cI cZ A 3 15 lv st S := by
  intro n
  induction n with
  | zero => intro lv st S h; cases h
  | succ n ih => intro lv st S h; exact xa_blk M (List.forall_mem_cons.mpr ⟨fun lv st S h => (ih) lv st S h, fun _ q => absurd q List.not_mem_nil⟩) h
noncomputable def m_X5_queueMarks : MT := fun As S => brn xT cs_X5_queueMarks L_X5_queueMarks [15] (dsp [(15, [0, 1, 2], b_X5_queueMarks_15 fu)]) 57 [] 0 (zipN 0 As) [] S
theorem s_X5_queueMarks (M : xM p l e R s m args below meth c cells slots Q D xT g cI cZ A 3 cX5_queueMarks RX5 2 cs_X5_queueMarks L_X5_queueMarks R0) {As : List AV} {S : XS} (h : m_X5_queueMarks As S = some R0) : xG p l e R s m args below meth c cells slots Q D xT g cI cZ A 3 0 (zipN 0 As) [] S := xa_blk M (List.forall_mem_cons.mpr ⟨fun lv st S h => (s_X5_queueMarks_15 M fu) lv st S h, fun _ q => absurd q List.not_mem_nil⟩) h
set_option maxRecDepth 20000 in
theorem c_X5_queueMarks {l : Launch} {D : va_G} {g : Nat → Nat} {cI cZ : ClassId} {A : Nat → Prop} (hD : ∀ S, va_D A (ww xT g cI cZ S)) : xMet l D xT g cI cZ A yX5_queueMarks (wm yX5_queueMarks cX5_queueMarks 3 2) { frames := 4, cells := 0, slots := 0, locals := 86 } 1 m_X5_queueMarks :=
  xa_met (ft := FT_X5) (pt := PT_X5) (kt := KT_X5) (cs := cs_X5_queueMarks) (L := L_X5_queueMarks) hD (by decide) (by decide) ok_X5_queueMarks fk_X5_queueMarks fa_X5 (fun p e s m args below meth c Q R0 C0 hts hN => all_get (List.forall_mem_cons.mpr ⟨xcf_VN (C := RX0) (host := "StackMarks") C0 hts hN (c_X0_haveBothVoices hD) (good_N kc_X0_haveBothVoices) (by decide +kernel) (List.mem_cons_of_mem _ kn_X0) (List.mem_cons_of_mem _ ki_X0_haveBothVoices) (List.mem_cons_of_mem _ ks_X0_haveBothVoices) rfl ⟨rfl, rfl⟩ rfl (by decide +kernel) ⟨by decide, by decide⟩ ⟨Nat.zero_le _, Nat.zero_le _⟩, List.forall_mem_cons.mpr ⟨xcf_V (C := RX5) C0 hts hN (c_X5_leftEdge hD) (good_V kl_X5_269 ki_X5_leftEdge ks_X5_leftEdge kn_X5 kc_X5_leftEdge) rfl ⟨rfl, rfl⟩ rfl (by decide +kernel) ⟨by decide, by decide⟩ ⟨Nat.zero_le _, Nat.zero_le _⟩, List.forall_mem_cons.mpr ⟨xcf_V (C := RX5) C0 hts hN (c_X5_chooseSide hD) (good_V kl_X5_272 ki_X5_chooseSide ks_X5_chooseSide kn_X5 kc_X5_chooseSide) rfl ⟨rfl, rfl⟩ rfl (by decide +kernel) ⟨by decide, by decide⟩ ⟨Nat.zero_le _, Nat.zero_le _⟩, List.forall_mem_cons.mpr ⟨xcf_V (C := RX5) C0 hts hN (c_X5_queueMark hD) (good_V kl_X5_276 ki_X5_queueMark ks_X5_queueMark kn_X5 kc_X5_queueMark) rfl ⟨rfl, rfl⟩ rfl (by decide +kernel) ⟨by decide, by decide⟩ ⟨Nat.zero_le _, Nat.zero_le _⟩, fun _ q => absurd q List.not_mem_nil⟩⟩⟩⟩)) (fun p e s m args below meth c Q R0 As S M h => s_X5_queueMarks M h)
def L_X5_innerAlone : List CE := [(0, .aload_n 0, 1, [], 0), (1, .aload_n 0, 2, [], 0), (2, .getfield 26, 5, [5, 2], 0), (5, .getfield 134, 8, [2, 6], 0), (8, .iload_n 1, 9, [], 0), (9, .iaload, 10, [], 0), (10, .invokevirtual 153, 13, [0], 0), (13, .aload_n 0, 14, [], 0), (14, .getfield 26, 17, [5, 2], 0), (17, .getfield 127, 20, [2, 5], 0), (20, .iload_n 1, 21, [], 0), (21, .iaload, 22, [], 0), (22, .iconst 1, 23, [], 1), (23, .isub, 24, [], 0), (24, .aload_n 0, 25, [], 0), (25, .getfield 26, 28, [5, 2], 0), (28, .iload_n 1, 29, [], 0), (29, .invokevirtual 130, 32, [1], 0), (32, .iconst 1, 33, [], 1), (33, .isub, 34, [], 0), (34, .iconst 1, 35, [], 1), (35, .iadd, 36, [], 0), (36, .invokevirtual 157, 39, [2], 0), (39, .istore_n 2, 40, [], 0), (40, .iload_n 2, 41, [], 0), (41, .aload_n 0, 42, [], 0), (42, .getfield 19, 45, [5, 1], 0), (45, .aload_n 0, 46, [], 0), (46, .getfield 26, 49, [5, 2], 0), (49, .getfield 224, 52, [2, 1], 0), (52, .iload_n 1, 53, [], 0), (53, .iaload, 54, [], 0), (54, .iconst 3, 55, [], 3), (55, .invokevirtual 284, 58, [3], 0), (58, .iadd, 59, [], 0), (59, .ireturn, 60, [0], 0)]
theorem ok_X5_innerAlone : ∀ q ∈ L_X5_innerAlone, rok cX5_innerAlone 3 0 q = true := by decide +kernel
theorem fk_X5_innerAlone : ∀ q ∈ L_X5_innerAlone, fck FT_X5 PT_X5 KT_X5 q = true := by decide +kernel
noncomputable def cs_X5_innerAlone : List CT := [(false, 153, 2, 2, 5, m_X5_outline), (false, 130, 2, 1, 2, m_X2_behind), (false, 157, 3, 1, 3, m_X3_greatest), (false, 284, 3, 1, 1, m_X1_get)]
noncomputable def m_X5_innerAlone : MT := fun As S => brn xT cs_X5_innerAlone L_X5_innerAlone [] (dsp []) 38 [] 0 (zipN 0 As) [] S
theorem s_X5_innerAlone (M : xM p l e R s m args below meth c cells slots Q D xT g cI cZ A 3 cX5_innerAlone RX5 0 cs_X5_innerAlone L_X5_innerAlone R0) {As : List AV} {S : XS} (h : m_X5_innerAlone As S = some R0) : xG p l e R s m args below meth c cells slots Q D xT g cI cZ A 3 0 (zipN 0 As) [] S := xa_blk M (fun _ q => absurd q List.not_mem_nil) h
set_option maxRecDepth 20000 in
theorem c_X5_innerAlone {l : Launch} {D : va_G} {g : Nat → Nat} {cI cZ : ClassId} {A : Nat → Prop} (hD : ∀ S, va_D A (ww xT g cI cZ S)) : xMet l D xT g cI cZ A yX5_innerAlone (wm yX5_innerAlone cX5_innerAlone 3 0) { frames := 2, cells := 0, slots := 0, locals := 45 } 2 m_X5_innerAlone :=
  xa_met (ft := FT_X5) (pt := PT_X5) (kt := KT_X5) (cs := cs_X5_innerAlone) (L := L_X5_innerAlone) hD (by decide) (by decide) ok_X5_innerAlone fk_X5_innerAlone fa_X5 (fun p e s m args below meth c Q R0 C0 hts hN => all_get (List.forall_mem_cons.mpr ⟨xcf_V (C := RX5) C0 hts hN (c_X5_outline hD) (good_V kl_X5_153 ki_X5_outline ks_X5_outline kn_X5 kc_X5_outline) rfl ⟨rfl, rfl⟩ rfl (by decide +kernel) ⟨by decide, by decide⟩ ⟨Nat.zero_le _, Nat.zero_le _⟩, List.forall_mem_cons.mpr ⟨xcf_VN (C := RX2) (host := "StackMarks") C0 hts hN (c_X2_behind hD) (good_N kc_X2_behind) (by decide +kernel) (List.mem_cons_of_mem _ kn_X2) (List.mem_cons_of_mem _ ki_X2_behind) (List.mem_cons_of_mem _ ks_X2_behind) rfl ⟨rfl, rfl⟩ rfl (by decide +kernel) ⟨by decide, by decide⟩ ⟨Nat.zero_le _, Nat.zero_le _⟩, List.forall_mem_cons.mpr ⟨xcf_VN (C := RX3) (host := "StackMarks") C0 hts hN (c_X3_greatest hD) (good_N kc_X3_greatest) (by decide +kernel) (List.mem_cons_of_mem _ kn_X3) (List.mem_cons_of_mem _ ki_X3_greatest) (List.mem_cons_of_mem _ ks_X3_greatest) rfl ⟨rfl, rfl⟩ rfl (by decide +kernel) ⟨by decide, by decide⟩ ⟨Nat.zero_le _, Nat.zero_le _⟩, List.forall_mem_cons.mpr ⟨xcf_VN (C := RX1) (host := "StackMarks") C0 hts hN (c_X1_get hD) (good_N kc_X1_get) (by decide +kernel) (List.mem_cons_of_mem _ kn_X1) (List.mem_cons_of_mem _ ki_X1_get) (List.mem_cons_of_mem _ ks_X1_get) rfl ⟨rfl, rfl⟩ rfl (by decide +kernel) ⟨by decide, by decide⟩ ⟨Nat.zero_le _, Nat.zero_le _⟩, fun _ q => absurd q List.not_mem_nil⟩⟩⟩⟩)) (fun p e s m args below meth c Q R0 As S M h => s_X5_innerAlone M h)
def L_X5_layAt : List CE := [(0, .iload_n 2, 1, [], 0), (1, .aload_n 0, 2, [], 0), (2, .getfield 26, 5, [5, 2], 0), (5, .getfield 302, 8, [2, 3], 0), (8, .iload_n 1, 9, [], 0), (9, .iaload, 10, [], 0), (10, .iadd, 11, [], 0), (11, .istore_n 3, 12, [], 0), (12, .aload_n 0, 13, [], 0), (13, .getfield 26, 16, [5, 2], 0), (16, .getfield 137, 19, [2, 7], 0), (19, .iload_n 1, 20, [], 0), (20, .iload_n 2, 21, [], 0), (21, .iastore, 22, [], 0), (22, .aload_n 0, 23, [], 0), (23, .getfield 26, 26, [5, 2], 0), (26, .getfield 140, 29, [2, 8], 0), (29, .iload_n 1, 30, [], 0), (30, .iload_n 3, 31, [], 0), (31, .iastore, 32, [], 0), (32, .aload_n 0, 33, [], 0), (33, .getfield 26, 36, [5, 2], 0), (36, .getfield 146, 39, [2, 10], 0), (39, .iload_n 1, 40, [], 0), (40, .aload_n 0, 41, [], 0), (41, .getfield 287, 44, [5, 8], 0), (44, .iastore, 45, [], 0), (45, .aload_n 0, 46, [], 0), (46, .dup, 47, [], 0), (47, .getfield 287, 50, [5, 8], 0), (50, .iconst 1, 51, [], 1), (51, .iadd, 52, [], 0), (52, .putfield 287, 55, [5, 8, 0], 0), (55, .aload_n 0, 56, [], 0), (56, .aload_n 0, 57, [], 0), (57, .getfield 26, 60, [5, 2], 0), (60, .getfield 134, 63, [2, 6], 0), (63, .iload_n 1, 64, [], 0), (64, .iaload, 65, [], 0), (65, .invokevirtual 153, 68, [0], 0), (68, .astore 4, 70, [], 0), (70, .aload 4, 72, [], 0), (72, .aload_n 0, 73, [], 0), (73, .getfield 26, 76, [5, 2], 0), (76, .getfield 127, 79, [2, 5], 0), (79, .iload_n 1, 80, [], 0), (80, .iaload, 81, [], 0), (81, .aload_n 0, 82, [], 0), (82, .getfield 26, 85, [5, 2], 0), (85, .iload_n 1, 86, [], 0), (86, .invokevirtual 130, 89, [1], 0), (89, .iconst 1, 90, [], 1), (90, .isub, 91, [], 0), (91, .iload_n 3, 92, [], 0), (92, .invokevirtual 246, 95, [2], 0), (95, .aload 4, 97, [], 0), (97, .iload_n 3, 98, [], 0), (98, .invokevirtual 259, 101, [3], 0), (101, .return_, 102, [], 0)]
theorem ok_X5_layAt : ∀ q ∈ L_X5_layAt, rok cX5_layAt 5 2 q = true := by decide +kernel
theorem fk_X5_layAt : ∀ q ∈ L_X5_layAt, fck FT_X5 PT_X5 KT_X5 q = true := by decide +kernel
noncomputable def cs_X5_layAt : List CT := [(false, 153, 2, 2, 5, m_X5_outline), (false, 130, 2, 1, 2, m_X2_behind), (false, 246, 4, 0, 3, m_X3_cover), (false, 259, 2, 0, 3, m_X3_reachOut)]
noncomputable def m_X5_layAt : MT := fun As S => brn xT cs_X5_layAt L_X5_layAt [] (dsp []) 61 [] 0 (zipN 0 As) [] S
theorem s_X5_layAt (M : xM p l e R s m args below meth c cells slots Q D xT g cI cZ A 5 cX5_layAt RX5 2 cs_X5_layAt L_X5_layAt R0) {As : List AV} {S : XS} (h : m_X5_layAt As S = some R0) : xG p l e R s m args below meth c cells slots Q D xT g cI cZ A 5 0 (zipN 0 As) [] S := xa_blk M (fun _ q => absurd q List.not_mem_nil) h
set_option maxRecDepth 20000 in
theorem c_X5_layAt {l : Launch} {D : va_G} {g : Nat → Nat} {cI cZ : ClassId} {A : Nat → Prop} (hD : ∀ S, va_D A (ww xT g cI cZ S)) : xMet l D xT g cI cZ A yX5_layAt (wm yX5_layAt cX5_layAt 5 2) { frames := 2, cells := 0, slots := 0, locals := 42 } 3 m_X5_layAt :=
  xa_met (ft := FT_X5) (pt := PT_X5) (kt := KT_X5) (cs := cs_X5_layAt) (L := L_X5_layAt) hD (by decide) (by decide) ok_X5_layAt fk_X5_layAt fa_X5 (fun p e s m args below meth c Q R0 C0 hts hN => all_get (List.forall_mem_cons.mpr ⟨xcf_V (C := RX5) C0 hts hN (c_X5_outline hD) (good_V kl_X5_153 ki_X5_outline ks_X5_outline kn_X5 kc_X5_outline) rfl ⟨rfl, rfl⟩ rfl (by decide +kernel) ⟨by decide, by decide⟩ ⟨Nat.zero_le _, Nat.zero_le _⟩, List.forall_mem_cons.mpr ⟨xcf_VN (C := RX2) (host := "StackMarks") C0 hts hN (c_X2_behind hD) (good_N kc_X2_behind) (by decide +kernel) (List.mem_cons_of_mem _ kn_X2) (List.mem_cons_of_mem _ ki_X2_behind) (List.mem_cons_of_mem _ ks_X2_behind) rfl ⟨rfl, rfl⟩ rfl (by decide +kernel) ⟨by decide, by decide⟩ ⟨Nat.zero_le _, Nat.zero_le _⟩, List.forall_mem_cons.mpr ⟨xcf_VN (C := RX3) (host := "StackMarks") C0 hts hN (c_X3_cover hD) (good_N kc_X3_cover) (by decide +kernel) (List.mem_cons_of_mem _ kn_X3) (List.mem_cons_of_mem _ ki_X3_cover) (List.mem_cons_of_mem _ ks_X3_cover) rfl ⟨rfl, rfl⟩ rfl (by decide +kernel) ⟨by decide, by decide⟩ ⟨Nat.zero_le _, Nat.zero_le _⟩, List.forall_mem_cons.mpr ⟨xcf_VN (C := RX3) (host := "StackMarks") C0 hts hN (c_X3_reachOut hD) (good_N kc_X3_reachOut) (by decide +kernel) (List.mem_cons_of_mem _ kn_X3) (List.mem_cons_of_mem _ ki_X3_reachOut) (List.mem_cons_of_mem _ ks_X3_reachOut) rfl ⟨rfl, rfl⟩ rfl (by decide +kernel) ⟨by decide, by decide⟩ ⟨Nat.zero_le _, Nat.zero_le _⟩, fun _ q => absurd q List.not_mem_nil⟩⟩⟩⟩)) (fun p e s m args below meth c Q R0 As S M h => s_X5_layAt M h)
def L_X5_isFreeInRow : List CE := [(0, .aload_n 0, 1, [], 0), (1, .getfield 47, 4, [5, 6], 0), (4, .iload_n 1, 5, [], 0), (5, .iaload, 6, [], 0), (6, .istore_n 2, 7, [], 0), (7, .iconst 0, 8, [], 0), (8, .istore_n 3, 9, [], 0), (9, .iload_n 3, 10, [], 0), (10, .iload_n 1, 11, [], 0), (11, .if_icmp .ge 79, 14, [90], 0), (14, .aload_n 0, 15, [], 0), (15, .getfield 47, 18, [5, 6], 0), (18, .iload_n 3, 19, [], 0), (19, .iaload, 20, [], 0), (20, .istore 4, 22, [], 0), (22, .aload_n 0, 23, [], 0), (23, .getfield 26, 26, [5, 2], 0), (26, .iload 4, 28, [], 0), (28, .aload_n 0, 29, [], 0), (29, .getfield 26, 32, [5, 2], 0), (32, .getfield 224, 35, [2, 1], 0), (35, .iload_n 2, 36, [], 0), (36, .iaload, 37, [], 0), (37, .aload_n 0, 38, [], 0), (38, .getfield 26, 41, [5, 2], 0), (41, .getfield 134, 44, [2, 6], 0), (44, .iload_n 2, 45, [], 0), (45, .iaload, 46, [], 0), (46, .invokevirtual 314, 49, [0], 0), (49, .istore 5, 51, [], 0), (51, .iload 5, 53, [], 0), (53, .ifCond .eq 31, 56, [84], 0), (56, .aload_n 0, 57, [], 0), (57, .getfield 26, 60, [5, 2], 0), (60, .getfield 143, 63, [2, 9], 0), (63, .iload 4, 65, [], 0), (65, .baload, 66, [], 0), (66, .ifCond .eq 18, 69, [84], 0), (69, .aload_n 0, 70, [], 0), (70, .getfield 26, 73, [5, 2], 0), (73, .iload_n 2, 74, [], 0), (74, .iload 4, 76, [], 0), (76, .invokevirtual 171, 79, [1], 0), (79, .ifCond .eq 5, 82, [84], 0), (82, .iconst 0, 83, [], 0), (83, .ireturn, 84, [1], 0), (84, .iinc 3 1, 87, [], 1), (87, .goto (-78), 90, [9], 0), (90, .iconst 1, 91, [], 1), (91, .ireturn, 92, [1], 0)]
theorem ok_X5_isFreeInRow : ∀ q ∈ L_X5_isFreeInRow, rok cX5_isFreeInRow 6 1 q = true := by decide +kernel
theorem fk_X5_isFreeInRow : ∀ q ∈ L_X5_isFreeInRow, fck FT_X5 PT_X5 KT_X5 q = true := by decide +kernel
noncomputable def cs_X5_isFreeInRow : List CT := [(false, 314, 4, 1, 2, m_X2_isOf), (false, 171, 3, 1, 2, m_X2_shareX)]
noncomputable def b_X5_isFreeInRow_9 : Nat → BT
  | 0 => fun _ _ _ => none
  | n + 1 => fun lv st S => brn xT cs_X5_isFreeInRow L_X5_isFreeInRow [9] (dsp [(9, [0, 1, 2, 3], b_X5_isFreeInRow_9 n)]) 52 [] 9 lv st S
theorem s_X5_isFreeInRow_9 (M : xM p l e R s m args below meth c cells slots Q D xT g cI cZ A 6 cX5_isFreeInRow RX5 1 cs_X5_isFreeInRow L_X5_isFreeInRow R0) : ∀ n lv st S, b_X5_isFreeInRow_9 n lv st S = some R0 → xG p l e R s m args below meth c cells slots Q D xT g cI cZ A 6 9 lv st S := by
  intro n
  induction n with
  | zero => intro lv st S h; cases h
  | succ n ih => intro lv st S h; exact xa_blk M (List.forall_mem_cons.mpr ⟨fun lv st S h => (ih) lv st S h, fun _ q => absurd q List.not_mem_nil⟩) h
noncomputable def m_X5_isFreeInRow : MT := fun As S => brn xT cs_X5_isFreeInRow L_X5_isFreeInRow [9] (dsp [(9, [0, 1, 2, 3], b_X5_isFreeInRow_9 fu)]) 52 [] 0 (zipN 0 As) [] S
theorem s_X5_isFreeInRow (M : xM p l e R s m args below meth c cells slots Q D xT g cI cZ A 6 cX5_isFreeInRow RX5 1 cs_X5_isFreeInRow L_X5_isFreeInRow R0) {As : List AV} {S : XS} (h : m_X5_isFreeInRow As S = some R0) : xG p l e R s m args below meth c cells slots Q D xT g cI cZ A 6 0 (zipN 0 As) [] S := xa_blk M (List.forall_mem_cons.mpr ⟨fun lv st S h => (s_X5_isFreeInRow_9 M fu) lv st S h, fun _ q => absurd q List.not_mem_nil⟩) h
set_option maxRecDepth 20000 in
theorem c_X5_isFreeInRow {l : Launch} {D : va_G} {g : Nat → Nat} {cI cZ : ClassId} {A : Nat → Prop} (hD : ∀ S, va_D A (ww xT g cI cZ S)) : xMet l D xT g cI cZ A yX5_isFreeInRow (wm yX5_isFreeInRow cX5_isFreeInRow 6 1) { frames := 2, cells := 0, slots := 0, locals := 43 } 2 m_X5_isFreeInRow :=
  xa_met (ft := FT_X5) (pt := PT_X5) (kt := KT_X5) (cs := cs_X5_isFreeInRow) (L := L_X5_isFreeInRow) hD (by decide) (by decide) ok_X5_isFreeInRow fk_X5_isFreeInRow fa_X5 (fun p e s m args below meth c Q R0 C0 hts hN => all_get (List.forall_mem_cons.mpr ⟨xcf_VN (C := RX2) (host := "StackMarks") C0 hts hN (c_X2_isOf hD) (good_N kc_X2_isOf) (by decide +kernel) (List.mem_cons_of_mem _ kn_X2) (List.mem_cons_of_mem _ ki_X2_isOf) (List.mem_cons_of_mem _ ks_X2_isOf) rfl ⟨rfl, rfl⟩ rfl (by decide +kernel) ⟨by decide, by decide⟩ ⟨Nat.zero_le _, Nat.zero_le _⟩, List.forall_mem_cons.mpr ⟨xcf_VN (C := RX2) (host := "StackMarks") C0 hts hN (c_X2_shareX hD) (good_N kc_X2_shareX) (by decide +kernel) (List.mem_cons_of_mem _ kn_X2) (List.mem_cons_of_mem _ ki_X2_shareX) (List.mem_cons_of_mem _ ks_X2_shareX) rfl ⟨rfl, rfl⟩ rfl (by decide +kernel) ⟨by decide, by decide⟩ ⟨Nat.zero_le _, Nat.zero_le _⟩, fun _ q => absurd q List.not_mem_nil⟩⟩)) (fun p e s m args below meth c Q R0 As S M h => s_X5_isFreeInRow M h)
def L_X5_fillRow : List CE := [(0, .ldc 170, 2, [], (-100003)), (2, .istore_n 3, 3, [], 0), (3, .iconst 0, 4, [], 0), (4, .istore 4, 6, [], 0), (6, .iload 4, 8, [], 0), (8, .aload_n 0, 9, [], 0), (9, .getfield 266, 12, [5, 7], 0), (12, .if_icmp .ge 63, 15, [75], 0), (15, .aload_n 0, 16, [], 0), (16, .getfield 47, 19, [5, 6], 0), (19, .iload 4, 21, [], 0), (21, .iaload, 22, [], 0), (22, .istore 5, 24, [], 0), (24, .aload_n 0, 25, [], 0), (25, .getfield 26, 28, [5, 2], 0), (28, .iload 5, 30, [], 0), (30, .iload_n 1, 31, [], 0), (31, .iload_n 2, 32, [], 0), (32, .invokevirtual 314, 35, [0], 0), (35, .ifCond .eq 34, 38, [69], 0), (38, .aload_n 0, 39, [], 0), (39, .iload 4, 41, [], 0), (41, .invokevirtual 317, 44, [1], 0), (44, .ifCond .eq 25, 47, [69], 0), (47, .aload_n 0, 48, [], 0), (48, .getfield 26, 51, [5, 2], 0), (51, .getfield 143, 54, [2, 9], 0), (54, .iload 5, 56, [], 0), (56, .iconst 1, 57, [], 1), (57, .bastore, 58, [], 0), (58, .iload_n 3, 59, [], 0), (59, .aload_n 0, 60, [], 0), (60, .iload 5, 62, [], 0), (62, .invokevirtual 293, 65, [2], 0), (65, .invokestatic 233, 68, [3], 0), (68, .istore_n 3, 69, [], 0), (69, .iinc 4 1, 72, [], 1), (72, .goto (-66), 75, [6], 0), (75, .iload_n 3, 76, [], 0), (76, .ireturn, 77, [0], 0)]
theorem ok_X5_fillRow : ∀ q ∈ L_X5_fillRow, rok cX5_fillRow 6 0 q = true := by decide +kernel
theorem fk_X5_fillRow : ∀ q ∈ L_X5_fillRow, fck FT_X5 PT_X5 KT_X5 q = true := by decide +kernel
noncomputable def cs_X5_fillRow : List CT := [(false, 314, 4, 1, 2, m_X2_isOf), (false, 317, 2, 1, 5, m_X5_isFreeInRow), (false, 293, 2, 1, 5, m_X5_innerAlone), (true, 233, 2, 1, 0, sem_max)]
noncomputable def b_X5_fillRow_6 : Nat → BT
  | 0 => fun _ _ _ => none
  | n + 1 => fun lv st S => brn xT cs_X5_fillRow L_X5_fillRow [6] (dsp [(6, [0, 1, 2, 3, 4], b_X5_fillRow_6 n)]) 42 [] 6 lv st S
theorem s_X5_fillRow_6 (M : xM p l e R s m args below meth c cells slots Q D xT g cI cZ A 6 cX5_fillRow RX5 0 cs_X5_fillRow L_X5_fillRow R0) : ∀ n lv st S, b_X5_fillRow_6 n lv st S = some R0 → xG p l e R s m args below meth c cells slots Q D xT g cI cZ A 6 6 lv st S := by
  intro n
  induction n with
  | zero => intro lv st S h; cases h
  | succ n ih => intro lv st S h; exact xa_blk M (List.forall_mem_cons.mpr ⟨fun lv st S h => (ih) lv st S h, fun _ q => absurd q List.not_mem_nil⟩) h
noncomputable def m_X5_fillRow : MT := fun As S => brn xT cs_X5_fillRow L_X5_fillRow [6] (dsp [(6, [0, 1, 2, 3, 4], b_X5_fillRow_6 fu)]) 42 [] 0 (zipN 0 As) [] S
theorem s_X5_fillRow (M : xM p l e R s m args below meth c cells slots Q D xT g cI cZ A 6 cX5_fillRow RX5 0 cs_X5_fillRow L_X5_fillRow R0) {As : List AV} {S : XS} (h : m_X5_fillRow As S = some R0) : xG p l e R s m args below meth c cells slots Q D xT g cI cZ A 6 0 (zipN 0 As) [] S := xa_blk M (List.forall_mem_cons.mpr ⟨fun lv st S h => (s_X5_fillRow_6 M fu) lv st S h, fun _ q => absurd q List.not_mem_nil⟩) h
set_option maxRecDepth 20000 in
theorem c_X5_fillRow {l : Launch} {D : va_G} {g : Nat → Nat} {cI cZ : ClassId} {A : Nat → Prop} (hD : ∀ S, va_D A (ww xT g cI cZ S)) : xMet l D xT g cI cZ A yX5_fillRow (wm yX5_fillRow cX5_fillRow 6 0) { frames := 3, cells := 0, slots := 0, locals := 68 } 3 m_X5_fillRow :=
  xa_met (ft := FT_X5) (pt := PT_X5) (kt := KT_X5) (cs := cs_X5_fillRow) (L := L_X5_fillRow) hD (by decide) (by decide) ok_X5_fillRow fk_X5_fillRow fa_X5 (fun p e s m args below meth c Q R0 C0 hts hN => all_get (List.forall_mem_cons.mpr ⟨xcf_VN (C := RX2) (host := "StackMarks") C0 hts hN (c_X2_isOf hD) (good_N kc_X2_isOf) (by decide +kernel) (List.mem_cons_of_mem _ kn_X2) (List.mem_cons_of_mem _ ki_X2_isOf) (List.mem_cons_of_mem _ ks_X2_isOf) rfl ⟨rfl, rfl⟩ rfl (by decide +kernel) ⟨by decide, by decide⟩ ⟨Nat.zero_le _, Nat.zero_le _⟩, List.forall_mem_cons.mpr ⟨xcf_V (C := RX5) C0 hts hN (c_X5_isFreeInRow hD) (good_V kl_X5_317 ki_X5_isFreeInRow ks_X5_isFreeInRow kn_X5 kc_X5_isFreeInRow) rfl ⟨rfl, rfl⟩ rfl (by decide +kernel) ⟨by decide, by decide⟩ ⟨Nat.zero_le _, Nat.zero_le _⟩, List.forall_mem_cons.mpr ⟨xcf_V (C := RX5) C0 hts hN (c_X5_innerAlone hD) (good_V kl_X5_293 ki_X5_innerAlone ks_X5_innerAlone kn_X5 kc_X5_innerAlone) rfl ⟨rfl, rfl⟩ rfl (by decide +kernel) ⟨by decide, by decide⟩ ⟨Nat.zero_le _, Nat.zero_le _⟩, List.forall_mem_cons.mpr ⟨xcf_max C0 (hts _ (List.mem_cons_of_mem _ km_X5_233)) (hts _ (List.mem_cons_of_mem _ km_s)) (hts _ (List.mem_cons_of_mem _ km_n)) (hts _ (List.mem_cons_of_mem _ km_c)) ⟨by decide, by decide⟩ ⟨Nat.zero_le _, Nat.zero_le _⟩, fun _ q => absurd q List.not_mem_nil⟩⟩⟩⟩)) (fun p e s m args below meth c Q R0 As S M h => s_X5_fillRow M h)
def L_X5_layRowMarks : List CE := [(0, .iconst 0, 1, [], 0), (1, .istore 4, 3, [], 0), (3, .iload 4, 5, [], 0), (5, .aload_n 0, 6, [], 0), (6, .getfield 266, 9, [5, 7], 0), (9, .if_icmp .ge 52, 12, [61], 0), (12, .aload_n 0, 13, [], 0), (13, .getfield 47, 16, [5, 6], 0), (16, .iload 4, 18, [], 0), (18, .iaload, 19, [], 0), (19, .istore 5, 21, [], 0), (21, .aload_n 0, 22, [], 0), (22, .getfield 26, 25, [5, 2], 0), (25, .iload 5, 27, [], 0), (27, .iload_n 1, 28, [], 0), (28, .iload_n 2, 29, [], 0), (29, .invokevirtual 314, 32, [0], 0), (32, .ifCond .eq 23, 35, [55], 0), (35, .aload_n 0, 36, [], 0), (36, .getfield 26, 39, [5, 2], 0), (39, .getfield 143, 42, [2, 9], 0), (42, .iload 5, 44, [], 0), (44, .baload, 45, [], 0), (45, .ifCond .eq 10, 48, [55], 0), (48, .aload_n 0, 49, [], 0), (49, .iload 5, 51, [], 0), (51, .iload_n 3, 52, [], 0), (52, .invokevirtual 296, 55, [1], 0), (55, .iinc 4 1, 58, [], 1), (58, .goto (-55), 61, [3], 0), (61, .return_, 62, [], 0)]
theorem ok_X5_layRowMarks : ∀ q ∈ L_X5_layRowMarks, rok cX5_layRowMarks 6 2 q = true := by decide +kernel
theorem fk_X5_layRowMarks : ∀ q ∈ L_X5_layRowMarks, fck FT_X5 PT_X5 KT_X5 q = true := by decide +kernel
noncomputable def cs_X5_layRowMarks : List CT := [(false, 314, 4, 1, 2, m_X2_isOf), (false, 296, 3, 0, 5, m_X5_layAt)]
noncomputable def b_X5_layRowMarks_3 : Nat → BT
  | 0 => fun _ _ _ => none
  | n + 1 => fun lv st S => brn xT cs_X5_layRowMarks L_X5_layRowMarks [3] (dsp [(3, [0, 1, 2, 3, 4], b_X5_layRowMarks_3 n)]) 33 [] 3 lv st S
theorem s_X5_layRowMarks_3 (M : xM p l e R s m args below meth c cells slots Q D xT g cI cZ A 6 cX5_layRowMarks RX5 2 cs_X5_layRowMarks L_X5_layRowMarks R0) : ∀ n lv st S, b_X5_layRowMarks_3 n lv st S = some R0 → xG p l e R s m args below meth c cells slots Q D xT g cI cZ A 6 3 lv st S := by
  intro n
  induction n with
  | zero => intro lv st S h; cases h
  | succ n ih => intro lv st S h; exact xa_blk M (List.forall_mem_cons.mpr ⟨fun lv st S h => (ih) lv st S h, fun _ q => absurd q List.not_mem_nil⟩) h
noncomputable def m_X5_layRowMarks : MT := fun As S => brn xT cs_X5_layRowMarks L_X5_layRowMarks [3] (dsp [(3, [0, 1, 2, 3, 4], b_X5_layRowMarks_3 fu)]) 33 [] 0 (zipN 0 As) [] S
theorem s_X5_layRowMarks (M : xM p l e R s m args below meth c cells slots Q D xT g cI cZ A 6 cX5_layRowMarks RX5 2 cs_X5_layRowMarks L_X5_layRowMarks R0) {As : List AV} {S : XS} (h : m_X5_layRowMarks As S = some R0) : xG p l e R s m args below meth c cells slots Q D xT g cI cZ A 6 0 (zipN 0 As) [] S := xa_blk M (List.forall_mem_cons.mpr ⟨fun lv st S h => (s_X5_layRowMarks_3 M fu) lv st S h, fun _ q => absurd q List.not_mem_nil⟩) h
set_option maxRecDepth 20000 in
theorem c_X5_layRowMarks {l : Launch} {D : va_G} {g : Nat → Nat} {cI cZ : ClassId} {A : Nat → Prop} (hD : ∀ S, va_D A (ww xT g cI cZ S)) : xMet l D xT g cI cZ A yX5_layRowMarks (wm yX5_layRowMarks cX5_layRowMarks 6 2) { frames := 3, cells := 0, slots := 0, locals := 66 } 4 m_X5_layRowMarks :=
  xa_met (ft := FT_X5) (pt := PT_X5) (kt := KT_X5) (cs := cs_X5_layRowMarks) (L := L_X5_layRowMarks) hD (by decide) (by decide) ok_X5_layRowMarks fk_X5_layRowMarks fa_X5 (fun p e s m args below meth c Q R0 C0 hts hN => all_get (List.forall_mem_cons.mpr ⟨xcf_VN (C := RX2) (host := "StackMarks") C0 hts hN (c_X2_isOf hD) (good_N kc_X2_isOf) (by decide +kernel) (List.mem_cons_of_mem _ kn_X2) (List.mem_cons_of_mem _ ki_X2_isOf) (List.mem_cons_of_mem _ ks_X2_isOf) rfl ⟨rfl, rfl⟩ rfl (by decide +kernel) ⟨by decide, by decide⟩ ⟨Nat.zero_le _, Nat.zero_le _⟩, List.forall_mem_cons.mpr ⟨xcf_V (C := RX5) C0 hts hN (c_X5_layAt hD) (good_V kl_X5_296 ki_X5_layAt ks_X5_layAt kn_X5 kc_X5_layAt) rfl ⟨rfl, rfl⟩ rfl (by decide +kernel) ⟨by decide, by decide⟩ ⟨Nat.zero_le _, Nat.zero_le _⟩, fun _ q => absurd q List.not_mem_nil⟩⟩)) (fun p e s m args below meth c Q R0 As S M h => s_X5_layRowMarks M h)
def L_X5_layLate : List CE := [(0, .iconst 0, 1, [], 0), (1, .istore_n 3, 2, [], 0), (2, .iconst 0, 3, [], 0), (3, .istore 4, 5, [], 0), (5, .iload 4, 7, [], 0), (7, .aload_n 0, 8, [], 0), (8, .getfield 266, 11, [5, 7], 0), (11, .if_icmp .ge 60, 14, [71], 0), (14, .aload_n 0, 15, [], 0), (15, .getfield 47, 18, [5, 6], 0), (18, .iload 4, 20, [], 0), (20, .iaload, 21, [], 0), (21, .istore 5, 23, [], 0), (23, .aload_n 0, 24, [], 0), (24, .getfield 26, 27, [5, 2], 0), (27, .iload 5, 29, [], 0), (29, .iload_n 1, 30, [], 0), (30, .iload_n 2, 31, [], 0), (31, .invokevirtual 314, 34, [0], 0), (34, .ifCond .eq 31, 37, [65], 0), (37, .aload_n 0, 38, [], 0), (38, .getfield 26, 41, [5, 2], 0), (41, .getfield 143, 44, [2, 9], 0), (44, .iload 5, 46, [], 0), (46, .baload, 47, [], 0), (47, .ifCond .ne 18, 50, [65], 0), (50, .aload_n 0, 51, [], 0), (51, .iload 5, 53, [], 0), (53, .aload_n 0, 54, [], 0), (54, .iload 5, 56, [], 0), (56, .invokevirtual 293, 59, [1], 0), (59, .invokevirtual 296, 62, [2], 0), (62, .iinc 3 1, 65, [], 1), (65, .iinc 4 1, 68, [], 1), (68, .goto (-63), 71, [5], 0), (71, .iload_n 3, 72, [], 0), (72, .ireturn, 73, [0], 0)]
theorem ok_X5_layLate : ∀ q ∈ L_X5_layLate, rok cX5_layLate 6 0 q = true := by decide +kernel
theorem fk_X5_layLate : ∀ q ∈ L_X5_layLate, fck FT_X5 PT_X5 KT_X5 q = true := by decide +kernel
noncomputable def cs_X5_layLate : List CT := [(false, 314, 4, 1, 2, m_X2_isOf), (false, 293, 2, 1, 5, m_X5_innerAlone), (false, 296, 3, 0, 5, m_X5_layAt)]
noncomputable def b_X5_layLate_5 : Nat → BT
  | 0 => fun _ _ _ => none
  | n + 1 => fun lv st S => brn xT cs_X5_layLate L_X5_layLate [5] (dsp [(5, [0, 1, 2, 3, 4], b_X5_layLate_5 n)]) 39 [] 5 lv st S
theorem s_X5_layLate_5 (M : xM p l e R s m args below meth c cells slots Q D xT g cI cZ A 6 cX5_layLate RX5 0 cs_X5_layLate L_X5_layLate R0) : ∀ n lv st S, b_X5_layLate_5 n lv st S = some R0 → xG p l e R s m args below meth c cells slots Q D xT g cI cZ A 6 5 lv st S := by
  intro n
  induction n with
  | zero => intro lv st S h; cases h
  | succ n ih => intro lv st S h; exact xa_blk M (List.forall_mem_cons.mpr ⟨fun lv st S h => (ih) lv st S h, fun _ q => absurd q List.not_mem_nil⟩) h
noncomputable def m_X5_layLate : MT := fun As S => brn xT cs_X5_layLate L_X5_layLate [5] (dsp [(5, [0, 1, 2, 3, 4], b_X5_layLate_5 fu)]) 39 [] 0 (zipN 0 As) [] S
theorem s_X5_layLate (M : xM p l e R s m args below meth c cells slots Q D xT g cI cZ A 6 cX5_layLate RX5 0 cs_X5_layLate L_X5_layLate R0) {As : List AV} {S : XS} (h : m_X5_layLate As S = some R0) : xG p l e R s m args below meth c cells slots Q D xT g cI cZ A 6 0 (zipN 0 As) [] S := xa_blk M (List.forall_mem_cons.mpr ⟨fun lv st S h => (s_X5_layLate_5 M fu) lv st S h, fun _ q => absurd q List.not_mem_nil⟩) h
set_option maxRecDepth 20000 in
theorem c_X5_layLate {l : Launch} {D : va_G} {g : Nat → Nat} {cI cZ : ClassId} {A : Nat → Prop} (hD : ∀ S, va_D A (ww xT g cI cZ S)) : xMet l D xT g cI cZ A yX5_layLate (wm yX5_layLate cX5_layLate 6 0) { frames := 3, cells := 0, slots := 0, locals := 67 } 3 m_X5_layLate :=
  xa_met (ft := FT_X5) (pt := PT_X5) (kt := KT_X5) (cs := cs_X5_layLate) (L := L_X5_layLate) hD (by decide) (by decide) ok_X5_layLate fk_X5_layLate fa_X5 (fun p e s m args below meth c Q R0 C0 hts hN => all_get (List.forall_mem_cons.mpr ⟨xcf_VN (C := RX2) (host := "StackMarks") C0 hts hN (c_X2_isOf hD) (good_N kc_X2_isOf) (by decide +kernel) (List.mem_cons_of_mem _ kn_X2) (List.mem_cons_of_mem _ ki_X2_isOf) (List.mem_cons_of_mem _ ks_X2_isOf) rfl ⟨rfl, rfl⟩ rfl (by decide +kernel) ⟨by decide, by decide⟩ ⟨Nat.zero_le _, Nat.zero_le _⟩, List.forall_mem_cons.mpr ⟨xcf_V (C := RX5) C0 hts hN (c_X5_innerAlone hD) (good_V kl_X5_293 ki_X5_innerAlone ks_X5_innerAlone kn_X5 kc_X5_innerAlone) rfl ⟨rfl, rfl⟩ rfl (by decide +kernel) ⟨by decide, by decide⟩ ⟨Nat.zero_le _, Nat.zero_le _⟩, List.forall_mem_cons.mpr ⟨xcf_V (C := RX5) C0 hts hN (c_X5_layAt hD) (good_V kl_X5_296 ki_X5_layAt ks_X5_layAt kn_X5 kc_X5_layAt) rfl ⟨rfl, rfl⟩ rfl (by decide +kernel) ⟨by decide, by decide⟩ ⟨Nat.zero_le _, Nat.zero_le _⟩, fun _ q => absurd q List.not_mem_nil⟩⟩⟩)) (fun p e s m args below meth c Q R0 As S M h => s_X5_layLate M h)
def L_X5_layRow : List CE := [(0, .aload_n 0, 1, [], 0), (1, .iload_n 1, 2, [], 0), (2, .iload_n 2, 3, [], 0), (3, .invokevirtual 305, 6, [0], 0), (6, .istore_n 3, 7, [], 0), (7, .aload_n 0, 8, [], 0), (8, .iload_n 2, 9, [], 0), (9, .invokevirtual 153, 12, [1], 0), (12, .getfield 161, 15, [3, 3], 0), (15, .iload_n 1, 16, [], 0), (16, .iload_n 3, 17, [], 0), (17, .iastore, 18, [], 0), (18, .aload_n 0, 19, [], 0), (19, .iload_n 1, 20, [], 0), (20, .iload_n 2, 21, [], 0), (21, .iload_n 3, 22, [], 0), (22, .invokevirtual 308, 25, [2], 0), (25, .aload_n 0, 26, [], 0), (26, .iload_n 1, 27, [], 0), (27, .iload_n 2, 28, [], 0), (28, .invokevirtual 311, 31, [3], 0), (31, .ireturn, 32, [0], 0)]
theorem ok_X5_layRow : ∀ q ∈ L_X5_layRow, rok cX5_layRow 4 0 q = true := by decide +kernel
theorem fk_X5_layRow : ∀ q ∈ L_X5_layRow, fck FT_X5 PT_X5 KT_X5 q = true := by decide +kernel
noncomputable def cs_X5_layRow : List CT := [(false, 305, 3, 1, 5, m_X5_fillRow), (false, 153, 2, 2, 5, m_X5_outline), (false, 308, 4, 0, 5, m_X5_layRowMarks), (false, 311, 3, 1, 5, m_X5_layLate)]
noncomputable def m_X5_layRow : MT := fun As S => brn xT cs_X5_layRow L_X5_layRow [] (dsp []) 24 [] 0 (zipN 0 As) [] S
theorem s_X5_layRow (M : xM p l e R s m args below meth c cells slots Q D xT g cI cZ A 4 cX5_layRow RX5 0 cs_X5_layRow L_X5_layRow R0) {As : List AV} {S : XS} (h : m_X5_layRow As S = some R0) : xG p l e R s m args below meth c cells slots Q D xT g cI cZ A 4 0 (zipN 0 As) [] S := xa_blk M (fun _ q => absurd q List.not_mem_nil) h
set_option maxRecDepth 20000 in
theorem c_X5_layRow {l : Launch} {D : va_G} {g : Nat → Nat} {cI cZ : ClassId} {A : Nat → Prop} (hD : ∀ S, va_D A (ww xT g cI cZ S)) : xMet l D xT g cI cZ A yX5_layRow (wm yX5_layRow cX5_layRow 4 0) { frames := 4, cells := 0, slots := 0, locals := 93 } 3 m_X5_layRow :=
  xa_met (ft := FT_X5) (pt := PT_X5) (kt := KT_X5) (cs := cs_X5_layRow) (L := L_X5_layRow) hD (by decide) (by decide) ok_X5_layRow fk_X5_layRow fa_X5 (fun p e s m args below meth c Q R0 C0 hts hN => all_get (List.forall_mem_cons.mpr ⟨xcf_V (C := RX5) C0 hts hN (c_X5_fillRow hD) (good_V kl_X5_305 ki_X5_fillRow ks_X5_fillRow kn_X5 kc_X5_fillRow) rfl ⟨rfl, rfl⟩ rfl (by decide +kernel) ⟨by decide, by decide⟩ ⟨Nat.zero_le _, Nat.zero_le _⟩, List.forall_mem_cons.mpr ⟨xcf_V (C := RX5) C0 hts hN (c_X5_outline hD) (good_V kl_X5_153 ki_X5_outline ks_X5_outline kn_X5 kc_X5_outline) rfl ⟨rfl, rfl⟩ rfl (by decide +kernel) ⟨by decide, by decide⟩ ⟨Nat.zero_le _, Nat.zero_le _⟩, List.forall_mem_cons.mpr ⟨xcf_V (C := RX5) C0 hts hN (c_X5_layRowMarks hD) (good_V kl_X5_308 ki_X5_layRowMarks ks_X5_layRowMarks kn_X5 kc_X5_layRowMarks) rfl ⟨rfl, rfl⟩ rfl (by decide +kernel) ⟨by decide, by decide⟩ ⟨Nat.zero_le _, Nat.zero_le _⟩, List.forall_mem_cons.mpr ⟨xcf_V (C := RX5) C0 hts hN (c_X5_layLate hD) (good_V kl_X5_311 ki_X5_layLate ks_X5_layLate kn_X5 kc_X5_layLate) rfl ⟨rfl, rfl⟩ rfl (by decide +kernel) ⟨by decide, by decide⟩ ⟨Nat.zero_le _, Nat.zero_le _⟩, fun _ q => absurd q List.not_mem_nil⟩⟩⟩⟩)) (fun p e s m args below meth c Q R0 As S M h => s_X5_layRow M h)
def L_X5_layMarks : List CE := [(0, .iconst 0, 1, [], 0), (1, .istore_n 1, 2, [], 0), (2, .aload_n 0, 3, [], 0), (3, .iconst 0, 4, [], 0), (4, .putfield 287, 7, [5, 8, 0], 0), (7, .iconst 0, 8, [], 0), (8, .istore_n 2, 9, [], 0), (9, .iload_n 2, 10, [], 0), (10, .aload_n 0, 11, [], 0), (11, .getfield 266, 14, [5, 7], 0), (14, .if_icmp .ge 84, 17, [98], 0), (17, .aload_n 0, 18, [], 0), (18, .getfield 47, 21, [5, 6], 0), (21, .iload_n 2, 22, [], 0), (22, .iaload, 23, [], 0), (23, .istore_n 3, 24, [], 0), (24, .aload_n 0, 25, [], 0), (25, .getfield 26, 28, [5, 2], 0), (28, .getfield 224, 31, [2, 1], 0), (31, .iload_n 3, 32, [], 0), (32, .iaload, 33, [], 0), (33, .istore 4, 35, [], 0), (35, .aload_n 0, 36, [], 0), (36, .getfield 19, 39, [5, 1], 0), (39, .iload 4, 41, [], 0), (41, .invokevirtual 290, 44, [0], 0), (44, .ifCond .ne 16, 47, [60], 0), (47, .aload_n 0, 48, [], 0), (48, .iload_n 3, 49, [], 0), (49, .aload_n 0, 50, [], 0), (50, .iload_n 3, 51, [], 0), (51, .invokevirtual 293, 54, [1], 0), (54, .invokevirtual 296, 57, [2], 0), (57, .goto 35, 60, [92], 0), (60, .aload_n 0, 61, [], 0), (61, .getfield 26, 64, [5, 2], 0), (64, .getfield 146, 67, [2, 10], 0), (67, .iload_n 3, 68, [], 0), (68, .iaload, 69, [], 0), (69, .ifCond .ge 23, 72, [92], 0), (72, .iload_n 1, 73, [], 0), (73, .aload_n 0, 74, [], 0), (74, .iload 4, 76, [], 0), (76, .iconst 1, 77, [], 1), (77, .invokevirtual 299, 80, [3], 0), (80, .iadd, 81, [], 0), (81, .istore_n 1, 82, [], 0), (82, .iload_n 1, 83, [], 0), (83, .aload_n 0, 84, [], 0), (84, .iload 4, 86, [], 0), (86, .iconst (-1), 87, [], (-1)), (87, .invokevirtual 299, 90, [3], 0), (90, .iadd, 91, [], 0), (91, .istore_n 1, 92, [], 0), (92, .iinc 2 1, 95, [], 1), (95, .goto (-86), 98, [9], 0), (98, .iload_n 1, 99, [], 0), (99, .ireturn, 100, [0], 0)]
theorem ok_X5_layMarks : ∀ q ∈ L_X5_layMarks, rok cX5_layMarks 5 0 q = true := by decide +kernel
theorem fk_X5_layMarks : ∀ q ∈ L_X5_layMarks, fck FT_X5 PT_X5 KT_X5 q = true := by decide +kernel
noncomputable def cs_X5_layMarks : List CT := [(false, 290, 2, 1, 1, m_X1_isInRow), (false, 293, 2, 1, 5, m_X5_innerAlone), (false, 296, 3, 0, 5, m_X5_layAt), (false, 299, 3, 1, 5, m_X5_layRow)]
noncomputable def b_X5_layMarks_9 : Nat → BT
  | 0 => fun _ _ _ => none
  | n + 1 => fun lv st S => brn xT cs_X5_layMarks L_X5_layMarks [9] (dsp [(9, [0, 1, 2], b_X5_layMarks_9 n)]) 60 [] 9 lv st S
theorem s_X5_layMarks_9 (M : xM p l e R s m args below meth c cells slots Q D xT g cI cZ A 5 cX5_layMarks RX5 0 cs_X5_layMarks L_X5_layMarks R0) : ∀ n lv st S, b_X5_layMarks_9 n lv st S = some R0 → xG p l e R s m args below meth c cells slots Q D xT g cI cZ A 5 9 lv st S := by
  intro n
  induction n with
  | zero => intro lv st S h; cases h
  | succ n ih => intro lv st S h; exact xa_blk M (List.forall_mem_cons.mpr ⟨fun lv st S h => (ih) lv st S h, fun _ q => absurd q List.not_mem_nil⟩) h
noncomputable def m_X5_layMarks : MT := fun As S => brn xT cs_X5_layMarks L_X5_layMarks [9] (dsp [(9, [0, 1, 2], b_X5_layMarks_9 fu)]) 60 [] 0 (zipN 0 As) [] S
theorem s_X5_layMarks (M : xM p l e R s m args below meth c cells slots Q D xT g cI cZ A 5 cX5_layMarks RX5 0 cs_X5_layMarks L_X5_layMarks R0) {As : List AV} {S : XS} (h : m_X5_layMarks As S = some R0) : xG p l e R s m args below meth c cells slots Q D xT g cI cZ A 5 0 (zipN 0 As) [] S := xa_blk M (List.forall_mem_cons.mpr ⟨fun lv st S h => (s_X5_layMarks_9 M fu) lv st S h, fun _ q => absurd q List.not_mem_nil⟩) h
set_option maxRecDepth 20000 in
theorem c_X5_layMarks {l : Launch} {D : va_G} {g : Nat → Nat} {cI cZ : ClassId} {A : Nat → Prop} (hD : ∀ S, va_D A (ww xT g cI cZ S)) : xMet l D xT g cI cZ A yX5_layMarks (wm yX5_layMarks cX5_layMarks 5 0) { frames := 5, cells := 0, slots := 0, locals := 116 } 1 m_X5_layMarks :=
  xa_met (ft := FT_X5) (pt := PT_X5) (kt := KT_X5) (cs := cs_X5_layMarks) (L := L_X5_layMarks) hD (by decide) (by decide) ok_X5_layMarks fk_X5_layMarks fa_X5 (fun p e s m args below meth c Q R0 C0 hts hN => all_get (List.forall_mem_cons.mpr ⟨xcf_VN (C := RX1) (host := "StackMarks") C0 hts hN (c_X1_isInRow hD) (good_N kc_X1_isInRow) (by decide +kernel) (List.mem_cons_of_mem _ kn_X1) (List.mem_cons_of_mem _ ki_X1_isInRow) (List.mem_cons_of_mem _ ks_X1_isInRow) rfl ⟨rfl, rfl⟩ rfl (by decide +kernel) ⟨by decide, by decide⟩ ⟨Nat.zero_le _, Nat.zero_le _⟩, List.forall_mem_cons.mpr ⟨xcf_V (C := RX5) C0 hts hN (c_X5_innerAlone hD) (good_V kl_X5_293 ki_X5_innerAlone ks_X5_innerAlone kn_X5 kc_X5_innerAlone) rfl ⟨rfl, rfl⟩ rfl (by decide +kernel) ⟨by decide, by decide⟩ ⟨Nat.zero_le _, Nat.zero_le _⟩, List.forall_mem_cons.mpr ⟨xcf_V (C := RX5) C0 hts hN (c_X5_layAt hD) (good_V kl_X5_296 ki_X5_layAt ks_X5_layAt kn_X5 kc_X5_layAt) rfl ⟨rfl, rfl⟩ rfl (by decide +kernel) ⟨by decide, by decide⟩ ⟨Nat.zero_le _, Nat.zero_le _⟩, List.forall_mem_cons.mpr ⟨xcf_V (C := RX5) C0 hts hN (c_X5_layRow hD) (good_V kl_X5_299 ki_X5_layRow ks_X5_layRow kn_X5 kc_X5_layRow) rfl ⟨rfl, rfl⟩ rfl (by decide +kernel) ⟨by decide, by decide⟩ ⟨Nat.zero_le _, Nat.zero_le _⟩, fun _ q => absurd q List.not_mem_nil⟩⟩⟩⟩)) (fun p e s m args below meth c Q R0 As S M h => s_X5_layMarks M h)
def L_X5_place : List CE := [(0, .aload_n 0, 1, [], 0), (1, .getfield 40, 4, [5, 4], 0), (4, .invokevirtual 108, 7, [0], 0), (7, .aload_n 0, 8, [], 0), (8, .getfield 44, 11, [5, 5], 0), (11, .invokevirtual 108, 14, [0], 0), (14, .aload_n 0, 15, [], 0), (15, .invokevirtual 111, 18, [1], 0), (18, .aload_n 0, 19, [], 0), (19, .invokevirtual 114, 22, [2], 0), (22, .aload_n 0, 23, [], 0), (23, .invokevirtual 117, 26, [3], 0), (26, .aload_n 0, 27, [], 0), (27, .invokevirtual 120, 30, [4], 0), (30, .istore_n 1, 31, [], 0), (31, .aload_n 0, 32, [], 0), (32, .iconst 1, 33, [], 1), (33, .putfield 73, 36, [5, 9, 1], 0), (36, .iload_n 1, 37, [], 0), (37, .ireturn, 38, [0], 0)]
theorem ok_X5_place : ∀ q ∈ L_X5_place, rok cX5_place 2 0 q = true := by decide +kernel
theorem fk_X5_place : ∀ q ∈ L_X5_place, fck FT_X5 PT_X5 KT_X5 q = true := by decide +kernel
noncomputable def cs_X5_place : List CT := [(false, 108, 1, 0, 3, m_X3_clear), (false, 111, 1, 0, 5, m_X5_coverItems), (false, 114, 1, 0, 5, m_X5_laySlurs), (false, 117, 1, 0, 5, m_X5_queueMarks), (false, 120, 1, 1, 5, m_X5_layMarks)]
noncomputable def m_X5_place : MT := fun As S => brn xT cs_X5_place L_X5_place [] (dsp []) 22 [] 0 (zipN 0 As) [] S
theorem s_X5_place (M : xM p l e R s m args below meth c cells slots Q D xT g cI cZ A 2 cX5_place RX5 0 cs_X5_place L_X5_place R0) {As : List AV} {S : XS} (h : m_X5_place As S = some R0) : xG p l e R s m args below meth c cells slots Q D xT g cI cZ A 2 0 (zipN 0 As) [] S := xa_blk M (fun _ q => absurd q List.not_mem_nil) h
set_option maxRecDepth 20000 in
theorem c_X5_place {l : Launch} {D : va_G} {g : Nat → Nat} {cI cZ : ClassId} {A : Nat → Prop} (hD : ∀ S, va_D A (ww xT g cI cZ S)) : xMet l D xT g cI cZ A yX5_place (wm yX5_place cX5_place 2 0) { frames := 6, cells := 0, slots := 0, locals := 140 } 1 m_X5_place :=
  xa_met (ft := FT_X5) (pt := PT_X5) (kt := KT_X5) (cs := cs_X5_place) (L := L_X5_place) hD (by decide) (by decide) ok_X5_place fk_X5_place fa_X5 (fun p e s m args below meth c Q R0 C0 hts hN => all_get (List.forall_mem_cons.mpr ⟨xcf_VN (C := RX3) (host := "StackMarks") C0 hts hN (c_X3_clear hD) (good_N kc_X3_clear) (by decide +kernel) (List.mem_cons_of_mem _ kn_X3) (List.mem_cons_of_mem _ ki_X3_clear) (List.mem_cons_of_mem _ ks_X3_clear) rfl ⟨rfl, rfl⟩ rfl (by decide +kernel) ⟨by decide, by decide⟩ ⟨Nat.zero_le _, Nat.zero_le _⟩, List.forall_mem_cons.mpr ⟨xcf_V (C := RX5) C0 hts hN (c_X5_coverItems hD) (good_V kl_X5_111 ki_X5_coverItems ks_X5_coverItems kn_X5 kc_X5_coverItems) rfl ⟨rfl, rfl⟩ rfl (by decide +kernel) ⟨by decide, by decide⟩ ⟨Nat.zero_le _, Nat.zero_le _⟩, List.forall_mem_cons.mpr ⟨xcf_V (C := RX5) C0 hts hN (c_X5_laySlurs hD) (good_V kl_X5_114 ki_X5_laySlurs ks_X5_laySlurs kn_X5 kc_X5_laySlurs) rfl ⟨rfl, rfl⟩ rfl (by decide +kernel) ⟨by decide, by decide⟩ ⟨Nat.zero_le _, Nat.zero_le _⟩, List.forall_mem_cons.mpr ⟨xcf_V (C := RX5) C0 hts hN (c_X5_queueMarks hD) (good_V kl_X5_117 ki_X5_queueMarks ks_X5_queueMarks kn_X5 kc_X5_queueMarks) rfl ⟨rfl, rfl⟩ rfl (by decide +kernel) ⟨by decide, by decide⟩ ⟨Nat.zero_le _, Nat.zero_le _⟩, List.forall_mem_cons.mpr ⟨xcf_V (C := RX5) C0 hts hN (c_X5_layMarks hD) (good_V kl_X5_120 ki_X5_layMarks ks_X5_layMarks kn_X5 kc_X5_layMarks) rfl ⟨rfl, rfl⟩ rfl (by decide +kernel) ⟨by decide, by decide⟩ ⟨Nat.zero_le _, Nat.zero_le _⟩, fun _ q => absurd q List.not_mem_nil⟩⟩⟩⟩⟩)) (fun p e s m args below meth c Q R0 As S M h => s_X5_place M h)
def L_X5_lackOf : List CE := [(0, .aload_n 0, 1, [], 0), (1, .getfield 26, 4, [5, 2], 0), (4, .getfield 181, 7, [2, 0], 0), (7, .iload_n 1, 8, [], 0), (8, .iaload, 9, [], 0), (9, .istore_n 2, 10, [], 0), (10, .aload_n 0, 11, [], 0), (11, .getfield 10, 14, [5, 0], 0), (14, .iload_n 2, 15, [], 0), (15, .invokevirtual 221, 18, [0], 0), (18, .istore_n 3, 19, [], 0), (19, .aload_n 0, 20, [], 0), (20, .getfield 19, 23, [5, 1], 0), (23, .aload_n 0, 24, [], 0), (24, .getfield 26, 27, [5, 2], 0), (27, .getfield 224, 30, [2, 1], 0), (30, .iload_n 1, 31, [], 0), (31, .iaload, 32, [], 0), (32, .invokevirtual 227, 35, [1], 0), (35, .ifCond .eq 7, 38, [42], 0), (38, .iload_n 3, 39, [], 0), (39, .ifCond .ge 5, 42, [44], 0), (42, .iconst 0, 43, [], 0), (43, .ireturn, 44, [0], 0), (44, .iconst 0, 45, [], 0), (45, .aload_n 0, 46, [], 0), (46, .getfield 10, 49, [5, 0], 0), (49, .getfield 100, 52, [0, 0], 0), (52, .iload_n 2, 53, [], 0), (53, .iaload, 54, [], 0), (54, .aload_n 0, 55, [], 0), (55, .getfield 26, 58, [5, 2], 0), (58, .getfield 230, 61, [2, 2], 0), (61, .iload_n 1, 62, [], 0), (62, .iaload, 63, [], 0), (63, .iadd, 64, [], 0), (64, .iconst 4, 65, [], 4), (65, .iadd, 66, [], 0), (66, .aload_n 0, 67, [], 0), (67, .getfield 10, 70, [5, 0], 0), (70, .getfield 100, 73, [0, 0], 0), (73, .iload_n 3, 74, [], 0), (74, .iaload, 75, [], 0), (75, .isub, 76, [], 0), (76, .invokestatic 233, 79, [2], 0), (79, .ireturn, 80, [0], 0)]
theorem ok_X5_lackOf : ∀ q ∈ L_X5_lackOf, rok cX5_lackOf 4 0 q = true := by decide +kernel
theorem fk_X5_lackOf : ∀ q ∈ L_X5_lackOf, fck FT_X5 PT_X5 KT_X5 q = true := by decide +kernel
noncomputable def cs_X5_lackOf : List CT := [(false, 221, 2, 1, 0, m_X0_next), (false, 227, 2, 1, 1, m_X1_liesFromX), (true, 233, 2, 1, 0, sem_max)]
noncomputable def m_X5_lackOf : MT := fun As S => brn xT cs_X5_lackOf L_X5_lackOf [] (dsp []) 48 [] 0 (zipN 0 As) [] S
theorem s_X5_lackOf (M : xM p l e R s m args below meth c cells slots Q D xT g cI cZ A 4 cX5_lackOf RX5 0 cs_X5_lackOf L_X5_lackOf R0) {As : List AV} {S : XS} (h : m_X5_lackOf As S = some R0) : xG p l e R s m args below meth c cells slots Q D xT g cI cZ A 4 0 (zipN 0 As) [] S := xa_blk M (fun _ q => absurd q List.not_mem_nil) h
set_option maxRecDepth 20000 in
theorem c_X5_lackOf {l : Launch} {D : va_G} {g : Nat → Nat} {cI cZ : ClassId} {A : Nat → Prop} (hD : ∀ S, va_D A (ww xT g cI cZ S)) : xMet l D xT g cI cZ A yX5_lackOf (wm yX5_lackOf cX5_lackOf 4 0) { frames := 2, cells := 0, slots := 0, locals := 43 } 2 m_X5_lackOf :=
  xa_met (ft := FT_X5) (pt := PT_X5) (kt := KT_X5) (cs := cs_X5_lackOf) (L := L_X5_lackOf) hD (by decide) (by decide) ok_X5_lackOf fk_X5_lackOf fa_X5 (fun p e s m args below meth c Q R0 C0 hts hN => all_get (List.forall_mem_cons.mpr ⟨xcf_VN (C := RX0) (host := "StackMarks") C0 hts hN (c_X0_next hD) (good_N kc_X0_next) (by decide +kernel) (List.mem_cons_of_mem _ kn_X0) (List.mem_cons_of_mem _ ki_X0_next) (List.mem_cons_of_mem _ ks_X0_next) rfl ⟨rfl, rfl⟩ rfl (by decide +kernel) ⟨by decide, by decide⟩ ⟨Nat.zero_le _, Nat.zero_le _⟩, List.forall_mem_cons.mpr ⟨xcf_VN (C := RX1) (host := "StackMarks") C0 hts hN (c_X1_liesFromX hD) (good_N kc_X1_liesFromX) (by decide +kernel) (List.mem_cons_of_mem _ kn_X1) (List.mem_cons_of_mem _ ki_X1_liesFromX) (List.mem_cons_of_mem _ ks_X1_liesFromX) rfl ⟨rfl, rfl⟩ rfl (by decide +kernel) ⟨by decide, by decide⟩ ⟨Nat.zero_le _, Nat.zero_le _⟩, List.forall_mem_cons.mpr ⟨xcf_max C0 (hts _ (List.mem_cons_of_mem _ km_X5_233)) (hts _ (List.mem_cons_of_mem _ km_s)) (hts _ (List.mem_cons_of_mem _ km_n)) (hts _ (List.mem_cons_of_mem _ km_c)) ⟨by decide, by decide⟩ ⟨Nat.zero_le _, Nat.zero_le _⟩, fun _ q => absurd q List.not_mem_nil⟩⟩⟩)) (fun p e s m args below meth c Q R0 As S M h => s_X5_lackOf M h)
def L_X5_wide : List CE := [(0, .aload_n 0, 1, [], 0), (1, .getfield 26, 4, [5, 2], 0), (4, .iload_n 1, 5, [], 0), (5, .invokevirtual 95, 8, [0], 0), (8, .ifCond .eq 11, 11, [19], 0), (11, .aload_n 0, 12, [], 0), (12, .iload_n 1, 13, [], 0), (13, .invokevirtual 174, 16, [1], 0), (16, .goto 5, 19, [21], 0), (19, .ldc 59, 21, [], (-100001)), (21, .ireturn, 22, [0], 0)]
theorem ok_X5_wide : ∀ q ∈ L_X5_wide, rok cX5_wide 2 0 q = true := by decide +kernel
theorem fk_X5_wide : ∀ q ∈ L_X5_wide, fck FT_X5 PT_X5 KT_X5 q = true := by decide +kernel
noncomputable def cs_X5_wide : List CT := [(false, 95, 2, 1, 2, m_X2_has), (false, 174, 2, 1, 5, m_X5_lackOf)]
noncomputable def m_X5_wide : MT := fun As S => brn xT cs_X5_wide L_X5_wide [] (dsp []) 13 [] 0 (zipN 0 As) [] S
theorem s_X5_wide (M : xM p l e R s m args below meth c cells slots Q D xT g cI cZ A 2 cX5_wide RX5 0 cs_X5_wide L_X5_wide R0) {As : List AV} {S : XS} (h : m_X5_wide As S = some R0) : xG p l e R s m args below meth c cells slots Q D xT g cI cZ A 2 0 (zipN 0 As) [] S := xa_blk M (fun _ q => absurd q List.not_mem_nil) h
set_option maxRecDepth 20000 in
theorem c_X5_wide {l : Launch} {D : va_G} {g : Nat → Nat} {cI cZ : ClassId} {A : Nat → Prop} (hD : ∀ S, va_D A (ww xT g cI cZ S)) : xMet l D xT g cI cZ A yX5_wide (wm yX5_wide cX5_wide 2 0) { frames := 3, cells := 0, slots := 0, locals := 66 } 2 m_X5_wide :=
  xa_met (ft := FT_X5) (pt := PT_X5) (kt := KT_X5) (cs := cs_X5_wide) (L := L_X5_wide) hD (by decide) (by decide) ok_X5_wide fk_X5_wide fa_X5 (fun p e s m args below meth c Q R0 C0 hts hN => all_get (List.forall_mem_cons.mpr ⟨xcf_VN (C := RX2) (host := "StackMarks") C0 hts hN (c_X2_has hD) (good_N kc_X2_has) (by decide +kernel) (List.mem_cons_of_mem _ kn_X2) (List.mem_cons_of_mem _ ki_X2_has) (List.mem_cons_of_mem _ ks_X2_has) rfl ⟨rfl, rfl⟩ rfl (by decide +kernel) ⟨by decide, by decide⟩ ⟨Nat.zero_le _, Nat.zero_le _⟩, List.forall_mem_cons.mpr ⟨xcf_V (C := RX5) C0 hts hN (c_X5_lackOf hD) (good_V kl_X5_174 ki_X5_lackOf ks_X5_lackOf kn_X5 kc_X5_lackOf) rfl ⟨rfl, rfl⟩ rfl (by decide +kernel) ⟨by decide, by decide⟩ ⟨Nat.zero_le _, Nat.zero_le _⟩, fun _ q => absurd q List.not_mem_nil⟩⟩)) (fun p e s m args below meth c Q R0 As S M h => s_X5_wide M h)
def L_X5_push : List CE := [(0, .aload_n 0, 1, [], 0), (1, .getfield 26, 4, [5, 2], 0), (4, .iload_n 1, 5, [], 0), (5, .invokevirtual 95, 8, [0], 0), (8, .ifCond .ne 6, 11, [14], 0), (11, .ldc 59, 13, [], (-100001)), (13, .ireturn, 14, [0], 0), (14, .aload_n 0, 15, [], 0), (15, .iload_n 1, 16, [], 0), (16, .invokevirtual 174, 19, [1], 0), (19, .istore_n 2, 20, [], 0), (20, .iload_n 2, 21, [], 0), (21, .ifCond .ne 5, 24, [26], 0), (24, .iconst 0, 25, [], 0), (25, .ireturn, 26, [0], 0), (26, .aload_n 0, 27, [], 0), (27, .getfield 10, 30, [5, 0], 0), (30, .invokevirtual 177, 33, [2], 0), (33, .iload_n 2, 34, [], 0), (34, .iadd, 35, [], 0), (35, .ldc 180, 37, [], 100000), (37, .if_icmp .le 6, 40, [43], 0), (40, .ldc 90, 42, [], (-100002)), (42, .ireturn, 43, [0], 0), (43, .aload_n 0, 44, [], 0), (44, .getfield 10, 47, [5, 0], 0), (47, .aload_n 0, 48, [], 0), (48, .getfield 10, 51, [5, 0], 0), (51, .getfield 100, 54, [0, 0], 0), (54, .aload_n 0, 55, [], 0), (55, .getfield 26, 58, [5, 2], 0), (58, .getfield 181, 61, [2, 0], 0), (61, .iload_n 1, 62, [], 0), (62, .iaload, 63, [], 0), (63, .iaload, 64, [], 0), (64, .iload_n 2, 65, [], 0), (65, .invokevirtual 184, 68, [3], 0), (68, .aload_n 0, 69, [], 0), (69, .iconst 0, 70, [], 0), (70, .putfield 73, 73, [5, 9, 1], 0), (73, .iload_n 2, 74, [], 0), (74, .ireturn, 75, [0], 0)]
theorem ok_X5_push : ∀ q ∈ L_X5_push, rok cX5_push 3 0 q = true := by decide +kernel
theorem fk_X5_push : ∀ q ∈ L_X5_push, fck FT_X5 PT_X5 KT_X5 q = true := by decide +kernel
noncomputable def cs_X5_push : List CT := [(false, 95, 2, 1, 2, m_X2_has), (false, 174, 2, 1, 5, m_X5_lackOf), (false, 177, 1, 1, 0, m_X0_greatestX), (false, 184, 3, 0, 0, m_X0_moveBehind)]
noncomputable def m_X5_push : MT := fun As S => brn xT cs_X5_push L_X5_push [] (dsp []) 44 [] 0 (zipN 0 As) [] S
theorem s_X5_push (M : xM p l e R s m args below meth c cells slots Q D xT g cI cZ A 3 cX5_push RX5 0 cs_X5_push L_X5_push R0) {As : List AV} {S : XS} (h : m_X5_push As S = some R0) : xG p l e R s m args below meth c cells slots Q D xT g cI cZ A 3 0 (zipN 0 As) [] S := xa_blk M (fun _ q => absurd q List.not_mem_nil) h
set_option maxRecDepth 20000 in
theorem c_X5_push {l : Launch} {D : va_G} {g : Nat → Nat} {cI cZ : ClassId} {A : Nat → Prop} (hD : ∀ S, va_D A (ww xT g cI cZ S)) : xMet l D xT g cI cZ A yX5_push (wm yX5_push cX5_push 3 0) { frames := 3, cells := 0, slots := 0, locals := 66 } 2 m_X5_push :=
  xa_met (ft := FT_X5) (pt := PT_X5) (kt := KT_X5) (cs := cs_X5_push) (L := L_X5_push) hD (by decide) (by decide) ok_X5_push fk_X5_push fa_X5 (fun p e s m args below meth c Q R0 C0 hts hN => all_get (List.forall_mem_cons.mpr ⟨xcf_VN (C := RX2) (host := "StackMarks") C0 hts hN (c_X2_has hD) (good_N kc_X2_has) (by decide +kernel) (List.mem_cons_of_mem _ kn_X2) (List.mem_cons_of_mem _ ki_X2_has) (List.mem_cons_of_mem _ ks_X2_has) rfl ⟨rfl, rfl⟩ rfl (by decide +kernel) ⟨by decide, by decide⟩ ⟨Nat.zero_le _, Nat.zero_le _⟩, List.forall_mem_cons.mpr ⟨xcf_V (C := RX5) C0 hts hN (c_X5_lackOf hD) (good_V kl_X5_174 ki_X5_lackOf ks_X5_lackOf kn_X5 kc_X5_lackOf) rfl ⟨rfl, rfl⟩ rfl (by decide +kernel) ⟨by decide, by decide⟩ ⟨Nat.zero_le _, Nat.zero_le _⟩, List.forall_mem_cons.mpr ⟨xcf_VN (C := RX0) (host := "StackMarks") C0 hts hN (c_X0_greatestX hD) (good_N kc_X0_greatestX) (by decide +kernel) (List.mem_cons_of_mem _ kn_X0) (List.mem_cons_of_mem _ ki_X0_greatestX) (List.mem_cons_of_mem _ ks_X0_greatestX) rfl ⟨rfl, rfl⟩ rfl (by decide +kernel) ⟨by decide, by decide⟩ ⟨Nat.zero_le _, Nat.zero_le _⟩, List.forall_mem_cons.mpr ⟨xcf_VN (C := RX0) (host := "StackMarks") C0 hts hN (c_X0_moveBehind hD) (good_N kc_X0_moveBehind) (by decide +kernel) (List.mem_cons_of_mem _ kn_X0) (List.mem_cons_of_mem _ ki_X0_moveBehind) (List.mem_cons_of_mem _ ks_X0_moveBehind) rfl ⟨rfl, rfl⟩ rfl (by decide +kernel) ⟨by decide, by decide⟩ ⟨Nat.zero_le _, Nat.zero_le _⟩, fun _ q => absurd q List.not_mem_nil⟩⟩⟩⟩)) (fun p e s m args below meth c Q R0 As S M h => s_X5_push M h)
def L_X5_item : List CE := [(0, .aload_n 0, 1, [], 0), (1, .getfield 10, 4, [5, 0], 0), (4, .iload_n 1, 5, [], 0), (5, .invokevirtual 64, 8, [0], 0), (8, .ifCond .ne 6, 11, [14], 0), (11, .ldc 59, 13, [], (-100001)), (13, .ireturn, 14, [0], 0), (14, .iload_n 2, 15, [], 0), (15, .tableswitch 110 0 6 #[41, 51, 61, 71, 81, 91, 101], 56, [125, 56, 66, 76, 86, 96, 106, 116], 0), (56, .aload_n 0, 57, [], 0), (57, .getfield 10, 60, [5, 0], 0), (60, .getfield 100, 63, [0, 0], 0), (63, .iload_n 1, 64, [], 0), (64, .iaload, 65, [], 0), (65, .ireturn, 66, [0], 0), (66, .aload_n 0, 67, [], 0), (67, .getfield 10, 70, [5, 0], 0), (70, .getfield 67, 73, [0, 1], 0), (73, .iload_n 1, 74, [], 0), (74, .iaload, 75, [], 0), (75, .ireturn, 76, [0], 0), (76, .aload_n 0, 77, [], 0), (77, .getfield 10, 80, [5, 0], 0), (80, .getfield 70, 83, [0, 2], 0), (83, .iload_n 1, 84, [], 0), (84, .iaload, 85, [], 0), (85, .ireturn, 86, [0], 0), (86, .aload_n 0, 87, [], 0), (87, .getfield 10, 90, [5, 0], 0), (90, .getfield 188, 93, [0, 3], 0), (93, .iload_n 1, 94, [], 0), (94, .iaload, 95, [], 0), (95, .ireturn, 96, [0], 0), (96, .aload_n 0, 97, [], 0), (97, .getfield 10, 100, [5, 0], 0), (100, .getfield 191, 103, [0, 4], 0), (103, .iload_n 1, 104, [], 0), (104, .iaload, 105, [], 0), (105, .ireturn, 106, [0], 0), (106, .aload_n 0, 107, [], 0), (107, .getfield 10, 110, [5, 0], 0), (110, .getfield 194, 113, [0, 5], 0), (113, .iload_n 1, 114, [], 0), (114, .iaload, 115, [], 0), (115, .ireturn, 116, [0], 0), (116, .aload_n 0, 117, [], 0), (117, .getfield 26, 120, [5, 2], 0), (120, .iload_n 1, 121, [], 0), (121, .invokevirtual 197, 124, [1], 0), (124, .ireturn, 125, [0], 0), (125, .ldc 59, 127, [], (-100001)), (127, .ireturn, 128, [0], 0)]
theorem ok_X5_item : ∀ q ∈ L_X5_item, rok cX5_item 3 0 q = true := by decide +kernel
theorem fk_X5_item : ∀ q ∈ L_X5_item, fck FT_X5 PT_X5 KT_X5 q = true := by decide +kernel
noncomputable def cs_X5_item : List CT := [(false, 64, 2, 1, 0, m_X0_has), (false, 197, 2, 1, 2, m_X2_countAt)]
noncomputable def m_X5_item : MT := fun As S => brn xT cs_X5_item L_X5_item [] (dsp []) 54 [] 0 (zipN 0 As) [] S
theorem s_X5_item (M : xM p l e R s m args below meth c cells slots Q D xT g cI cZ A 3 cX5_item RX5 0 cs_X5_item L_X5_item R0) {As : List AV} {S : XS} (h : m_X5_item As S = some R0) : xG p l e R s m args below meth c cells slots Q D xT g cI cZ A 3 0 (zipN 0 As) [] S := xa_blk M (fun _ q => absurd q List.not_mem_nil) h
set_option maxRecDepth 20000 in
theorem c_X5_item {l : Launch} {D : va_G} {g : Nat → Nat} {cI cZ : ClassId} {A : Nat → Prop} (hD : ∀ S, va_D A (ww xT g cI cZ S)) : xMet l D xT g cI cZ A yX5_item (wm yX5_item cX5_item 3 0) { frames := 1, cells := 0, slots := 0, locals := 23 } 3 m_X5_item :=
  xa_met (ft := FT_X5) (pt := PT_X5) (kt := KT_X5) (cs := cs_X5_item) (L := L_X5_item) hD (by decide) (by decide) ok_X5_item fk_X5_item fa_X5 (fun p e s m args below meth c Q R0 C0 hts hN => all_get (List.forall_mem_cons.mpr ⟨xcf_VN (C := RX0) (host := "StackMarks") C0 hts hN (c_X0_has hD) (good_N kc_X0_has) (by decide +kernel) (List.mem_cons_of_mem _ kn_X0) (List.mem_cons_of_mem _ ki_X0_has) (List.mem_cons_of_mem _ ks_X0_has) rfl ⟨rfl, rfl⟩ rfl (by decide +kernel) ⟨by decide, by decide⟩ ⟨Nat.zero_le _, Nat.zero_le _⟩, List.forall_mem_cons.mpr ⟨xcf_VN (C := RX2) (host := "StackMarks") C0 hts hN (c_X2_countAt hD) (good_N kc_X2_countAt) (by decide +kernel) (List.mem_cons_of_mem _ kn_X2) (List.mem_cons_of_mem _ ki_X2_countAt) (List.mem_cons_of_mem _ ks_X2_countAt) rfl ⟨rfl, rfl⟩ rfl (by decide +kernel) ⟨by decide, by decide⟩ ⟨Nat.zero_le _, Nat.zero_le _⟩, fun _ q => absurd q List.not_mem_nil⟩⟩)) (fun p e s m args below meth c Q R0 As S M h => s_X5_item M h)
end
end
section
set_option maxRecDepth 100000 in
theorem u_X5_isWithin (S : XS) (a0 a1 a2 : Int32) : m_X5_isWithin [.inl a0, .inl a1, .inl a2] S = (if a0 < a1 then (some (S, some (some (.inl 0)))) else (if a2 < a0 then (some (S, some (some (.inl 0)))) else (some (S, some (some (.inl 1)))))) := rfl
set_option maxRecDepth 100000 in
theorem u_X5_isHead (S : XS) (a0 : Int32) : m_X5_isHead [.inl a0] S = (cli (m_X5_isWithin [.inl a0, .inl (-60), .inl 60] S) (fun S1 r1 => if r1 = 0 ∨ r1 = 1 then some (S1, some (some (.inl r1))) else none)) := rfl
set_option maxRecDepth 100000 in
theorem u_X5_addItem (S : XS) (a1 a2 a3 a4 a5 a6 : Int32) : m_X5_addItem [.inr 0, .inl a1, .inl a2, .inl a3, .inl a4, .inl a5, .inl a6] S = (cli (m_X5_isWithin [.inl a1, .inl 0, .inl 100000] S) (fun S1 r1 => if r1 = 0 then (some (S1, some (some (.inl (-100001))))) else (cli (m_X5_isWithin [.inl a4, .inl 0, .inl 1] S1) (fun S2 r2 => if r2 = 0 then (some (S2, some (some (.inl (-100001))))) else (cli (m_X0_isAt [.inr 1, .inl a1] S2) (fun S3 r3 => if r3 = 0 then (if S3 1 6 < 40 then (cli (m_X0_add [.inr 1, .inl a1, .inl a2, .inl a3, .inl a4, .inl a5, .inl a6] (up2 S3 0 9 0)) (fun S4 r4 => some (S4, some (some (.inl r4))))) else (some (S3, some (some (.inl (-100002)))))) else (some (S3, some (some (.inl (-100001))))))))))) := rfl
set_option maxRecDepth 100000 in
theorem u_X5_note (S : XS) (a1 a2 a3 a4 a5 : Int32) : m_X5_note [.inr 0, .inl a1, .inl a2, .inl a3, .inl a4, .inl a5] S = (cli (m_X5_isHead [.inl a2] S) (fun S1 r1 => if r1 = 0 then (some (S1, some (some (.inl (-100001))))) else (cli (m_X5_isHead [.inl a3] S1) (fun S2 r2 => if r2 = 0 then (some (S2, some (some (.inl (-100001))))) else (if a3 < a2 then (some (S2, some (some (.inl (-100001))))) else (cli (m_X5_isWithin [.inl a5, .inl (-1), .inl 1] S2) (fun S3 r3 => if r3 = 0 then (some (S3, some (some (.inl (-100001))))) else (cli (m_X5_addItem [.inr 0, .inl a1, .inl a2, .inl a3, .inl a4, .inl a5, .inl 0] S3) (fun S4 r4 => some (S4, some (some (.inl r4)))))))))))) := rfl
set_option maxRecDepth 100000 in
theorem u_X5_rest (S : XS) (a1 a2 a3 : Int32) : m_X5_rest [.inr 0, .inl a1, .inl a2, .inl a3] S = (cli (m_X5_isHead [.inl a2] S) (fun S1 r1 => if r1 = 0 then (some (S1, some (some (.inl (-100001))))) else (cli (m_X5_addItem [.inr 0, .inl a1, .inl a2, .inl a2, .inl a3, .inl 0, .inl 1] S1) (fun S2 r2 => some (S2, some (some (.inl r2))))))) := rfl
set_option maxRecDepth 100000 in
theorem u_X5_lift (S : XS) (a1 a2 : Int32) : m_X5_lift [.inr 0, .inl a1, .inl a2] S = (cli (m_X0_has [.inr 1, .inl a1] S) (fun S1 r1 => if r1 = 0 then (some (S1, some (some (.inl (-100001))))) else (cli (m_X5_isWithin [.inl a2, .inl (-120), .inl 120] S1) (fun S2 r2 => if r2 = 0 then (some (S2, some (some (.inl (-100001))))) else (gA a1 40 (cli (m_X5_isHead [.inl ((S2 8 a1.toNatClampNeg) + a2)] S2) (fun S3 r3 => if r3 = 0 then (some (S3, some (some (.inl (-100001))))) else (gA a1 40 (cli (m_X5_isHead [.inl ((S3 9 a1.toNatClampNeg) + a2)] S3) (fun S4 r4 => if r4 = 0 then (some (S4, some (some (.inl (-100001))))) else (gA a1 40 (gA a1 40 (gA a1 40 (gA a1 40 (some (up2 (up2 (up2 S4 8 a1.toNatClampNeg ((S4 8 a1.toNatClampNeg) + a2)) 9 a1.toNatClampNeg (((up2 S4 8 a1.toNatClampNeg ((S4 8 a1.toNatClampNeg) + a2)) 9 a1.toNatClampNeg) + a2)) 0 9 0, some (some (.inl 1)))))))))))))))))) := rfl
set_option maxRecDepth 100000 in
theorem u_X5_set (S : XS) (a1 a2 a3 : Int32) : m_X5_set [.inr 0, .inl a1, .inl a2, .inl a3] S = (cli (m_X1_has [.inr 2, .inl a1] S) (fun S1 r1 => if r1 = 0 then (some (S1, some (some (.inl (-100001))))) else (cli (m_X1_takes [.inr 2, .inl a2, .inl a3] S1) (fun S2 r2 => if r2 = 0 then (some (S2, some (some (.inl (-100001))))) else (cli (m_X1_change [.inr 2, .inl a1, .inl a2, .inl a3] (up2 S2 0 9 0)) (fun S3 r3 => some (S3, some (some (.inl r3))))))))) := rfl
set_option maxRecDepth 100000 in
theorem u_X5_mark (S : XS) (a1 a2 a3 a4 : Int32) : m_X5_mark [.inr 0, .inl a1, .inl a2, .inl a3, .inl a4] S = (cli (m_X0_has [.inr 1, .inl a1] S) (fun S1 r1 => if r1 = 0 then (some (S1, some (some (.inl (-100001))))) else (cli (m_X1_has [.inr 2, .inl a2] S1) (fun S2 r2 => if r2 = 0 then (some (S2, some (some (.inl (-100001))))) else (cli (m_X5_isWithin [.inl a3, .inl 1, .inl 400] S2) (fun S3 r3 => if r3 = 0 then (some (S3, some (some (.inl (-100001))))) else (cli (m_X5_isWithin [.inl a4, .inl 1, .inl 40] S3) (fun S4 r4 => if r4 = 0 then (some (S4, some (some (.inl (-100001))))) else (if S4 3 11 < 80 then (cli (m_X2_add [.inr 3, .inl a1, .inl a2, .inl a3, .inl a4] (up2 S4 0 9 0)) (fun S5 r5 => some (S5, some (some (.inl r5))))) else (some (S4, some (some (.inl (-100002)))))))))))))) := rfl
set_option maxRecDepth 100000 in
theorem u_X5_drop (S : XS) (a1 : Int32) : m_X5_drop [.inr 0, .inl a1] S = (cli (m_X2_has [.inr 3, .inl a1] S) (fun S1 r1 => if r1 = 0 then (some (S1, some (some (.inl (-100001))))) else (gA a1 80 (some (up2 (up2 S1 18 a1.toNatClampNeg (vp_nar .boolean 1)) 0 9 0, some (some (.inl 1))))))) := rfl
set_option maxRecDepth 100000 in
theorem u_X5_isSide (S : XS) (a0 : Int32) : m_X5_isSide [.inl a0] S = (if a0 = 1 then (some (S, some (some (.inl 1)))) else (if a0 = (-1) then (some (S, some (some (.inl 1)))) else (some (S, some (some (.inl 0)))))) := rfl
set_option maxRecDepth 100000 in
theorem u_X5_slur (S : XS) (a1 a2 a3 a4 : Int32) : m_X5_slur [.inr 0, .inl a1, .inl a2, .inl a3, .inl a4] S = (cli (m_X0_has [.inr 1, .inl a1] S) (fun S1 r1 => if r1 = 0 then (some (S1, some (some (.inl (-100001))))) else (cli (m_X0_has [.inr 1, .inl a2] S1) (fun S2 r2 => if r2 = 0 then (some (S2, some (some (.inl (-100001))))) else (gA a2 40 (gA a1 40 (if S2 7 a1.toNatClampNeg < S2 7 a2.toNatClampNeg then (cli (m_X5_isSide [.inl a3] S2) (fun S3 r3 => if r3 = 0 then (some (S3, some (some (.inl (-100001))))) else (cli (m_X5_isWithin [.inl a4, .inl 1, .inl 20] S3) (fun S4 r4 => if r4 = 0 then (some (S4, some (some (.inl (-100001))))) else (if S4 4 6 < 10 then (cli (m_X4_add [.inr 4, .inl a1, .inl a2, .inl a3, .inl a4] (up2 S4 0 9 0)) (fun S5 r5 => some (S5, some (some (.inl r5))))) else (some (S4, some (some (.inl (-100002)))))))))) else (some (S2, some (some (.inl (-100001)))))))))))) := rfl
set_option maxRecDepth 100000 in
theorem u_X5_coverHeads (S : XS) (a1 a2 a3 : Int32) : m_X5_coverHeads [.inr 0, .inl a1, .inl a2, .inl a3] S = (gA a1 40 (gA a1 40 (clv (m_X3_cover [.inr 5, .inl ((S 7 a1.toNatClampNeg) - a2), .inl ((S 7 a1.toNatClampNeg) + a2), .inl ((S 9 a1.toNatClampNeg) + a3)] S) (fun S1 => gA a1 40 (clv (m_X3_cover [.inr 6, .inl ((S 7 a1.toNatClampNeg) - a2), .inl ((S 7 a1.toNatClampNeg) + a2), .inl (a3 - (S1 8 a1.toNatClampNeg))] S1) (fun S2 => some (S2, some none))))))) := rfl
set_option maxRecDepth 100000 in
theorem u_X5_coverStem (S : XS) (a1 : Int32) : m_X5_coverStem [.inr 0, .inl a1] S = (gA a1 40 (gA a1 40 (if S 11 a1.toNatClampNeg = 1 then (gA a1 40 (clv (m_X3_cover [.inr 5, .inl ((S 7 a1.toNatClampNeg) - 1), .inl ((S 7 a1.toNatClampNeg) + 1), .inl ((S 9 a1.toNatClampNeg) + 28)] S) (fun S2 => some (S2, some none)))) else (gA a1 40 (if S 11 a1.toNatClampNeg = (-1) then (gA a1 40 (clv (m_X3_cover [.inr 6, .inl ((S 7 a1.toNatClampNeg) - 1), .inl ((S 7 a1.toNatClampNeg) + 1), .inl (28 - (S 8 a1.toNatClampNeg))] S) (fun S1 => some (S1, some none)))) else (some (S, some none))))))) := rfl
set_option maxRecDepth 100000 in
theorem v_X5_coverItems (f2 : BT) (S : XS) : brn xT cs_X5_coverItems L_X5_coverItems [2] (dsp [(2, [0, 1], f2)]) 33 [] 0 [(0, .inr 0)] [] S = (f2 [(0, .inr 0), (1, .inl 0)] [] S) := rfl
theorem u_X5_coverItems (S : XS) : m_X5_coverItems [.inr 0] S = (b_X5_coverItems_2 fu [(0, .inr 0), (1, .inl 0)] [] S) := v_X5_coverItems _ S
set_option maxRecDepth 100000 in
theorem v_X5_coverItems_2 (f2 : BT) (S : XS) (a1 : Int32) : brn xT cs_X5_coverItems L_X5_coverItems [2] (dsp [(2, [0, 1], f2)]) 33 [] 2 [(0, .inr 0), (1, .inl a1)] [] S = (if S 1 6 ≤ a1 then (some (S, some none)) else (gA a1 40 (if S 12 a1.toNatClampNeg = 1 then (clv (m_X5_coverHeads [.inr 0, .inl a1, .inl 5, .inl 8] S) (fun S3 => f2 [(0, .inr 0), (1, .inl (a1 + 1))] [] S3)) else (clv (m_X5_coverHeads [.inr 0, .inl a1, .inl 6, .inl 4] S) (fun S1 => clv (m_X5_coverStem [.inr 0, .inl a1] S1) (fun S2 => f2 [(0, .inr 0), (1, .inl (a1 + 1))] [] S2)))))) := rfl
theorem u_X5_coverItems_2 (n : Nat) (S : XS) (a1 : Int32) : b_X5_coverItems_2 (n + 1) [(0, .inr 0), (1, .inl a1)] [] S = (if S 1 6 ≤ a1 then (some (S, some none)) else (gA a1 40 (if S 12 a1.toNatClampNeg = 1 then (clv (m_X5_coverHeads [.inr 0, .inl a1, .inl 5, .inl 8] S) (fun S3 => b_X5_coverItems_2 n [(0, .inr 0), (1, .inl (a1 + 1))] [] S3)) else (clv (m_X5_coverHeads [.inr 0, .inl a1, .inl 6, .inl 4] S) (fun S1 => clv (m_X5_coverStem [.inr 0, .inl a1] S1) (fun S2 => b_X5_coverItems_2 n [(0, .inr 0), (1, .inl (a1 + 1))] [] S2)))))) := v_X5_coverItems_2 _ S a1
set_option maxRecDepth 100000 in
theorem u_X5_outline (S : XS) (a1 : Int32) : m_X5_outline [.inr 0, .inl a1] S = (if a1 = 1 then (some (S, some (some (.inr 5)))) else (some (S, some (some (.inr 6))))) := rfl
set_option maxRecDepth 100000 in
theorem v_X5_laySlurs (f2 : BT) (S : XS) : brn xT cs_X5_laySlurs L_X5_laySlurs [2] (dsp [(2, [0, 1], f2)]) 77 [] 0 [(0, .inr 0)] [] S = (f2 [(0, .inr 0), (1, .inl 0)] [] S) := rfl
theorem u_X5_laySlurs (S : XS) : m_X5_laySlurs [.inr 0] S = (b_X5_laySlurs_2 fu [(0, .inr 0), (1, .inl 0)] [] S) := v_X5_laySlurs _ S
set_option maxRecDepth 100000 in
theorem v_X5_laySlurs_2 (f2 : BT) (S : XS) (a1 : Int32) : brn xT cs_X5_laySlurs L_X5_laySlurs [2] (dsp [(2, [0, 1], f2)]) 77 [] 2 [(0, .inr 0), (1, .inl a1)] [] S = (if S 4 6 ≤ a1 then (some (S, some none)) else (gA a1 10 (clr (m_X5_outline [.inr 0, .inl (S 27 a1.toNatClampNeg)] S) (fun S1 => gA a1 10 (gA (S1 25 a1.toNatClampNeg) 40 (gA a1 10 (gA (S1 26 a1.toNatClampNeg) 40 (cli (m_X3_greatest [.inr 5, .inl (S1 7 (S1 25 a1.toNatClampNeg).toNatClampNeg), .inl (S1 7 (S1 26 a1.toNatClampNeg).toNatClampNeg)] S1) (fun S2 r2 => gA a1 10 (gA a1 10 (gA a1 10 (clv (m_X3_cover [.inr 5, .inl (S1 7 (S1 25 a1.toNatClampNeg).toNatClampNeg), .inl (S1 7 (S1 26 a1.toNatClampNeg).toNatClampNeg), .inl (((r2 + 3) + (S2 28 a1.toNatClampNeg)) + 3)] (up2 (up2 S2 29 a1.toNatClampNeg (r2 + 3)) 30 a1.toNatClampNeg ((r2 + 3) + (S2 28 a1.toNatClampNeg)))) (fun S3 => clv (m_X3_reachOut [.inr 5, .inl ((r2 + 3) + (S2 28 a1.toNatClampNeg))] S3) (fun S4 => f2 [(0, .inr 0), (1, .inl (a1 + 1))] [] S4))))))))))) (fun S1 => gA a1 10 (gA (S1 25 a1.toNatClampNeg) 40 (gA a1 10 (gA (S1 26 a1.toNatClampNeg) 40 (cli (m_X3_greatest [.inr 6, .inl (S1 7 (S1 25 a1.toNatClampNeg).toNatClampNeg), .inl (S1 7 (S1 26 a1.toNatClampNeg).toNatClampNeg)] S1) (fun S5 r5 => gA a1 10 (gA a1 10 (gA a1 10 (clv (m_X3_cover [.inr 6, .inl (S1 7 (S1 25 a1.toNatClampNeg).toNatClampNeg), .inl (S1 7 (S1 26 a1.toNatClampNeg).toNatClampNeg), .inl (((r5 + 3) + (S5 28 a1.toNatClampNeg)) + 3)] (up2 (up2 S5 29 a1.toNatClampNeg (r5 + 3)) 30 a1.toNatClampNeg ((r5 + 3) + (S5 28 a1.toNatClampNeg)))) (fun S6 => clv (m_X3_reachOut [.inr 6, .inl ((r5 + 3) + (S5 28 a1.toNatClampNeg))] S6) (fun S7 => f2 [(0, .inr 0), (1, .inl (a1 + 1))] [] S7)))))))))))))) := rfl
theorem u_X5_laySlurs_2 (n : Nat) (S : XS) (a1 : Int32) : b_X5_laySlurs_2 (n + 1) [(0, .inr 0), (1, .inl a1)] [] S = (if S 4 6 ≤ a1 then (some (S, some none)) else (gA a1 10 (clr (m_X5_outline [.inr 0, .inl (S 27 a1.toNatClampNeg)] S) (fun S1 => gA a1 10 (gA (S1 25 a1.toNatClampNeg) 40 (gA a1 10 (gA (S1 26 a1.toNatClampNeg) 40 (cli (m_X3_greatest [.inr 5, .inl (S1 7 (S1 25 a1.toNatClampNeg).toNatClampNeg), .inl (S1 7 (S1 26 a1.toNatClampNeg).toNatClampNeg)] S1) (fun S2 r2 => gA a1 10 (gA a1 10 (gA a1 10 (clv (m_X3_cover [.inr 5, .inl (S1 7 (S1 25 a1.toNatClampNeg).toNatClampNeg), .inl (S1 7 (S1 26 a1.toNatClampNeg).toNatClampNeg), .inl (((r2 + 3) + (S2 28 a1.toNatClampNeg)) + 3)] (up2 (up2 S2 29 a1.toNatClampNeg (r2 + 3)) 30 a1.toNatClampNeg ((r2 + 3) + (S2 28 a1.toNatClampNeg)))) (fun S3 => clv (m_X3_reachOut [.inr 5, .inl ((r2 + 3) + (S2 28 a1.toNatClampNeg))] S3) (fun S4 => b_X5_laySlurs_2 n [(0, .inr 0), (1, .inl (a1 + 1))] [] S4))))))))))) (fun S1 => gA a1 10 (gA (S1 25 a1.toNatClampNeg) 40 (gA a1 10 (gA (S1 26 a1.toNatClampNeg) 40 (cli (m_X3_greatest [.inr 6, .inl (S1 7 (S1 25 a1.toNatClampNeg).toNatClampNeg), .inl (S1 7 (S1 26 a1.toNatClampNeg).toNatClampNeg)] S1) (fun S5 r5 => gA a1 10 (gA a1 10 (gA a1 10 (clv (m_X3_cover [.inr 6, .inl (S1 7 (S1 25 a1.toNatClampNeg).toNatClampNeg), .inl (S1 7 (S1 26 a1.toNatClampNeg).toNatClampNeg), .inl (((r5 + 3) + (S5 28 a1.toNatClampNeg)) + 3)] (up2 (up2 S5 29 a1.toNatClampNeg (r5 + 3)) 30 a1.toNatClampNeg ((r5 + 3) + (S5 28 a1.toNatClampNeg)))) (fun S6 => clv (m_X3_reachOut [.inr 6, .inl ((r5 + 3) + (S5 28 a1.toNatClampNeg))] S6) (fun S7 => b_X5_laySlurs_2 n [(0, .inr 0), (1, .inl (a1 + 1))] [] S7)))))))))))))) := v_X5_laySlurs_2 _ S a1
set_option maxRecDepth 100000 in
theorem u_X5_leftEdge (S : XS) (a1 : Int32) : m_X5_leftEdge [.inr 0, .inl a1] S = (gA a1 80 (gA (S 14 a1.toNatClampNeg) 40 (gA a1 80 (cli (m_X1_liesFromX [.inr 2, .inl (S 15 a1.toNatClampNeg)] S) (fun S1 r1 => if r1 = 0 then (gA a1 80 (some (S1, some (some (.inl ((S 7 (S 14 a1.toNatClampNeg).toNatClampNeg) - ((S1 16 a1.toNatClampNeg) / 2))))))) else (some (S1, some (some (.inl (S 7 (S 14 a1.toNatClampNeg).toNatClampNeg)))))))))) := rfl
set_option maxRecDepth 100000 in
theorem v_X5_chooseSide (f27 : BT) (S : XS) (a1 a2 : Int32) : brn xT cs_X5_chooseSide L_X5_chooseSide [27] (dsp [(27, [0, 1, 2, 3], f27)]) 57 [] 0 [(0, .inr 0), (1, .inl a1), (2, .inl a2)] [] S = (gA a1 80 (gA (S 14 a1.toNatClampNeg) 40 (if S 10 (S 14 a1.toNatClampNeg).toNatClampNeg = 0 then (f27 [(0, .inr 0), (1, .inl a1), (2, .inl a2), (3, .inl (S 14 a1.toNatClampNeg))] [.inl 1] S) else (f27 [(0, .inr 0), (1, .inl a1), (2, .inl a2), (3, .inl (S 14 a1.toNatClampNeg))] [.inl (-1)] S)))) := rfl
theorem u_X5_chooseSide (S : XS) (a1 a2 : Int32) : m_X5_chooseSide [.inr 0, .inl a1, .inl a2] S = (gA a1 80 (gA (S 14 a1.toNatClampNeg) 40 (if S 10 (S 14 a1.toNatClampNeg).toNatClampNeg = 0 then (b_X5_chooseSide_27 [(0, .inr 0), (1, .inl a1), (2, .inl a2), (3, .inl (S 14 a1.toNatClampNeg))] [.inl 1] S) else (b_X5_chooseSide_27 [(0, .inr 0), (1, .inl a1), (2, .inl a2), (3, .inl (S 14 a1.toNatClampNeg))] [.inl (-1)] S)))) := v_X5_chooseSide _ S a1 a2
set_option maxRecDepth 100000 in
theorem u_X5_chooseSide_27 (S : XS) (a1 a2 a3 t0 : Int32) : b_X5_chooseSide_27 [(0, .inr 0), (1, .inl a1), (2, .inl a2), (3, .inl a3)] [.inl t0] S = (if a2 = 0 then (gA a3 40 (if S 11 a3.toNatClampNeg = 0 then (gA a1 80 (cli (m_X1_get [.inr 2, .inl (S 15 a1.toNatClampNeg), .inl 1] S) (fun S3 r3 => if r3.toInt = 0 then (some (S3, some (some (.inl t0)))) else (if r3.toInt = 1 then (if a2 = 0 then (some (S3, some (some (.inl (-t0))))) else (some (S3, some (some (.inl t0))))) else (if r3.toInt = 2 then (some (S3, some (some (.inl 1)))) else (some (S3, some (some (.inl (-1)))))))))) else (gA a3 40 (gA a1 80 (cli (m_X1_get [.inr 2, .inl (S 15 a1.toNatClampNeg), .inl 1] S) (fun S2 r2 => if r2.toInt = 0 then (some (S2, some (some (.inl (S 11 a3.toNatClampNeg))))) else (if r2.toInt = 1 then (if a2 = 0 then (some (S2, some (some (.inl (-(S 11 a3.toNatClampNeg)))))) else (some (S2, some (some (.inl t0))))) else (if r2.toInt = 2 then (some (S2, some (some (.inl 1)))) else (some (S2, some (some (.inl (-1))))))))))))) else (gA a1 80 (cli (m_X1_get [.inr 2, .inl (S 15 a1.toNatClampNeg), .inl 1] S) (fun S1 r1 => if r1.toInt = 0 then (some (S1, some (some (.inl t0)))) else (if r1.toInt = 1 then (if a2 = 0 then (some (S1, some (some (.inl (-t0))))) else (some (S1, some (some (.inl t0))))) else (if r1.toInt = 2 then (some (S1, some (some (.inl 1)))) else (some (S1, some (some (.inl (-1))))))))))) := rfl
set_option maxRecDepth 100000 in
theorem u_X5_rank (S : XS) (a1 : Int32) : m_X5_rank [.inr 0, .inl a1] S = (gA a1 80 (cli (m_X1_rank [.inr 2, .inl (S 15 a1.toNatClampNeg)] S) (fun S1 r1 => gA a1 80 (gA (S1 14 a1.toNatClampNeg) 40 (some (S1, some (some (.inl ((r1 * 100001) + (S1 7 (S1 14 a1.toNatClampNeg).toNatClampNeg)))))))))) := rfl
set_option maxRecDepth 100000 in
theorem v_X5_queueMark (f5 : BT) (S : XS) (a1 : Int32) : brn xT cs_X5_queueMark L_X5_queueMark [5] (dsp [(5, [0, 1, 2], f5)]) 43 [] 0 [(0, .inr 0), (1, .inl a1)] [] S = (f5 [(0, .inr 0), (1, .inl a1), (2, .inl (S 0 7))] [] S) := rfl
theorem u_X5_queueMark (S : XS) (a1 : Int32) : m_X5_queueMark [.inr 0, .inl a1] S = (b_X5_queueMark_5 fu [(0, .inr 0), (1, .inl a1), (2, .inl (S 0 7))] [] S) := v_X5_queueMark _ S a1
set_option maxRecDepth 100000 in
theorem v_X5_queueMark_5 (f5 : BT) (S : XS) (a1 a2 : Int32) : brn xT cs_X5_queueMark L_X5_queueMark [5] (dsp [(5, [0, 1, 2], f5)]) 43 [] 5 [(0, .inr 0), (1, .inl a1), (2, .inl a2)] [] S = (if a2 ≤ 0 then (gA a2 80 (some (up2 (up2 S 39 a2.toNatClampNeg a1) 0 7 (((up2 S 39 a2.toNatClampNeg a1) 0 7) + 1), some none))) else (cli (m_X5_rank [.inr 0, .inl a1] S) (fun S1 r1 => gA (a2 - 1) 80 (cli (m_X5_rank [.inr 0, .inl (S1 39 (a2 - 1).toNatClampNeg)] S1) (fun S2 r2 => if r2 ≤ r1 then (gA a2 80 (some (up2 (up2 S2 39 a2.toNatClampNeg a1) 0 7 (((up2 S2 39 a2.toNatClampNeg a1) 0 7) + 1), some none))) else (gA (a2 - 1) 80 (gA a2 80 (f5 [(0, .inr 0), (1, .inl a1), (2, .inl (a2 + (-1)))] [] (up2 S2 39 a2.toNatClampNeg (S2 39 (a2 - 1).toNatClampNeg)))))))))) := rfl
theorem u_X5_queueMark_5 (n : Nat) (S : XS) (a1 a2 : Int32) : b_X5_queueMark_5 (n + 1) [(0, .inr 0), (1, .inl a1), (2, .inl a2)] [] S = (if a2 ≤ 0 then (gA a2 80 (some (up2 (up2 S 39 a2.toNatClampNeg a1) 0 7 (((up2 S 39 a2.toNatClampNeg a1) 0 7) + 1), some none))) else (cli (m_X5_rank [.inr 0, .inl a1] S) (fun S1 r1 => gA (a2 - 1) 80 (cli (m_X5_rank [.inr 0, .inl (S1 39 (a2 - 1).toNatClampNeg)] S1) (fun S2 r2 => if r2 ≤ r1 then (gA a2 80 (some (up2 (up2 S2 39 a2.toNatClampNeg a1) 0 7 (((up2 S2 39 a2.toNatClampNeg a1) 0 7) + 1), some none))) else (gA (a2 - 1) 80 (gA a2 80 (b_X5_queueMark_5 n [(0, .inr 0), (1, .inl a1), (2, .inl (a2 + (-1)))] [] (up2 S2 39 a2.toNatClampNeg (S2 39 (a2 - 1).toNatClampNeg)))))))))) := v_X5_queueMark_5 _ S a1 a2
set_option maxRecDepth 100000 in
theorem v_X5_queueMarks (f15 : BT) (S : XS) : brn xT cs_X5_queueMarks L_X5_queueMarks [15] (dsp [(15, [0, 1, 2], f15)]) 57 [] 0 [(0, .inr 0)] [] S = (cli (m_X0_haveBothVoices [.inr 1] S) (fun S1 r1 => f15 [(0, .inr 0), (1, .inl r1), (2, .inl 0)] [] (up2 S1 0 7 0))) := rfl
theorem u_X5_queueMarks (S : XS) : m_X5_queueMarks [.inr 0] S = (cli (m_X0_haveBothVoices [.inr 1] S) (fun S1 r1 => b_X5_queueMarks_15 fu [(0, .inr 0), (1, .inl r1), (2, .inl 0)] [] (up2 S1 0 7 0))) := v_X5_queueMarks _ S
set_option maxRecDepth 100000 in
theorem v_X5_queueMarks_15 (f15 : BT) (S : XS) (a1 a2 : Int32) : brn xT cs_X5_queueMarks L_X5_queueMarks [15] (dsp [(15, [0, 1, 2], f15)]) 57 [] 15 [(0, .inr 0), (1, .inl a1), (2, .inl a2)] [] S = (if S 3 11 ≤ a2 then (some (S, some none)) else (gA a2 80 (if S 18 a2.toNatClampNeg = 0 then (cli (m_X5_leftEdge [.inr 0, .inl a2] S) (fun S1 r1 => gA a2 80 (cli (m_X5_chooseSide [.inr 0, .inl a2, .inl a1] (up2 S1 19 a2.toNatClampNeg r1)) (fun S2 r2 => gA a2 80 (gA a2 80 (gA a2 80 (clv (m_X5_queueMark [.inr 0, .inl a2] (up2 (up2 (up2 S2 20 a2.toNatClampNeg r2) 23 a2.toNatClampNeg (vp_nar .boolean 0)) 24 a2.toNatClampNeg (-1))) (fun S3 => f15 [(0, .inr 0), (1, .inl a1), (2, .inl (a2 + 1))] [] S3)))))))) else (f15 [(0, .inr 0), (1, .inl a1), (2, .inl (a2 + 1))] [] S)))) := rfl
theorem u_X5_queueMarks_15 (n : Nat) (S : XS) (a1 a2 : Int32) : b_X5_queueMarks_15 (n + 1) [(0, .inr 0), (1, .inl a1), (2, .inl a2)] [] S = (if S 3 11 ≤ a2 then (some (S, some none)) else (gA a2 80 (if S 18 a2.toNatClampNeg = 0 then (cli (m_X5_leftEdge [.inr 0, .inl a2] S) (fun S1 r1 => gA a2 80 (cli (m_X5_chooseSide [.inr 0, .inl a2, .inl a1] (up2 S1 19 a2.toNatClampNeg r1)) (fun S2 r2 => gA a2 80 (gA a2 80 (gA a2 80 (clv (m_X5_queueMark [.inr 0, .inl a2] (up2 (up2 (up2 S2 20 a2.toNatClampNeg r2) 23 a2.toNatClampNeg (vp_nar .boolean 0)) 24 a2.toNatClampNeg (-1))) (fun S3 => b_X5_queueMarks_15 n [(0, .inr 0), (1, .inl a1), (2, .inl (a2 + 1))] [] S3)))))))) else (b_X5_queueMarks_15 n [(0, .inr 0), (1, .inl a1), (2, .inl (a2 + 1))] [] S)))) := v_X5_queueMarks_15 _ S a1 a2
set_option maxRecDepth 100000 in
theorem u_X5_innerAlone (S : XS) (a1 : Int32) : m_X5_innerAlone [.inr 0, .inl a1] S = (gA a1 80 (clr (m_X5_outline [.inr 0, .inl (S 20 a1.toNatClampNeg)] S) (fun S1 => gA a1 80 (cli (m_X2_behind [.inr 3, .inl a1] S1) (fun S2 r2 => cli (m_X3_greatest [.inr 5, .inl ((S1 19 a1.toNatClampNeg) - 1), .inl ((r2 - 1) + 1)] S2) (fun S3 r3 => gA a1 80 (cli (m_X1_get [.inr 2, .inl (S3 15 a1.toNatClampNeg), .inl 3] S3) (fun S4 r4 => some (S4, some (some (.inl (r3 + r4)))))))))) (fun S1 => gA a1 80 (cli (m_X2_behind [.inr 3, .inl a1] S1) (fun S5 r5 => cli (m_X3_greatest [.inr 6, .inl ((S1 19 a1.toNatClampNeg) - 1), .inl ((r5 - 1) + 1)] S5) (fun S6 r6 => gA a1 80 (cli (m_X1_get [.inr 2, .inl (S6 15 a1.toNatClampNeg), .inl 3] S6) (fun S7 r7 => some (S7, some (some (.inl (r6 + r7)))))))))))) := rfl
set_option maxRecDepth 100000 in
theorem u_X5_layAt (S : XS) (a1 a2 : Int32) : m_X5_layAt [.inr 0, .inl a1, .inl a2] S = (gA a1 80 (gA a1 80 (gA a1 80 (gA a1 80 (gA a1 80 (clr (m_X5_outline [.inr 0, .inl ((up2 (up2 (up2 (up2 S 21 a1.toNatClampNeg a2) 22 a1.toNatClampNeg (a2 + (S 17 a1.toNatClampNeg))) 24 a1.toNatClampNeg ((up2 (up2 S 21 a1.toNatClampNeg a2) 22 a1.toNatClampNeg (a2 + (S 17 a1.toNatClampNeg))) 0 8)) 0 8 (((up2 (up2 (up2 S 21 a1.toNatClampNeg a2) 22 a1.toNatClampNeg (a2 + (S 17 a1.toNatClampNeg))) 24 a1.toNatClampNeg ((up2 (up2 S 21 a1.toNatClampNeg a2) 22 a1.toNatClampNeg (a2 + (S 17 a1.toNatClampNeg))) 0 8)) 0 8) + 1)) 20 a1.toNatClampNeg)] (up2 (up2 (up2 (up2 S 21 a1.toNatClampNeg a2) 22 a1.toNatClampNeg (a2 + (S 17 a1.toNatClampNeg))) 24 a1.toNatClampNeg ((up2 (up2 S 21 a1.toNatClampNeg a2) 22 a1.toNatClampNeg (a2 + (S 17 a1.toNatClampNeg))) 0 8)) 0 8 (((up2 (up2 (up2 S 21 a1.toNatClampNeg a2) 22 a1.toNatClampNeg (a2 + (S 17 a1.toNatClampNeg))) 24 a1.toNatClampNeg ((up2 (up2 S 21 a1.toNatClampNeg a2) 22 a1.toNatClampNeg (a2 + (S 17 a1.toNatClampNeg))) 0 8)) 0 8) + 1))) (fun S1 => gA a1 80 (cli (m_X2_behind [.inr 3, .inl a1] S1) (fun S2 r2 => clv (m_X3_cover [.inr 5, .inl (S1 19 a1.toNatClampNeg), .inl (r2 - 1), .inl (a2 + (S 17 a1.toNatClampNeg))] S2) (fun S3 => clv (m_X3_reachOut [.inr 5, .inl (a2 + (S 17 a1.toNatClampNeg))] S3) (fun S4 => some (S4, some none)))))) (fun S1 => gA a1 80 (cli (m_X2_behind [.inr 3, .inl a1] S1) (fun S5 r5 => clv (m_X3_cover [.inr 6, .inl (S1 19 a1.toNatClampNeg), .inl (r5 - 1), .inl (a2 + (S 17 a1.toNatClampNeg))] S5) (fun S6 => clv (m_X3_reachOut [.inr 6, .inl (a2 + (S 17 a1.toNatClampNeg))] S6) (fun S7 => some (S7, some none)))))))))))) := rfl
set_option maxRecDepth 100000 in
theorem v_X5_isFreeInRow (f9 : BT) (S : XS) (a1 : Int32) : brn xT cs_X5_isFreeInRow L_X5_isFreeInRow [9] (dsp [(9, [0, 1, 2, 3], f9)]) 52 [] 0 [(0, .inr 0), (1, .inl a1)] [] S = (gA a1 80 (f9 [(0, .inr 0), (1, .inl a1), (2, .inl (S 39 a1.toNatClampNeg)), (3, .inl 0)] [] S)) := rfl
theorem u_X5_isFreeInRow (S : XS) (a1 : Int32) : m_X5_isFreeInRow [.inr 0, .inl a1] S = (gA a1 80 (b_X5_isFreeInRow_9 fu [(0, .inr 0), (1, .inl a1), (2, .inl (S 39 a1.toNatClampNeg)), (3, .inl 0)] [] S)) := v_X5_isFreeInRow _ S a1
set_option maxRecDepth 100000 in
theorem v_X5_isFreeInRow_9 (f9 : BT) (S : XS) (a1 a2 a3 : Int32) : brn xT cs_X5_isFreeInRow L_X5_isFreeInRow [9] (dsp [(9, [0, 1, 2, 3], f9)]) 52 [] 9 [(0, .inr 0), (1, .inl a1), (2, .inl a2), (3, .inl a3)] [] S = (if a1 ≤ a3 then (some (S, some (some (.inl 1)))) else (gA a3 80 (gA a2 80 (gA a2 80 (cli (m_X2_isOf [.inr 3, .inl (S 39 a3.toNatClampNeg), .inl (S 15 a2.toNatClampNeg), .inl (S 20 a2.toNatClampNeg)] S) (fun S1 r1 => if r1 = 0 then (f9 [(0, .inr 0), (1, .inl a1), (2, .inl a2), (3, .inl (a3 + 1))] [] S1) else (gA (S 39 a3.toNatClampNeg) 80 (if S1 23 (S 39 a3.toNatClampNeg).toNatClampNeg = 0 then (f9 [(0, .inr 0), (1, .inl a1), (2, .inl a2), (3, .inl (a3 + 1))] [] S1) else (cli (m_X2_shareX [.inr 3, .inl a2, .inl (S 39 a3.toNatClampNeg)] S1) (fun S2 r2 => if r2 = 0 then (f9 [(0, .inr 0), (1, .inl a1), (2, .inl a2), (3, .inl (a3 + 1))] [] S2) else (some (S2, some (some (.inl 0)))))))))))))) := rfl
theorem u_X5_isFreeInRow_9 (n : Nat) (S : XS) (a1 a2 a3 : Int32) : b_X5_isFreeInRow_9 (n + 1) [(0, .inr 0), (1, .inl a1), (2, .inl a2), (3, .inl a3)] [] S = (if a1 ≤ a3 then (some (S, some (some (.inl 1)))) else (gA a3 80 (gA a2 80 (gA a2 80 (cli (m_X2_isOf [.inr 3, .inl (S 39 a3.toNatClampNeg), .inl (S 15 a2.toNatClampNeg), .inl (S 20 a2.toNatClampNeg)] S) (fun S1 r1 => if r1 = 0 then (b_X5_isFreeInRow_9 n [(0, .inr 0), (1, .inl a1), (2, .inl a2), (3, .inl (a3 + 1))] [] S1) else (gA (S 39 a3.toNatClampNeg) 80 (if S1 23 (S 39 a3.toNatClampNeg).toNatClampNeg = 0 then (b_X5_isFreeInRow_9 n [(0, .inr 0), (1, .inl a1), (2, .inl a2), (3, .inl (a3 + 1))] [] S1) else (cli (m_X2_shareX [.inr 3, .inl a2, .inl (S 39 a3.toNatClampNeg)] S1) (fun S2 r2 => if r2 = 0 then (b_X5_isFreeInRow_9 n [(0, .inr 0), (1, .inl a1), (2, .inl a2), (3, .inl (a3 + 1))] [] S2) else (some (S2, some (some (.inl 0)))))))))))))) := v_X5_isFreeInRow_9 _ S a1 a2 a3
set_option maxRecDepth 100000 in
theorem v_X5_fillRow (f6 : BT) (S : XS) (a1 a2 : Int32) : brn xT cs_X5_fillRow L_X5_fillRow [6] (dsp [(6, [0, 1, 2, 3, 4], f6)]) 42 [] 0 [(0, .inr 0), (1, .inl a1), (2, .inl a2)] [] S = (f6 [(0, .inr 0), (1, .inl a1), (2, .inl a2), (3, .inl (-100003)), (4, .inl 0)] [] S) := rfl
theorem u_X5_fillRow (S : XS) (a1 a2 : Int32) : m_X5_fillRow [.inr 0, .inl a1, .inl a2] S = (b_X5_fillRow_6 fu [(0, .inr 0), (1, .inl a1), (2, .inl a2), (3, .inl (-100003)), (4, .inl 0)] [] S) := v_X5_fillRow _ S a1 a2
set_option maxRecDepth 100000 in
theorem v_X5_fillRow_6 (f6 : BT) (S : XS) (a1 a2 a3 a4 : Int32) : brn xT cs_X5_fillRow L_X5_fillRow [6] (dsp [(6, [0, 1, 2, 3, 4], f6)]) 42 [] 6 [(0, .inr 0), (1, .inl a1), (2, .inl a2), (3, .inl a3), (4, .inl a4)] [] S = (if S 0 7 ≤ a4 then (some (S, some (some (.inl a3)))) else (gA a4 80 (cli (m_X2_isOf [.inr 3, .inl (S 39 a4.toNatClampNeg), .inl a1, .inl a2] S) (fun S1 r1 => if r1 = 0 then (f6 [(0, .inr 0), (1, .inl a1), (2, .inl a2), (3, .inl a3), (4, .inl (a4 + 1))] [] S1) else (cli (m_X5_isFreeInRow [.inr 0, .inl a4] S1) (fun S2 r2 => if r2 = 0 then (f6 [(0, .inr 0), (1, .inl a1), (2, .inl a2), (3, .inl a3), (4, .inl (a4 + 1))] [] S2) else (gA (S 39 a4.toNatClampNeg) 80 (cli (m_X5_innerAlone [.inr 0, .inl (S 39 a4.toNatClampNeg)] (up2 S2 23 (S 39 a4.toNatClampNeg).toNatClampNeg (vp_nar .boolean 1))) (fun S3 r3 => f6 [(0, .inr 0), (1, .inl a1), (2, .inl a2), (3, .inl (if a3 < r3 then r3 else a3)), (4, .inl (a4 + 1))] [] S3))))))))) := rfl
theorem u_X5_fillRow_6 (n : Nat) (S : XS) (a1 a2 a3 a4 : Int32) : b_X5_fillRow_6 (n + 1) [(0, .inr 0), (1, .inl a1), (2, .inl a2), (3, .inl a3), (4, .inl a4)] [] S = (if S 0 7 ≤ a4 then (some (S, some (some (.inl a3)))) else (gA a4 80 (cli (m_X2_isOf [.inr 3, .inl (S 39 a4.toNatClampNeg), .inl a1, .inl a2] S) (fun S1 r1 => if r1 = 0 then (b_X5_fillRow_6 n [(0, .inr 0), (1, .inl a1), (2, .inl a2), (3, .inl a3), (4, .inl (a4 + 1))] [] S1) else (cli (m_X5_isFreeInRow [.inr 0, .inl a4] S1) (fun S2 r2 => if r2 = 0 then (b_X5_fillRow_6 n [(0, .inr 0), (1, .inl a1), (2, .inl a2), (3, .inl a3), (4, .inl (a4 + 1))] [] S2) else (gA (S 39 a4.toNatClampNeg) 80 (cli (m_X5_innerAlone [.inr 0, .inl (S 39 a4.toNatClampNeg)] (up2 S2 23 (S 39 a4.toNatClampNeg).toNatClampNeg (vp_nar .boolean 1))) (fun S3 r3 => b_X5_fillRow_6 n [(0, .inr 0), (1, .inl a1), (2, .inl a2), (3, .inl (if a3 < r3 then r3 else a3)), (4, .inl (a4 + 1))] [] S3))))))))) := v_X5_fillRow_6 _ S a1 a2 a3 a4
set_option maxRecDepth 100000 in
theorem v_X5_layRowMarks (f3 : BT) (S : XS) (a1 a2 a3 : Int32) : brn xT cs_X5_layRowMarks L_X5_layRowMarks [3] (dsp [(3, [0, 1, 2, 3, 4], f3)]) 33 [] 0 [(0, .inr 0), (1, .inl a1), (2, .inl a2), (3, .inl a3)] [] S = (f3 [(0, .inr 0), (1, .inl a1), (2, .inl a2), (3, .inl a3), (4, .inl 0)] [] S) := rfl
theorem u_X5_layRowMarks (S : XS) (a1 a2 a3 : Int32) : m_X5_layRowMarks [.inr 0, .inl a1, .inl a2, .inl a3] S = (b_X5_layRowMarks_3 fu [(0, .inr 0), (1, .inl a1), (2, .inl a2), (3, .inl a3), (4, .inl 0)] [] S) := v_X5_layRowMarks _ S a1 a2 a3
set_option maxRecDepth 100000 in
theorem v_X5_layRowMarks_3 (f3 : BT) (S : XS) (a1 a2 a3 a4 : Int32) : brn xT cs_X5_layRowMarks L_X5_layRowMarks [3] (dsp [(3, [0, 1, 2, 3, 4], f3)]) 33 [] 3 [(0, .inr 0), (1, .inl a1), (2, .inl a2), (3, .inl a3), (4, .inl a4)] [] S = (if S 0 7 ≤ a4 then (some (S, some none)) else (gA a4 80 (cli (m_X2_isOf [.inr 3, .inl (S 39 a4.toNatClampNeg), .inl a1, .inl a2] S) (fun S1 r1 => if r1 = 0 then (f3 [(0, .inr 0), (1, .inl a1), (2, .inl a2), (3, .inl a3), (4, .inl (a4 + 1))] [] S1) else (gA (S 39 a4.toNatClampNeg) 80 (if S1 23 (S 39 a4.toNatClampNeg).toNatClampNeg = 0 then (f3 [(0, .inr 0), (1, .inl a1), (2, .inl a2), (3, .inl a3), (4, .inl (a4 + 1))] [] S1) else (clv (m_X5_layAt [.inr 0, .inl (S 39 a4.toNatClampNeg), .inl a3] S1) (fun S2 => f3 [(0, .inr 0), (1, .inl a1), (2, .inl a2), (3, .inl a3), (4, .inl (a4 + 1))] [] S2)))))))) := rfl
theorem u_X5_layRowMarks_3 (n : Nat) (S : XS) (a1 a2 a3 a4 : Int32) : b_X5_layRowMarks_3 (n + 1) [(0, .inr 0), (1, .inl a1), (2, .inl a2), (3, .inl a3), (4, .inl a4)] [] S = (if S 0 7 ≤ a4 then (some (S, some none)) else (gA a4 80 (cli (m_X2_isOf [.inr 3, .inl (S 39 a4.toNatClampNeg), .inl a1, .inl a2] S) (fun S1 r1 => if r1 = 0 then (b_X5_layRowMarks_3 n [(0, .inr 0), (1, .inl a1), (2, .inl a2), (3, .inl a3), (4, .inl (a4 + 1))] [] S1) else (gA (S 39 a4.toNatClampNeg) 80 (if S1 23 (S 39 a4.toNatClampNeg).toNatClampNeg = 0 then (b_X5_layRowMarks_3 n [(0, .inr 0), (1, .inl a1), (2, .inl a2), (3, .inl a3), (4, .inl (a4 + 1))] [] S1) else (clv (m_X5_layAt [.inr 0, .inl (S 39 a4.toNatClampNeg), .inl a3] S1) (fun S2 => b_X5_layRowMarks_3 n [(0, .inr 0), (1, .inl a1), (2, .inl a2), (3, .inl a3), (4, .inl (a4 + 1))] [] S2)))))))) := v_X5_layRowMarks_3 _ S a1 a2 a3 a4
set_option maxRecDepth 100000 in
theorem v_X5_layLate (f5 : BT) (S : XS) (a1 a2 : Int32) : brn xT cs_X5_layLate L_X5_layLate [5] (dsp [(5, [0, 1, 2, 3, 4], f5)]) 39 [] 0 [(0, .inr 0), (1, .inl a1), (2, .inl a2)] [] S = (f5 [(0, .inr 0), (1, .inl a1), (2, .inl a2), (3, .inl 0), (4, .inl 0)] [] S) := rfl
theorem u_X5_layLate (S : XS) (a1 a2 : Int32) : m_X5_layLate [.inr 0, .inl a1, .inl a2] S = (b_X5_layLate_5 fu [(0, .inr 0), (1, .inl a1), (2, .inl a2), (3, .inl 0), (4, .inl 0)] [] S) := v_X5_layLate _ S a1 a2
set_option maxRecDepth 100000 in
theorem v_X5_layLate_5 (f5 : BT) (S : XS) (a1 a2 a3 a4 : Int32) : brn xT cs_X5_layLate L_X5_layLate [5] (dsp [(5, [0, 1, 2, 3, 4], f5)]) 39 [] 5 [(0, .inr 0), (1, .inl a1), (2, .inl a2), (3, .inl a3), (4, .inl a4)] [] S = (if S 0 7 ≤ a4 then (some (S, some (some (.inl a3)))) else (gA a4 80 (cli (m_X2_isOf [.inr 3, .inl (S 39 a4.toNatClampNeg), .inl a1, .inl a2] S) (fun S1 r1 => if r1 = 0 then (f5 [(0, .inr 0), (1, .inl a1), (2, .inl a2), (3, .inl a3), (4, .inl (a4 + 1))] [] S1) else (gA (S 39 a4.toNatClampNeg) 80 (if S1 23 (S 39 a4.toNatClampNeg).toNatClampNeg = 0 then (cli (m_X5_innerAlone [.inr 0, .inl (S 39 a4.toNatClampNeg)] S1) (fun S2 r2 => clv (m_X5_layAt [.inr 0, .inl (S 39 a4.toNatClampNeg), .inl r2] S2) (fun S3 => f5 [(0, .inr 0), (1, .inl a1), (2, .inl a2), (3, .inl (a3 + 1)), (4, .inl (a4 + 1))] [] S3))) else (f5 [(0, .inr 0), (1, .inl a1), (2, .inl a2), (3, .inl a3), (4, .inl (a4 + 1))] [] S1))))))) := rfl
theorem u_X5_layLate_5 (n : Nat) (S : XS) (a1 a2 a3 a4 : Int32) : b_X5_layLate_5 (n + 1) [(0, .inr 0), (1, .inl a1), (2, .inl a2), (3, .inl a3), (4, .inl a4)] [] S = (if S 0 7 ≤ a4 then (some (S, some (some (.inl a3)))) else (gA a4 80 (cli (m_X2_isOf [.inr 3, .inl (S 39 a4.toNatClampNeg), .inl a1, .inl a2] S) (fun S1 r1 => if r1 = 0 then (b_X5_layLate_5 n [(0, .inr 0), (1, .inl a1), (2, .inl a2), (3, .inl a3), (4, .inl (a4 + 1))] [] S1) else (gA (S 39 a4.toNatClampNeg) 80 (if S1 23 (S 39 a4.toNatClampNeg).toNatClampNeg = 0 then (cli (m_X5_innerAlone [.inr 0, .inl (S 39 a4.toNatClampNeg)] S1) (fun S2 r2 => clv (m_X5_layAt [.inr 0, .inl (S 39 a4.toNatClampNeg), .inl r2] S2) (fun S3 => b_X5_layLate_5 n [(0, .inr 0), (1, .inl a1), (2, .inl a2), (3, .inl (a3 + 1)), (4, .inl (a4 + 1))] [] S3))) else (b_X5_layLate_5 n [(0, .inr 0), (1, .inl a1), (2, .inl a2), (3, .inl a3), (4, .inl (a4 + 1))] [] S1))))))) := v_X5_layLate_5 _ S a1 a2 a3 a4
set_option maxRecDepth 100000 in
theorem u_X5_layRow (S : XS) (a1 a2 : Int32) : m_X5_layRow [.inr 0, .inl a1, .inl a2] S = (cli (m_X5_fillRow [.inr 0, .inl a1, .inl a2] S) (fun S1 r1 => clr (m_X5_outline [.inr 0, .inl a2] S1) (fun S2 => gA a1 10 (clv (m_X5_layRowMarks [.inr 0, .inl a1, .inl a2, .inl r1] (up2 S2 34 a1.toNatClampNeg r1)) (fun S3 => cli (m_X5_layLate [.inr 0, .inl a1, .inl a2] S3) (fun S4 r4 => some (S4, some (some (.inl r4))))))) (fun S2 => gA a1 10 (clv (m_X5_layRowMarks [.inr 0, .inl a1, .inl a2, .inl r1] (up2 S2 38 a1.toNatClampNeg r1)) (fun S5 => cli (m_X5_layLate [.inr 0, .inl a1, .inl a2] S5) (fun S6 r6 => some (S6, some (some (.inl r6))))))))) := rfl
set_option maxRecDepth 100000 in
theorem v_X5_layMarks (f9 : BT) (S : XS) : brn xT cs_X5_layMarks L_X5_layMarks [9] (dsp [(9, [0, 1, 2], f9)]) 60 [] 0 [(0, .inr 0)] [] S = (f9 [(0, .inr 0), (1, .inl 0), (2, .inl 0)] [] (up2 S 0 8 0)) := rfl
theorem u_X5_layMarks (S : XS) : m_X5_layMarks [.inr 0] S = (b_X5_layMarks_9 fu [(0, .inr 0), (1, .inl 0), (2, .inl 0)] [] (up2 S 0 8 0)) := v_X5_layMarks _ S
set_option maxRecDepth 100000 in
theorem v_X5_layMarks_9 (f9 : BT) (S : XS) (a1 a2 : Int32) : brn xT cs_X5_layMarks L_X5_layMarks [9] (dsp [(9, [0, 1, 2], f9)]) 60 [] 9 [(0, .inr 0), (1, .inl a1), (2, .inl a2)] [] S = (if S 0 7 ≤ a2 then (some (S, some (some (.inl a1)))) else (gA a2 80 (gA (S 39 a2.toNatClampNeg) 80 (cli (m_X1_isInRow [.inr 2, .inl (S 15 (S 39 a2.toNatClampNeg).toNatClampNeg)] S) (fun S1 r1 => if r1 = 0 then (cli (m_X5_innerAlone [.inr 0, .inl (S 39 a2.toNatClampNeg)] S1) (fun S4 r4 => clv (m_X5_layAt [.inr 0, .inl (S 39 a2.toNatClampNeg), .inl r4] S4) (fun S5 => f9 [(0, .inr 0), (1, .inl a1), (2, .inl (a2 + 1))] [] S5))) else (gA (S 39 a2.toNatClampNeg) 80 (if 0 ≤ S1 24 (S 39 a2.toNatClampNeg).toNatClampNeg then (f9 [(0, .inr 0), (1, .inl a1), (2, .inl (a2 + 1))] [] S1) else (cli (m_X5_layRow [.inr 0, .inl (S 15 (S 39 a2.toNatClampNeg).toNatClampNeg), .inl 1] S1) (fun S2 r2 => cli (m_X5_layRow [.inr 0, .inl (S 15 (S 39 a2.toNatClampNeg).toNatClampNeg), .inl (-1)] S2) (fun S3 r3 => f9 [(0, .inr 0), (1, .inl ((a1 + r2) + r3)), (2, .inl (a2 + 1))] [] S3)))))))))) := rfl
theorem u_X5_layMarks_9 (n : Nat) (S : XS) (a1 a2 : Int32) : b_X5_layMarks_9 (n + 1) [(0, .inr 0), (1, .inl a1), (2, .inl a2)] [] S = (if S 0 7 ≤ a2 then (some (S, some (some (.inl a1)))) else (gA a2 80 (gA (S 39 a2.toNatClampNeg) 80 (cli (m_X1_isInRow [.inr 2, .inl (S 15 (S 39 a2.toNatClampNeg).toNatClampNeg)] S) (fun S1 r1 => if r1 = 0 then (cli (m_X5_innerAlone [.inr 0, .inl (S 39 a2.toNatClampNeg)] S1) (fun S4 r4 => clv (m_X5_layAt [.inr 0, .inl (S 39 a2.toNatClampNeg), .inl r4] S4) (fun S5 => b_X5_layMarks_9 n [(0, .inr 0), (1, .inl a1), (2, .inl (a2 + 1))] [] S5))) else (gA (S 39 a2.toNatClampNeg) 80 (if 0 ≤ S1 24 (S 39 a2.toNatClampNeg).toNatClampNeg then (b_X5_layMarks_9 n [(0, .inr 0), (1, .inl a1), (2, .inl (a2 + 1))] [] S1) else (cli (m_X5_layRow [.inr 0, .inl (S 15 (S 39 a2.toNatClampNeg).toNatClampNeg), .inl 1] S1) (fun S2 r2 => cli (m_X5_layRow [.inr 0, .inl (S 15 (S 39 a2.toNatClampNeg).toNatClampNeg), .inl (-1)] S2) (fun S3 r3 => b_X5_layMarks_9 n [(0, .inr 0), (1, .inl ((a1 + r2) + r3)), (2, .inl (a2 + 1))] [] S3)))))))))) := v_X5_layMarks_9 _ S a1 a2
set_option maxRecDepth 100000 in
theorem u_X5_place (S : XS) : m_X5_place [.inr 0] S = (clv (m_X3_clear [.inr 5] S) (fun S1 => clv (m_X3_clear [.inr 6] S1) (fun S2 => clv (m_X5_coverItems [.inr 0] S2) (fun S3 => clv (m_X5_laySlurs [.inr 0] S3) (fun S4 => clv (m_X5_queueMarks [.inr 0] S4) (fun S5 => cli (m_X5_layMarks [.inr 0] S5) (fun S6 r6 => some (up2 S6 0 9 1, some (some (.inl r6)))))))))) := rfl
set_option maxRecDepth 100000 in
theorem u_X5_lackOf (S : XS) (a1 : Int32) : m_X5_lackOf [.inr 0, .inl a1] S = (gA a1 80 (cli (m_X0_next [.inr 1, .inl (S 14 a1.toNatClampNeg)] S) (fun S1 r1 => gA a1 80 (cli (m_X1_liesFromX [.inr 2, .inl (S1 15 a1.toNatClampNeg)] S1) (fun S2 r2 => if r2 = 0 then (some (S2, some (some (.inl 0)))) else (if 0 ≤ r1 then (gA (S 14 a1.toNatClampNeg) 40 (gA a1 80 (gA r1 40 (some (S2, some (some (.inl (if 0 < (((S2 7 (S 14 a1.toNatClampNeg).toNatClampNeg) + (S2 16 a1.toNatClampNeg)) + 4) - (S2 7 r1.toNatClampNeg) then (((S2 7 (S 14 a1.toNatClampNeg).toNatClampNeg) + (S2 16 a1.toNatClampNeg)) + 4) - (S2 7 r1.toNatClampNeg) else 0)))))))) else (some (S2, some (some (.inl 0)))))))))) := rfl
set_option maxRecDepth 100000 in
theorem u_X5_wide (S : XS) (a1 : Int32) : m_X5_wide [.inr 0, .inl a1] S = (cli (m_X2_has [.inr 3, .inl a1] S) (fun S1 r1 => if r1 = 0 then (some (S1, some (some (.inl (-100001))))) else (cli (m_X5_lackOf [.inr 0, .inl a1] S1) (fun S2 r2 => some (S2, some (some (.inl r2))))))) := rfl
set_option maxRecDepth 100000 in
theorem u_X5_push (S : XS) (a1 : Int32) : m_X5_push [.inr 0, .inl a1] S = (cli (m_X2_has [.inr 3, .inl a1] S) (fun S1 r1 => if r1 = 0 then (some (S1, some (some (.inl (-100001))))) else (cli (m_X5_lackOf [.inr 0, .inl a1] S1) (fun S2 r2 => if r2 = 0 then (some (S2, some (some (.inl 0)))) else (cli (m_X0_greatestX [.inr 1] S2) (fun S3 r3 => if r3 + r2 ≤ 100000 then (gA a1 80 (gA (S3 14 a1.toNatClampNeg) 40 (clv (m_X0_moveBehind [.inr 1, .inl (S3 7 (S3 14 a1.toNatClampNeg).toNatClampNeg), .inl r2] S3) (fun S4 => some (up2 S4 0 9 0, some (some (.inl r2))))))) else (some (S3, some (some (.inl (-100002))))))))))) := rfl
set_option maxRecDepth 100000 in
theorem u_X5_item (S : XS) (a1 a2 : Int32) : m_X5_item [.inr 0, .inl a1, .inl a2] S = (cli (m_X0_has [.inr 1, .inl a1] S) (fun S1 r1 => if r1 = 0 then (some (S1, some (some (.inl (-100001))))) else (if a2.toInt = 0 then (gA a1 40 (some (S1, some (some (.inl (S1 7 a1.toNatClampNeg)))))) else (if a2.toInt = 1 then (gA a1 40 (some (S1, some (some (.inl (S1 8 a1.toNatClampNeg)))))) else (if a2.toInt = 2 then (gA a1 40 (some (S1, some (some (.inl (S1 9 a1.toNatClampNeg)))))) else (if a2.toInt = 3 then (gA a1 40 (some (S1, some (some (.inl (S1 10 a1.toNatClampNeg)))))) else (if a2.toInt = 4 then (gA a1 40 (some (S1, some (some (.inl (S1 11 a1.toNatClampNeg)))))) else (if a2.toInt = 5 then (gA a1 40 (some (S1, some (some (.inl (S1 12 a1.toNatClampNeg)))))) else (if a2.toInt = 6 then (cli (m_X2_countAt [.inr 3, .inl a1] S1) (fun S2 r2 => some (S2, some (some (.inl r2))))) else (some (S1, some (some (.inl (-100001)))))))))))))) := rfl
end
section
section
variable {p : Program} {l : Launch} {e : Env} {R : Room} {s : State} {m : MethodId} {args : Array Value} {below : List Frame} {meth : Method} {c : Code} {cells slots : Nat} {Q : State → Prop} {D : va_G} {g : Nat → Nat} {cI cZ : ClassId} {A : Nat → Prop} {R0 : RS}
def L_X6_thrown : List CE := [(0, .aload_n 0, 1, [], 0), (1, .getfield 83, 4, [6, 0], 0), (4, .ireturn, 5, [0], 0)]
theorem ok_X6_thrown : ∀ q ∈ L_X6_thrown, rok cX6_thrown 1 0 q = true := by decide +kernel
theorem fk_X6_thrown : ∀ q ∈ L_X6_thrown, fck FT_X6 PT_X6 KT_X6 q = true := by decide +kernel
noncomputable def cs_X6_thrown : List CT := []
noncomputable def m_X6_thrown : MT := fun As S => brn mT cs_X6_thrown L_X6_thrown [] (dsp []) 5 [] 0 (zipN 0 As) [] S
theorem s_X6_thrown (M : xM p l e R s m args below meth c cells slots Q D mT g cI cZ A 1 cX6_thrown RX6 0 cs_X6_thrown L_X6_thrown R0) {As : List AV} {S : XS} (h : m_X6_thrown As S = some R0) : xG p l e R s m args below meth c cells slots Q D mT g cI cZ A 1 0 (zipN 0 As) [] S := xa_blk M (fun _ q => absurd q List.not_mem_nil) h
set_option maxRecDepth 20000 in
theorem c_X6_thrown {l : Launch} {D : va_G} {g : Nat → Nat} {cI cZ : ClassId} {A : Nat → Prop} (hD : ∀ S, va_D A (ww mT g cI cZ S)) : xMet l D mT g cI cZ A yX6_thrown (wm yX6_thrown cX6_thrown 1 0) { frames := 0, cells := 0, slots := 0, locals := 0 } 1 m_X6_thrown :=
  xa_met (ft := FT_X6) (pt := PT_X6) (kt := KT_X6) (cs := cs_X6_thrown) (L := L_X6_thrown) hD (by decide) (by decide) ok_X6_thrown fk_X6_thrown fa_X6 (fun p e s m args below meth c Q R0 C0 hts hN => all_get (fun _ q => absurd q List.not_mem_nil)) (fun p e s m args below meth c Q R0 As S M h => s_X6_thrown M h)
def L_X6_in : List CE := [(0, .iload_n 0, 1, [], 0), (1, .iload_n 1, 2, [], 0), (2, .if_icmp .lt 12, 5, [14], 0), (5, .iload_n 0, 6, [], 0), (6, .iload_n 2, 7, [], 0), (7, .if_icmp .gt 7, 10, [14], 0), (10, .iconst 1, 11, [], 1), (11, .goto 4, 14, [15], 0), (14, .iconst 0, 15, [], 0), (15, .ireturn, 16, [1], 0)]
theorem ok_X6_in : ∀ q ∈ L_X6_in, rok cX6_in 3 1 q = true := by decide +kernel
theorem fk_X6_in : ∀ q ∈ L_X6_in, fck FT_X6 PT_X6 KT_X6 q = true := by decide +kernel
noncomputable def cs_X6_in : List CT := []
noncomputable def m_X6_in : MT := fun As S => brn mT cs_X6_in L_X6_in [] (dsp []) 12 [] 0 (zipN 0 As) [] S
theorem s_X6_in (M : xM p l e R s m args below meth c cells slots Q D mT g cI cZ A 3 cX6_in RX6 1 cs_X6_in L_X6_in R0) {As : List AV} {S : XS} (h : m_X6_in As S = some R0) : xG p l e R s m args below meth c cells slots Q D mT g cI cZ A 3 0 (zipN 0 As) [] S := xa_blk M (fun _ q => absurd q List.not_mem_nil) h
set_option maxRecDepth 20000 in
theorem c_X6_in {l : Launch} {D : va_G} {g : Nat → Nat} {cI cZ : ClassId} {A : Nat → Prop} (hD : ∀ S, va_D A (ww mT g cI cZ S)) : xMet l D mT g cI cZ A yX6_in (wm yX6_in cX6_in 3 1) { frames := 0, cells := 0, slots := 0, locals := 0 } 3 m_X6_in :=
  xa_met (ft := FT_X6) (pt := PT_X6) (kt := KT_X6) (cs := cs_X6_in) (L := L_X6_in) hD (by decide) (by decide) ok_X6_in fk_X6_in fa_X6 (fun p e s m args below meth c Q R0 C0 hts hN => all_get (fun _ q => absurd q List.not_mem_nil)) (fun p e s m args below meth c Q R0 As S M h => s_X6_in M h)
def L_X6_isSide : List CE := [(0, .iload_n 0, 1, [], 0), (1, .iconst 1, 2, [], 1), (2, .if_icmp .eq 8, 5, [10], 0), (5, .iload_n 0, 6, [], 0), (6, .iconst (-1), 7, [], (-1)), (7, .if_icmp .ne 7, 10, [14], 0), (10, .iconst 1, 11, [], 1), (11, .goto 4, 14, [15], 0), (14, .iconst 0, 15, [], 0), (15, .ireturn, 16, [1], 0)]
theorem ok_X6_isSide : ∀ q ∈ L_X6_isSide, rok cX6_isSide 1 1 q = true := by decide +kernel
theorem fk_X6_isSide : ∀ q ∈ L_X6_isSide, fck FT_X6 PT_X6 KT_X6 q = true := by decide +kernel
noncomputable def cs_X6_isSide : List CT := []
noncomputable def m_X6_isSide : MT := fun As S => brn mT cs_X6_isSide L_X6_isSide [] (dsp []) 12 [] 0 (zipN 0 As) [] S
theorem s_X6_isSide (M : xM p l e R s m args below meth c cells slots Q D mT g cI cZ A 1 cX6_isSide RX6 1 cs_X6_isSide L_X6_isSide R0) {As : List AV} {S : XS} (h : m_X6_isSide As S = some R0) : xG p l e R s m args below meth c cells slots Q D mT g cI cZ A 1 0 (zipN 0 As) [] S := xa_blk M (fun _ q => absurd q List.not_mem_nil) h
set_option maxRecDepth 20000 in
theorem c_X6_isSide {l : Launch} {D : va_G} {g : Nat → Nat} {cI cZ : ClassId} {A : Nat → Prop} (hD : ∀ S, va_D A (ww mT g cI cZ S)) : xMet l D mT g cI cZ A yX6_isSide (wm yX6_isSide cX6_isSide 1 1) { frames := 0, cells := 0, slots := 0, locals := 0 } 1 m_X6_isSide :=
  xa_met (ft := FT_X6) (pt := PT_X6) (kt := KT_X6) (cs := cs_X6_isSide) (L := L_X6_isSide) hD (by decide) (by decide) ok_X6_isSide fk_X6_isSide fa_X6 (fun p e s m args below meth c Q R0 C0 hts hN => all_get (fun _ q => absurd q List.not_mem_nil)) (fun p e s m args below meth c Q R0 As S M h => s_X6_isSide M h)
def L_X6_isItem : List CE := [(0, .iload_n 1, 1, [], 0), (1, .ifCond .lt 15, 4, [16], 0), (4, .iload_n 1, 5, [], 0), (5, .aload_n 0, 6, [], 0), (6, .getfield 87, 9, [6, 1], 0), (9, .if_icmp .ge 7, 12, [16], 0), (12, .iconst 1, 13, [], 1), (13, .goto 4, 16, [17], 0), (16, .iconst 0, 17, [], 0), (17, .ireturn, 18, [1], 0)]
theorem ok_X6_isItem : ∀ q ∈ L_X6_isItem, rok cX6_isItem 2 1 q = true := by decide +kernel
theorem fk_X6_isItem : ∀ q ∈ L_X6_isItem, fck FT_X6 PT_X6 KT_X6 q = true := by decide +kernel
noncomputable def cs_X6_isItem : List CT := []
noncomputable def m_X6_isItem : MT := fun As S => brn mT cs_X6_isItem L_X6_isItem [] (dsp []) 12 [] 0 (zipN 0 As) [] S
theorem s_X6_isItem (M : xM p l e R s m args below meth c cells slots Q D mT g cI cZ A 2 cX6_isItem RX6 1 cs_X6_isItem L_X6_isItem R0) {As : List AV} {S : XS} (h : m_X6_isItem As S = some R0) : xG p l e R s m args below meth c cells slots Q D mT g cI cZ A 2 0 (zipN 0 As) [] S := xa_blk M (fun _ q => absurd q List.not_mem_nil) h
set_option maxRecDepth 20000 in
theorem c_X6_isItem {l : Launch} {D : va_G} {g : Nat → Nat} {cI cZ : ClassId} {A : Nat → Prop} (hD : ∀ S, va_D A (ww mT g cI cZ S)) : xMet l D mT g cI cZ A yX6_isItem (wm yX6_isItem cX6_isItem 2 1) { frames := 0, cells := 0, slots := 0, locals := 0 } 2 m_X6_isItem :=
  xa_met (ft := FT_X6) (pt := PT_X6) (kt := KT_X6) (cs := cs_X6_isItem) (L := L_X6_isItem) hD (by decide) (by decide) ok_X6_isItem fk_X6_isItem fa_X6 (fun p e s m args below meth c Q R0 C0 hts hN => all_get (fun _ q => absurd q List.not_mem_nil)) (fun p e s m args below meth c Q R0 As S M h => s_X6_isItem M h)
def L_X6_isMark : List CE := [(0, .iload_n 1, 1, [], 0), (1, .ifCond .lt 24, 4, [25], 0), (4, .iload_n 1, 5, [], 0), (5, .aload_n 0, 6, [], 0), (6, .getfield 90, 9, [6, 9], 0), (9, .if_icmp .ge 16, 12, [25], 0), (12, .aload_n 0, 13, [], 0), (13, .getfield 44, 16, [6, 14], 0), (16, .iload_n 1, 17, [], 0), (17, .baload, 18, [], 0), (18, .ifCond .ne 7, 21, [25], 0), (21, .iconst 1, 22, [], 1), (22, .goto 4, 25, [26], 0), (25, .iconst 0, 26, [], 0), (26, .ireturn, 27, [1], 0)]
theorem ok_X6_isMark : ∀ q ∈ L_X6_isMark, rok cX6_isMark 2 1 q = true := by decide +kernel
theorem fk_X6_isMark : ∀ q ∈ L_X6_isMark, fck FT_X6 PT_X6 KT_X6 q = true := by decide +kernel
noncomputable def cs_X6_isMark : List CT := []
noncomputable def m_X6_isMark : MT := fun As S => brn mT cs_X6_isMark L_X6_isMark [] (dsp []) 17 [] 0 (zipN 0 As) [] S
theorem s_X6_isMark (M : xM p l e R s m args below meth c cells slots Q D mT g cI cZ A 2 cX6_isMark RX6 1 cs_X6_isMark L_X6_isMark R0) {As : List AV} {S : XS} (h : m_X6_isMark As S = some R0) : xG p l e R s m args below meth c cells slots Q D mT g cI cZ A 2 0 (zipN 0 As) [] S := xa_blk M (fun _ q => absurd q List.not_mem_nil) h
set_option maxRecDepth 20000 in
theorem c_X6_isMark {l : Launch} {D : va_G} {g : Nat → Nat} {cI cZ : ClassId} {A : Nat → Prop} (hD : ∀ S, va_D A (ww mT g cI cZ S)) : xMet l D mT g cI cZ A yX6_isMark (wm yX6_isMark cX6_isMark 2 1) { frames := 0, cells := 0, slots := 0, locals := 0 } 2 m_X6_isMark :=
  xa_met (ft := FT_X6) (pt := PT_X6) (kt := KT_X6) (cs := cs_X6_isMark) (L := L_X6_isMark) hD (by decide) (by decide) ok_X6_isMark fk_X6_isMark fa_X6 (fun p e s m args below meth c Q R0 C0 hts hN => all_get (fun _ q => absurd q List.not_mem_nil)) (fun p e s m args below meth c Q R0 As S M h => s_X6_isMark M h)
def L_X6_isTaken : List CE := [(0, .iconst 0, 1, [], 0), (1, .istore_n 2, 2, [], 0), (2, .iload_n 2, 3, [], 0), (3, .aload_n 0, 4, [], 0), (4, .getfield 87, 7, [6, 1], 0), (7, .if_icmp .ge 21, 10, [28], 0), (10, .aload_n 0, 11, [], 0), (11, .getfield 7, 14, [6, 2], 0), (14, .iload_n 2, 15, [], 0), (15, .iaload, 16, [], 0), (16, .iload_n 1, 17, [], 0), (17, .if_icmp .ne 5, 20, [22], 0), (20, .iconst 1, 21, [], 1), (21, .ireturn, 22, [1], 0), (22, .iinc 2 1, 25, [], 1), (25, .goto (-23), 28, [2], 0), (28, .iconst 0, 29, [], 0), (29, .ireturn, 30, [1], 0)]
theorem ok_X6_isTaken : ∀ q ∈ L_X6_isTaken, rok cX6_isTaken 3 1 q = true := by decide +kernel
theorem fk_X6_isTaken : ∀ q ∈ L_X6_isTaken, fck FT_X6 PT_X6 KT_X6 q = true := by decide +kernel
noncomputable def cs_X6_isTaken : List CT := []
noncomputable def b_X6_isTaken_2 : Nat → BT
  | 0 => fun _ _ _ => none
  | n + 1 => fun lv st S => brn mT cs_X6_isTaken L_X6_isTaken [2] (dsp [(2, [0, 1, 2], b_X6_isTaken_2 n)]) 20 [] 2 lv st S
theorem s_X6_isTaken_2 (M : xM p l e R s m args below meth c cells slots Q D mT g cI cZ A 3 cX6_isTaken RX6 1 cs_X6_isTaken L_X6_isTaken R0) : ∀ n lv st S, b_X6_isTaken_2 n lv st S = some R0 → xG p l e R s m args below meth c cells slots Q D mT g cI cZ A 3 2 lv st S := by
  intro n
  induction n with
  | zero => intro lv st S h; cases h
  | succ n ih => intro lv st S h; exact xa_blk M (List.forall_mem_cons.mpr ⟨fun lv st S h => (ih) lv st S h, fun _ q => absurd q List.not_mem_nil⟩) h
noncomputable def m_X6_isTaken : MT := fun As S => brn mT cs_X6_isTaken L_X6_isTaken [2] (dsp [(2, [0, 1, 2], b_X6_isTaken_2 fu)]) 20 [] 0 (zipN 0 As) [] S
theorem s_X6_isTaken (M : xM p l e R s m args below meth c cells slots Q D mT g cI cZ A 3 cX6_isTaken RX6 1 cs_X6_isTaken L_X6_isTaken R0) {As : List AV} {S : XS} (h : m_X6_isTaken As S = some R0) : xG p l e R s m args below meth c cells slots Q D mT g cI cZ A 3 0 (zipN 0 As) [] S := xa_blk M (List.forall_mem_cons.mpr ⟨fun lv st S h => (s_X6_isTaken_2 M fu) lv st S h, fun _ q => absurd q List.not_mem_nil⟩) h
set_option maxRecDepth 20000 in
theorem c_X6_isTaken {l : Launch} {D : va_G} {g : Nat → Nat} {cI cZ : ClassId} {A : Nat → Prop} (hD : ∀ S, va_D A (ww mT g cI cZ S)) : xMet l D mT g cI cZ A yX6_isTaken (wm yX6_isTaken cX6_isTaken 3 1) { frames := 0, cells := 0, slots := 0, locals := 0 } 2 m_X6_isTaken :=
  xa_met (ft := FT_X6) (pt := PT_X6) (kt := KT_X6) (cs := cs_X6_isTaken) (L := L_X6_isTaken) hD (by decide) (by decide) ok_X6_isTaken fk_X6_isTaken fa_X6 (fun p e s m args below meth c Q R0 C0 hts hN => all_get (fun _ q => absurd q List.not_mem_nil)) (fun p e s m args below meth c Q R0 As S M h => s_X6_isTaken M h)
def L_X6_come : List CE := [(0, .aload_n 0, 1, [], 0), (1, .getfield 87, 4, [6, 1], 0), (4, .bipush 40, 6, [], 40), (6, .if_icmp .ne 6, 9, [12], 0), (9, .ldc 93, 11, [], (-100002)), (11, .ireturn, 12, [0], 0), (12, .aload_n 0, 13, [], 0), (13, .getfield 7, 16, [6, 2], 0), (16, .aload_n 0, 17, [], 0), (17, .getfield 87, 20, [6, 1], 0), (20, .iload_n 1, 21, [], 0), (21, .iastore, 22, [], 0), (22, .aload_n 0, 23, [], 0), (23, .getfield 13, 26, [6, 3], 0), (26, .aload_n 0, 27, [], 0), (27, .getfield 87, 30, [6, 1], 0), (30, .iload_n 2, 31, [], 0), (31, .iastore, 32, [], 0), (32, .aload_n 0, 33, [], 0), (33, .getfield 16, 36, [6, 4], 0), (36, .aload_n 0, 37, [], 0), (37, .getfield 87, 40, [6, 1], 0), (40, .iload_n 3, 41, [], 0), (41, .iastore, 42, [], 0), (42, .aload_n 0, 43, [], 0), (43, .getfield 19, 46, [6, 5], 0), (46, .aload_n 0, 47, [], 0), (47, .getfield 87, 50, [6, 1], 0), (50, .iload 4, 52, [], 0), (52, .iastore, 53, [], 0), (53, .aload_n 0, 54, [], 0), (54, .getfield 22, 57, [6, 6], 0), (57, .aload_n 0, 58, [], 0), (58, .getfield 87, 61, [6, 1], 0), (61, .iload 5, 63, [], 0), (63, .iastore, 64, [], 0), (64, .aload_n 0, 65, [], 0), (65, .getfield 25, 68, [6, 7], 0), (68, .aload_n 0, 69, [], 0), (69, .getfield 87, 72, [6, 1], 0), (72, .iload 6, 74, [], 0), (74, .bastore, 75, [], 0), (75, .aload_n 0, 76, [], 0), (76, .dup, 77, [], 0), (77, .getfield 87, 80, [6, 1], 0), (80, .iconst 1, 81, [], 1), (81, .iadd, 82, [], 0), (82, .putfield 87, 85, [6, 1, 0], 0), (85, .aload_n 0, 86, [], 0), (86, .iconst 0, 87, [], 0), (87, .putfield 94, 90, [6, 29, 1], 0), (90, .aload_n 0, 91, [], 0), (91, .getfield 87, 94, [6, 1], 0), (94, .iconst 1, 95, [], 1), (95, .isub, 96, [], 0), (96, .ireturn, 97, [0], 0)]
theorem ok_X6_come : ∀ q ∈ L_X6_come, rok cX6_come 7 0 q = true := by decide +kernel
theorem fk_X6_come : ∀ q ∈ L_X6_come, fck FT_X6 PT_X6 KT_X6 q = true := by decide +kernel
noncomputable def cs_X6_come : List CT := []
noncomputable def m_X6_come : MT := fun As S => brn mT cs_X6_come L_X6_come [] (dsp []) 58 [] 0 (zipN 0 As) [] S
theorem s_X6_come (M : xM p l e R s m args below meth c cells slots Q D mT g cI cZ A 7 cX6_come RX6 0 cs_X6_come L_X6_come R0) {As : List AV} {S : XS} (h : m_X6_come As S = some R0) : xG p l e R s m args below meth c cells slots Q D mT g cI cZ A 7 0 (zipN 0 As) [] S := xa_blk M (fun _ q => absurd q List.not_mem_nil) h
set_option maxRecDepth 20000 in
theorem c_X6_come {l : Launch} {D : va_G} {g : Nat → Nat} {cI cZ : ClassId} {A : Nat → Prop} (hD : ∀ S, va_D A (ww mT g cI cZ S)) : xMet l D mT g cI cZ A yX6_come (wm yX6_come cX6_come 7 0) { frames := 0, cells := 0, slots := 0, locals := 0 } 7 m_X6_come :=
  xa_met (ft := FT_X6) (pt := PT_X6) (kt := KT_X6) (cs := cs_X6_come) (L := L_X6_come) hD (by decide) (by decide) ok_X6_come fk_X6_come fa_X6 (fun p e s m args below meth c Q R0 C0 hts hN => all_get (fun _ q => absurd q List.not_mem_nil)) (fun p e s m args below meth c Q R0 As S M h => s_X6_come M h)
def L_X6_note : List CE := [(0, .aload_n 0, 1, [], 0), (1, .iconst 0, 2, [], 0), (2, .putfield 83, 5, [6, 0, 0], 0), (5, .iload_n 1, 6, [], 0), (6, .iconst 0, 7, [], 0), (7, .ldc 98, 9, [], 100000), (9, .invokestatic 99, 12, [0], 0), (12, .ifCond .eq 52, 15, [64], 0), (15, .iload_n 2, 16, [], 0), (16, .bipush (-60), 18, [], (-60)), (18, .bipush 60, 20, [], 60), (20, .invokestatic 99, 23, [0], 0), (23, .ifCond .eq 41, 26, [64], 0), (26, .iload_n 3, 27, [], 0), (27, .iload_n 2, 28, [], 0), (28, .bipush 60, 30, [], 60), (30, .invokestatic 99, 33, [0], 0), (33, .ifCond .eq 31, 36, [64], 0), (36, .iload 4, 38, [], 0), (38, .iconst 0, 39, [], 0), (39, .iconst 1, 40, [], 1), (40, .invokestatic 99, 43, [0], 0), (43, .ifCond .eq 21, 46, [64], 0), (46, .iload 5, 48, [], 0), (48, .iconst (-1), 49, [], (-1)), (49, .iconst 1, 50, [], 1), (50, .invokestatic 99, 53, [0], 0), (53, .ifCond .eq 11, 56, [64], 0), (56, .aload_n 0, 57, [], 0), (57, .iload_n 1, 58, [], 0), (58, .invokevirtual 103, 61, [1], 0), (61, .ifCond .eq 6, 64, [67], 0), (64, .ldc 107, 66, [], (-100001)), (66, .ireturn, 67, [0], 0), (67, .aload_n 0, 68, [], 0), (68, .iload_n 1, 69, [], 0), (69, .iload_n 2, 70, [], 0), (70, .iload_n 3, 71, [], 0), (71, .iload 4, 73, [], 0), (73, .iload 5, 75, [], 0), (75, .iconst 0, 76, [], 0), (76, .invokevirtual 108, 79, [2], 0), (79, .ireturn, 80, [0], 0)]
theorem ok_X6_note : ∀ q ∈ L_X6_note, rok cX6_note 6 0 q = true := by decide +kernel
theorem fk_X6_note : ∀ q ∈ L_X6_note, fck FT_X6 PT_X6 KT_X6 q = true := by decide +kernel
noncomputable def cs_X6_note : List CT := [(true, 99, 3, 1, 6, m_X6_in), (false, 103, 2, 1, 6, m_X6_isTaken), (false, 108, 7, 1, 6, m_X6_come)]
noncomputable def m_X6_note : MT := fun As S => brn mT cs_X6_note L_X6_note [] (dsp []) 45 [] 0 (zipN 0 As) [] S
theorem s_X6_note (M : xM p l e R s m args below meth c cells slots Q D mT g cI cZ A 6 cX6_note RX6 0 cs_X6_note L_X6_note R0) {As : List AV} {S : XS} (h : m_X6_note As S = some R0) : xG p l e R s m args below meth c cells slots Q D mT g cI cZ A 6 0 (zipN 0 As) [] S := xa_blk M (fun _ q => absurd q List.not_mem_nil) h
set_option maxRecDepth 20000 in
theorem c_X6_note {l : Launch} {D : va_G} {g : Nat → Nat} {cI cZ : ClassId} {A : Nat → Prop} (hD : ∀ S, va_D A (ww mT g cI cZ S)) : xMet l D mT g cI cZ A yX6_note (wm yX6_note cX6_note 6 0) { frames := 1, cells := 0, slots := 0, locals := 26 } 6 m_X6_note :=
  xa_met (ft := FT_X6) (pt := PT_X6) (kt := KT_X6) (cs := cs_X6_note) (L := L_X6_note) hD (by decide) (by decide) ok_X6_note fk_X6_note fa_X6 (fun p e s m args below meth c Q R0 C0 hts hN => all_get (List.forall_mem_cons.mpr ⟨xcf_S C0 hts hN (c_X6_in hD) (good_S kl_X6_99 kt_X6_in kn_X6 kc_X6_in) rfl ⟨rfl, rfl⟩ (by decide +kernel) ⟨by decide, by decide⟩ ⟨Nat.zero_le _, Nat.zero_le _⟩, List.forall_mem_cons.mpr ⟨xcf_V (C := RX6) C0 hts hN (c_X6_isTaken hD) (good_V kl_X6_103 ki_X6_isTaken ks_X6_isTaken kn_X6 kc_X6_isTaken) rfl ⟨rfl, rfl⟩ rfl (by decide +kernel) ⟨by decide, by decide⟩ ⟨Nat.zero_le _, Nat.zero_le _⟩, List.forall_mem_cons.mpr ⟨xcf_V (C := RX6) C0 hts hN (c_X6_come hD) (good_V kl_X6_108 ki_X6_come ks_X6_come kn_X6 kc_X6_come) rfl ⟨rfl, rfl⟩ rfl (by decide +kernel) ⟨by decide, by decide⟩ ⟨Nat.zero_le _, Nat.zero_le _⟩, fun _ q => absurd q List.not_mem_nil⟩⟩⟩)) (fun p e s m args below meth c Q R0 As S M h => s_X6_note M h)
def L_X6_rest : List CE := [(0, .aload_n 0, 1, [], 0), (1, .iconst 0, 2, [], 0), (2, .putfield 83, 5, [6, 0, 0], 0), (5, .iload_n 1, 6, [], 0), (6, .iconst 0, 7, [], 0), (7, .ldc 98, 9, [], 100000), (9, .invokestatic 99, 12, [0], 0), (12, .ifCond .eq 31, 15, [43], 0), (15, .iload_n 2, 16, [], 0), (16, .bipush (-60), 18, [], (-60)), (18, .bipush 60, 20, [], 60), (20, .invokestatic 99, 23, [0], 0), (23, .ifCond .eq 20, 26, [43], 0), (26, .iload_n 3, 27, [], 0), (27, .iconst 0, 28, [], 0), (28, .iconst 1, 29, [], 1), (29, .invokestatic 99, 32, [0], 0), (32, .ifCond .eq 11, 35, [43], 0), (35, .aload_n 0, 36, [], 0), (36, .iload_n 1, 37, [], 0), (37, .invokevirtual 103, 40, [1], 0), (40, .ifCond .eq 6, 43, [46], 0), (43, .ldc 107, 45, [], (-100001)), (45, .ireturn, 46, [0], 0), (46, .aload_n 0, 47, [], 0), (47, .iload_n 1, 48, [], 0), (48, .iload_n 2, 49, [], 0), (49, .iload_n 2, 50, [], 0), (50, .iload_n 3, 51, [], 0), (51, .iconst 0, 52, [], 0), (52, .iconst 1, 53, [], 1), (53, .invokevirtual 108, 56, [2], 0), (56, .ireturn, 57, [0], 0)]
theorem ok_X6_rest : ∀ q ∈ L_X6_rest, rok cX6_rest 4 0 q = true := by decide +kernel
theorem fk_X6_rest : ∀ q ∈ L_X6_rest, fck FT_X6 PT_X6 KT_X6 q = true := by decide +kernel
noncomputable def cs_X6_rest : List CT := [(true, 99, 3, 1, 6, m_X6_in), (false, 103, 2, 1, 6, m_X6_isTaken), (false, 108, 7, 1, 6, m_X6_come)]
noncomputable def m_X6_rest : MT := fun As S => brn mT cs_X6_rest L_X6_rest [] (dsp []) 35 [] 0 (zipN 0 As) [] S
theorem s_X6_rest (M : xM p l e R s m args below meth c cells slots Q D mT g cI cZ A 4 cX6_rest RX6 0 cs_X6_rest L_X6_rest R0) {As : List AV} {S : XS} (h : m_X6_rest As S = some R0) : xG p l e R s m args below meth c cells slots Q D mT g cI cZ A 4 0 (zipN 0 As) [] S := xa_blk M (fun _ q => absurd q List.not_mem_nil) h
set_option maxRecDepth 20000 in
theorem c_X6_rest {l : Launch} {D : va_G} {g : Nat → Nat} {cI cZ : ClassId} {A : Nat → Prop} (hD : ∀ S, va_D A (ww mT g cI cZ S)) : xMet l D mT g cI cZ A yX6_rest (wm yX6_rest cX6_rest 4 0) { frames := 1, cells := 0, slots := 0, locals := 26 } 4 m_X6_rest :=
  xa_met (ft := FT_X6) (pt := PT_X6) (kt := KT_X6) (cs := cs_X6_rest) (L := L_X6_rest) hD (by decide) (by decide) ok_X6_rest fk_X6_rest fa_X6 (fun p e s m args below meth c Q R0 C0 hts hN => all_get (List.forall_mem_cons.mpr ⟨xcf_S C0 hts hN (c_X6_in hD) (good_S kl_X6_99 kt_X6_in kn_X6 kc_X6_in) rfl ⟨rfl, rfl⟩ (by decide +kernel) ⟨by decide, by decide⟩ ⟨Nat.zero_le _, Nat.zero_le _⟩, List.forall_mem_cons.mpr ⟨xcf_V (C := RX6) C0 hts hN (c_X6_isTaken hD) (good_V kl_X6_103 ki_X6_isTaken ks_X6_isTaken kn_X6 kc_X6_isTaken) rfl ⟨rfl, rfl⟩ rfl (by decide +kernel) ⟨by decide, by decide⟩ ⟨Nat.zero_le _, Nat.zero_le _⟩, List.forall_mem_cons.mpr ⟨xcf_V (C := RX6) C0 hts hN (c_X6_come hD) (good_V kl_X6_108 ki_X6_come ks_X6_come kn_X6 kc_X6_come) rfl ⟨rfl, rfl⟩ rfl (by decide +kernel) ⟨by decide, by decide⟩ ⟨Nat.zero_le _, Nat.zero_le _⟩, fun _ q => absurd q List.not_mem_nil⟩⟩⟩)) (fun p e s m args below meth c Q R0 As S M h => s_X6_rest M h)
def L_X6_lift : List CE := [(0, .aload_n 0, 1, [], 0), (1, .iconst 0, 2, [], 0), (2, .putfield 83, 5, [6, 0, 0], 0), (5, .aload_n 0, 6, [], 0), (6, .iload_n 1, 7, [], 0), (7, .invokevirtual 112, 10, [0], 0), (10, .ifCond .eq 40, 13, [50], 0), (13, .iload_n 2, 14, [], 0), (14, .bipush (-120), 16, [], (-120)), (16, .bipush 120, 18, [], 120), (18, .invokestatic 99, 21, [1], 0), (21, .ifCond .eq 29, 24, [50], 0), (24, .aload_n 0, 25, [], 0), (25, .getfield 13, 28, [6, 3], 0), (28, .iload_n 1, 29, [], 0), (29, .iaload, 30, [], 0), (30, .iload_n 2, 31, [], 0), (31, .iadd, 32, [], 0), (32, .bipush (-60), 34, [], (-60)), (34, .if_icmp .lt 16, 37, [50], 0), (37, .aload_n 0, 38, [], 0), (38, .getfield 16, 41, [6, 4], 0), (41, .iload_n 1, 42, [], 0), (42, .iaload, 43, [], 0), (43, .iload_n 2, 44, [], 0), (44, .iadd, 45, [], 0), (45, .bipush 60, 47, [], 60), (47, .if_icmp .le 6, 50, [53], 0), (50, .ldc 107, 52, [], (-100001)), (52, .ireturn, 53, [0], 0), (53, .aload_n 0, 54, [], 0), (54, .getfield 13, 57, [6, 3], 0), (57, .iload_n 1, 58, [], 0), (58, .dup2, 59, [], 0), (59, .iaload, 60, [], 0), (60, .iload_n 2, 61, [], 0), (61, .iadd, 62, [], 0), (62, .iastore, 63, [], 0), (63, .aload_n 0, 64, [], 0), (64, .getfield 16, 67, [6, 4], 0), (67, .iload_n 1, 68, [], 0), (68, .dup2, 69, [], 0), (69, .iaload, 70, [], 0), (70, .iload_n 2, 71, [], 0), (71, .iadd, 72, [], 0), (72, .iastore, 73, [], 0), (73, .aload_n 0, 74, [], 0), (74, .iconst 0, 75, [], 0), (75, .putfield 94, 78, [6, 29, 1], 0), (78, .iconst 1, 79, [], 1), (79, .ireturn, 80, [0], 0)]
theorem ok_X6_lift : ∀ q ∈ L_X6_lift, rok cX6_lift 3 0 q = true := by decide +kernel
theorem fk_X6_lift : ∀ q ∈ L_X6_lift, fck FT_X6 PT_X6 KT_X6 q = true := by decide +kernel
noncomputable def cs_X6_lift : List CT := [(false, 112, 2, 1, 6, m_X6_isItem), (true, 99, 3, 1, 6, m_X6_in)]
noncomputable def m_X6_lift : MT := fun As S => brn mT cs_X6_lift L_X6_lift [] (dsp []) 53 [] 0 (zipN 0 As) [] S
theorem s_X6_lift (M : xM p l e R s m args below meth c cells slots Q D mT g cI cZ A 3 cX6_lift RX6 0 cs_X6_lift L_X6_lift R0) {As : List AV} {S : XS} (h : m_X6_lift As S = some R0) : xG p l e R s m args below meth c cells slots Q D mT g cI cZ A 3 0 (zipN 0 As) [] S := xa_blk M (fun _ q => absurd q List.not_mem_nil) h
set_option maxRecDepth 20000 in
theorem c_X6_lift {l : Launch} {D : va_G} {g : Nat → Nat} {cI cZ : ClassId} {A : Nat → Prop} (hD : ∀ S, va_D A (ww mT g cI cZ S)) : xMet l D mT g cI cZ A yX6_lift (wm yX6_lift cX6_lift 3 0) { frames := 1, cells := 0, slots := 0, locals := 22 } 3 m_X6_lift :=
  xa_met (ft := FT_X6) (pt := PT_X6) (kt := KT_X6) (cs := cs_X6_lift) (L := L_X6_lift) hD (by decide) (by decide) ok_X6_lift fk_X6_lift fa_X6 (fun p e s m args below meth c Q R0 C0 hts hN => all_get (List.forall_mem_cons.mpr ⟨xcf_V (C := RX6) C0 hts hN (c_X6_isItem hD) (good_V kl_X6_112 ki_X6_isItem ks_X6_isItem kn_X6 kc_X6_isItem) rfl ⟨rfl, rfl⟩ rfl (by decide +kernel) ⟨by decide, by decide⟩ ⟨Nat.zero_le _, Nat.zero_le _⟩, List.forall_mem_cons.mpr ⟨xcf_S C0 hts hN (c_X6_in hD) (good_S kl_X6_99 kt_X6_in kn_X6 kc_X6_in) rfl ⟨rfl, rfl⟩ (by decide +kernel) ⟨by decide, by decide⟩ ⟨Nat.zero_le _, Nat.zero_le _⟩, fun _ q => absurd q List.not_mem_nil⟩⟩)) (fun p e s m args below meth c Q R0 As S M h => s_X6_lift M h)
def L_X6_most : List CE := [(0, .iload_n 0, 1, [], 0), (1, .tableswitch 39 0 3 #[31, 34, 39, 36], 32, [40, 32, 35, 40, 37], 0), (32, .bipush 9, 34, [], 9), (34, .ireturn, 35, [0], 0), (35, .iconst 3, 36, [], 3), (36, .ireturn, 37, [0], 0), (37, .bipush 20, 39, [], 20), (39, .ireturn, 40, [0], 0), (40, .iconst 1, 41, [], 1), (41, .ireturn, 42, [0], 0)]
theorem ok_X6_most : ∀ q ∈ L_X6_most, rok cX6_most 1 0 q = true := by decide +kernel
theorem fk_X6_most : ∀ q ∈ L_X6_most, fck FT_X6 PT_X6 KT_X6 q = true := by decide +kernel
noncomputable def cs_X6_most : List CT := []
noncomputable def m_X6_most : MT := fun As S => brn mT cs_X6_most L_X6_most [] (dsp []) 12 [] 0 (zipN 0 As) [] S
theorem s_X6_most (M : xM p l e R s m args below meth c cells slots Q D mT g cI cZ A 1 cX6_most RX6 0 cs_X6_most L_X6_most R0) {As : List AV} {S : XS} (h : m_X6_most As S = some R0) : xG p l e R s m args below meth c cells slots Q D mT g cI cZ A 1 0 (zipN 0 As) [] S := xa_blk M (fun _ q => absurd q List.not_mem_nil) h
set_option maxRecDepth 20000 in
theorem c_X6_most {l : Launch} {D : va_G} {g : Nat → Nat} {cI cZ : ClassId} {A : Nat → Prop} (hD : ∀ S, va_D A (ww mT g cI cZ S)) : xMet l D mT g cI cZ A yX6_most (wm yX6_most cX6_most 1 0) { frames := 0, cells := 0, slots := 0, locals := 0 } 1 m_X6_most :=
  xa_met (ft := FT_X6) (pt := PT_X6) (kt := KT_X6) (cs := cs_X6_most) (L := L_X6_most) hD (by decide) (by decide) ok_X6_most fk_X6_most fa_X6 (fun p e s m args below meth c Q R0 C0 hts hN => all_get (fun _ q => absurd q List.not_mem_nil)) (fun p e s m args below meth c Q R0 As S M h => s_X6_most M h)
def L_X6_set : List CE := [(0, .aload_n 0, 1, [], 0), (1, .iconst 0, 2, [], 0), (2, .putfield 83, 5, [6, 0, 0], 0), (5, .iload_n 1, 6, [], 0), (6, .iconst 0, 7, [], 0), (7, .bipush 9, 9, [], 9), (9, .invokestatic 99, 12, [0], 0), (12, .ifCond .eq 24, 15, [36], 0), (15, .iload_n 2, 16, [], 0), (16, .iconst 0, 17, [], 0), (17, .iconst 5, 18, [], 5), (18, .invokestatic 99, 21, [0], 0), (21, .ifCond .eq 15, 24, [36], 0), (24, .iload_n 3, 25, [], 0), (25, .iconst 0, 26, [], 0), (26, .iload_n 2, 27, [], 0), (27, .invokestatic 115, 30, [1], 0), (30, .invokestatic 99, 33, [0], 0), (33, .ifCond .ne 6, 36, [39], 0), (36, .ldc 107, 38, [], (-100001)), (38, .ireturn, 39, [0], 0), (39, .aload_n 0, 40, [], 0), (40, .getfield 29, 43, [6, 8], 0), (43, .bipush 6, 45, [], 6), (45, .iload_n 1, 46, [], 0), (46, .imul, 47, [], 0), (47, .iload_n 2, 48, [], 0), (48, .iadd, 49, [], 0), (49, .iaload, 50, [], 0), (50, .istore 4, 52, [], 0), (52, .aload_n 0, 53, [], 0), (53, .getfield 29, 56, [6, 8], 0), (56, .bipush 6, 58, [], 6), (58, .iload_n 1, 59, [], 0), (59, .imul, 60, [], 0), (60, .iload_n 2, 61, [], 0), (61, .iadd, 62, [], 0), (62, .iload_n 3, 63, [], 0), (63, .iastore, 64, [], 0), (64, .aload_n 0, 65, [], 0), (65, .iconst 0, 66, [], 0), (66, .putfield 94, 69, [6, 29, 1], 0), (69, .iload 4, 71, [], 0), (71, .ireturn, 72, [0], 0)]
theorem ok_X6_set : ∀ q ∈ L_X6_set, rok cX6_set 5 0 q = true := by decide +kernel
theorem fk_X6_set : ∀ q ∈ L_X6_set, fck FT_X6 PT_X6 KT_X6 q = true := by decide +kernel
noncomputable def cs_X6_set : List CT := [(true, 99, 3, 1, 6, m_X6_in), (true, 115, 1, 1, 6, m_X6_most)]
noncomputable def m_X6_set : MT := fun As S => brn mT cs_X6_set L_X6_set [] (dsp []) 46 [] 0 (zipN 0 As) [] S
theorem s_X6_set (M : xM p l e R s m args below meth c cells slots Q D mT g cI cZ A 5 cX6_set RX6 0 cs_X6_set L_X6_set R0) {As : List AV} {S : XS} (h : m_X6_set As S = some R0) : xG p l e R s m args below meth c cells slots Q D mT g cI cZ A 5 0 (zipN 0 As) [] S := xa_blk M (fun _ q => absurd q List.not_mem_nil) h
set_option maxRecDepth 20000 in
theorem c_X6_set {l : Launch} {D : va_G} {g : Nat → Nat} {cI cZ : ClassId} {A : Nat → Prop} (hD : ∀ S, va_D A (ww mT g cI cZ S)) : xMet l D mT g cI cZ A yX6_set (wm yX6_set cX6_set 5 0) { frames := 1, cells := 0, slots := 0, locals := 22 } 4 m_X6_set :=
  xa_met (ft := FT_X6) (pt := PT_X6) (kt := KT_X6) (cs := cs_X6_set) (L := L_X6_set) hD (by decide) (by decide) ok_X6_set fk_X6_set fa_X6 (fun p e s m args below meth c Q R0 C0 hts hN => all_get (List.forall_mem_cons.mpr ⟨xcf_S C0 hts hN (c_X6_in hD) (good_S kl_X6_99 kt_X6_in kn_X6 kc_X6_in) rfl ⟨rfl, rfl⟩ (by decide +kernel) ⟨by decide, by decide⟩ ⟨Nat.zero_le _, Nat.zero_le _⟩, List.forall_mem_cons.mpr ⟨xcf_S C0 hts hN (c_X6_most hD) (good_S kl_X6_115 kt_X6_most kn_X6 kc_X6_most) rfl ⟨rfl, rfl⟩ (by decide +kernel) ⟨by decide, by decide⟩ ⟨Nat.zero_le _, Nat.zero_le _⟩, fun _ q => absurd q List.not_mem_nil⟩⟩)) (fun p e s m args below meth c Q R0 As S M h => s_X6_set M h)
def L_X6_mark : List CE := [(0, .aload_n 0, 1, [], 0), (1, .iconst 0, 2, [], 0), (2, .putfield 83, 5, [6, 0, 0], 0), (5, .aload_n 0, 6, [], 0), (6, .iload_n 1, 7, [], 0), (7, .invokevirtual 112, 10, [0], 0), (10, .ifCond .eq 35, 13, [45], 0), (13, .iload_n 2, 14, [], 0), (14, .iconst 0, 15, [], 0), (15, .bipush 9, 17, [], 9), (17, .invokestatic 99, 20, [1], 0), (20, .ifCond .eq 25, 23, [45], 0), (23, .iload_n 3, 24, [], 0), (24, .iconst 1, 25, [], 1), (25, .sipush 400, 28, [], 400), (28, .invokestatic 99, 31, [1], 0), (31, .ifCond .eq 14, 34, [45], 0), (34, .iload 4, 36, [], 0), (36, .iconst 1, 37, [], 1), (37, .bipush 40, 39, [], 40), (39, .invokestatic 99, 42, [1], 0), (42, .ifCond .ne 6, 45, [48], 0), (45, .ldc 107, 47, [], (-100001)), (47, .ireturn, 48, [0], 0), (48, .aload_n 0, 49, [], 0), (49, .getfield 90, 52, [6, 9], 0), (52, .bipush 80, 54, [], 80), (54, .if_icmp .ne 6, 57, [60], 0), (57, .ldc 93, 59, [], (-100002)), (59, .ireturn, 60, [0], 0), (60, .aload_n 0, 61, [], 0), (61, .getfield 32, 64, [6, 10], 0), (64, .aload_n 0, 65, [], 0), (65, .getfield 90, 68, [6, 9], 0), (68, .iload_n 1, 69, [], 0), (69, .iastore, 70, [], 0), (70, .aload_n 0, 71, [], 0), (71, .getfield 35, 74, [6, 11], 0), (74, .aload_n 0, 75, [], 0), (75, .getfield 90, 78, [6, 9], 0), (78, .iload_n 2, 79, [], 0), (79, .iastore, 80, [], 0), (80, .aload_n 0, 81, [], 0), (81, .getfield 38, 84, [6, 12], 0), (84, .aload_n 0, 85, [], 0), (85, .getfield 90, 88, [6, 9], 0), (88, .iload_n 3, 89, [], 0), (89, .iastore, 90, [], 0), (90, .aload_n 0, 91, [], 0), (91, .getfield 41, 94, [6, 13], 0), (94, .aload_n 0, 95, [], 0), (95, .getfield 90, 98, [6, 9], 0), (98, .iload 4, 100, [], 0), (100, .iastore, 101, [], 0), (101, .aload_n 0, 102, [], 0), (102, .dup, 103, [], 0), (103, .getfield 90, 106, [6, 9], 0), (106, .iconst 1, 107, [], 1), (107, .iadd, 108, [], 0), (108, .putfield 90, 111, [6, 9, 0], 0), (111, .aload_n 0, 112, [], 0), (112, .iconst 0, 113, [], 0), (113, .putfield 94, 116, [6, 29, 1], 0), (116, .aload_n 0, 117, [], 0), (117, .getfield 90, 120, [6, 9], 0), (120, .iconst 1, 121, [], 1), (121, .isub, 122, [], 0), (122, .ireturn, 123, [0], 0)]
theorem ok_X6_mark : ∀ q ∈ L_X6_mark, rok cX6_mark 5 0 q = true := by decide +kernel
theorem fk_X6_mark : ∀ q ∈ L_X6_mark, fck FT_X6 PT_X6 KT_X6 q = true := by decide +kernel
noncomputable def cs_X6_mark : List CT := [(false, 112, 2, 1, 6, m_X6_isItem), (true, 99, 3, 1, 6, m_X6_in)]
noncomputable def m_X6_mark : MT := fun As S => brn mT cs_X6_mark L_X6_mark [] (dsp []) 70 [] 0 (zipN 0 As) [] S
theorem s_X6_mark (M : xM p l e R s m args below meth c cells slots Q D mT g cI cZ A 5 cX6_mark RX6 0 cs_X6_mark L_X6_mark R0) {As : List AV} {S : XS} (h : m_X6_mark As S = some R0) : xG p l e R s m args below meth c cells slots Q D mT g cI cZ A 5 0 (zipN 0 As) [] S := xa_blk M (fun _ q => absurd q List.not_mem_nil) h
set_option maxRecDepth 20000 in
theorem c_X6_mark {l : Launch} {D : va_G} {g : Nat → Nat} {cI cZ : ClassId} {A : Nat → Prop} (hD : ∀ S, va_D A (ww mT g cI cZ S)) : xMet l D mT g cI cZ A yX6_mark (wm yX6_mark cX6_mark 5 0) { frames := 1, cells := 0, slots := 0, locals := 22 } 5 m_X6_mark :=
  xa_met (ft := FT_X6) (pt := PT_X6) (kt := KT_X6) (cs := cs_X6_mark) (L := L_X6_mark) hD (by decide) (by decide) ok_X6_mark fk_X6_mark fa_X6 (fun p e s m args below meth c Q R0 C0 hts hN => all_get (List.forall_mem_cons.mpr ⟨xcf_V (C := RX6) C0 hts hN (c_X6_isItem hD) (good_V kl_X6_112 ki_X6_isItem ks_X6_isItem kn_X6 kc_X6_isItem) rfl ⟨rfl, rfl⟩ rfl (by decide +kernel) ⟨by decide, by decide⟩ ⟨Nat.zero_le _, Nat.zero_le _⟩, List.forall_mem_cons.mpr ⟨xcf_S C0 hts hN (c_X6_in hD) (good_S kl_X6_99 kt_X6_in kn_X6 kc_X6_in) rfl ⟨rfl, rfl⟩ (by decide +kernel) ⟨by decide, by decide⟩ ⟨Nat.zero_le _, Nat.zero_le _⟩, fun _ q => absurd q List.not_mem_nil⟩⟩)) (fun p e s m args below meth c Q R0 As S M h => s_X6_mark M h)
def L_X6_drop : List CE := [(0, .aload_n 0, 1, [], 0), (1, .iconst 0, 2, [], 0), (2, .putfield 83, 5, [6, 0, 0], 0), (5, .aload_n 0, 6, [], 0), (6, .iload_n 1, 7, [], 0), (7, .invokevirtual 119, 10, [0], 0), (10, .ifCond .ne 6, 13, [16], 0), (13, .ldc 107, 15, [], (-100001)), (15, .ireturn, 16, [0], 0), (16, .aload_n 0, 17, [], 0), (17, .getfield 44, 20, [6, 14], 0), (20, .iload_n 1, 21, [], 0), (21, .iconst 1, 22, [], 1), (22, .bastore, 23, [], 0), (23, .aload_n 0, 24, [], 0), (24, .iconst 0, 25, [], 0), (25, .putfield 94, 28, [6, 29, 1], 0), (28, .iconst 1, 29, [], 1), (29, .ireturn, 30, [0], 0)]
theorem ok_X6_drop : ∀ q ∈ L_X6_drop, rok cX6_drop 2 0 q = true := by decide +kernel
theorem fk_X6_drop : ∀ q ∈ L_X6_drop, fck FT_X6 PT_X6 KT_X6 q = true := by decide +kernel
noncomputable def cs_X6_drop : List CT := [(false, 119, 2, 1, 6, m_X6_isMark)]
noncomputable def m_X6_drop : MT := fun As S => brn mT cs_X6_drop L_X6_drop [] (dsp []) 21 [] 0 (zipN 0 As) [] S
theorem s_X6_drop (M : xM p l e R s m args below meth c cells slots Q D mT g cI cZ A 2 cX6_drop RX6 0 cs_X6_drop L_X6_drop R0) {As : List AV} {S : XS} (h : m_X6_drop As S = some R0) : xG p l e R s m args below meth c cells slots Q D mT g cI cZ A 2 0 (zipN 0 As) [] S := xa_blk M (fun _ q => absurd q List.not_mem_nil) h
set_option maxRecDepth 20000 in
theorem c_X6_drop {l : Launch} {D : va_G} {g : Nat → Nat} {cI cZ : ClassId} {A : Nat → Prop} (hD : ∀ S, va_D A (ww mT g cI cZ S)) : xMet l D mT g cI cZ A yX6_drop (wm yX6_drop cX6_drop 2 0) { frames := 1, cells := 0, slots := 0, locals := 21 } 2 m_X6_drop :=
  xa_met (ft := FT_X6) (pt := PT_X6) (kt := KT_X6) (cs := cs_X6_drop) (L := L_X6_drop) hD (by decide) (by decide) ok_X6_drop fk_X6_drop fa_X6 (fun p e s m args below meth c Q R0 C0 hts hN => all_get (List.forall_mem_cons.mpr ⟨xcf_V (C := RX6) C0 hts hN (c_X6_isMark hD) (good_V kl_X6_119 ki_X6_isMark ks_X6_isMark kn_X6 kc_X6_isMark) rfl ⟨rfl, rfl⟩ rfl (by decide +kernel) ⟨by decide, by decide⟩ ⟨Nat.zero_le _, Nat.zero_le _⟩, fun _ q => absurd q List.not_mem_nil⟩)) (fun p e s m args below meth c Q R0 As S M h => s_X6_drop M h)
def L_X6_slur : List CE := [(0, .aload_n 0, 1, [], 0), (1, .iconst 0, 2, [], 0), (2, .putfield 83, 5, [6, 0, 0], 0), (5, .aload_n 0, 6, [], 0), (6, .iload_n 1, 7, [], 0), (7, .invokevirtual 112, 10, [0], 0), (10, .ifCond .eq 44, 13, [54], 0), (13, .aload_n 0, 14, [], 0), (14, .iload_n 2, 15, [], 0), (15, .invokevirtual 112, 18, [0], 0), (18, .ifCond .eq 36, 21, [54], 0), (21, .iload_n 3, 22, [], 0), (22, .invokestatic 122, 25, [1], 0), (25, .ifCond .eq 29, 28, [54], 0), (28, .iload 4, 30, [], 0), (30, .iconst 1, 31, [], 1), (31, .bipush 20, 33, [], 20), (33, .invokestatic 99, 36, [2], 0), (36, .ifCond .eq 18, 39, [54], 0), (39, .aload_n 0, 40, [], 0), (40, .getfield 7, 43, [6, 2], 0), (43, .iload_n 2, 44, [], 0), (44, .iaload, 45, [], 0), (45, .aload_n 0, 46, [], 0), (46, .getfield 7, 49, [6, 2], 0), (49, .iload_n 1, 50, [], 0), (50, .iaload, 51, [], 0), (51, .if_icmp .gt 6, 54, [57], 0), (54, .ldc 107, 56, [], (-100001)), (56, .ireturn, 57, [0], 0), (57, .aload_n 0, 58, [], 0), (58, .getfield 125, 61, [6, 20], 0), (61, .bipush 10, 63, [], 10), (63, .if_icmp .ne 6, 66, [69], 0), (66, .ldc 93, 68, [], (-100002)), (68, .ireturn, 69, [0], 0), (69, .aload_n 0, 70, [], 0), (70, .getfield 59, 73, [6, 21], 0), (73, .aload_n 0, 74, [], 0), (74, .getfield 125, 77, [6, 20], 0), (77, .iload_n 1, 78, [], 0), (78, .iastore, 79, [], 0), (79, .aload_n 0, 80, [], 0), (80, .getfield 62, 83, [6, 22], 0), (83, .aload_n 0, 84, [], 0), (84, .getfield 125, 87, [6, 20], 0), (87, .iload_n 2, 88, [], 0), (88, .iastore, 89, [], 0), (89, .aload_n 0, 90, [], 0), (90, .getfield 65, 93, [6, 23], 0), (93, .aload_n 0, 94, [], 0), (94, .getfield 125, 97, [6, 20], 0), (97, .iload_n 3, 98, [], 0), (98, .iastore, 99, [], 0), (99, .aload_n 0, 100, [], 0), (100, .getfield 68, 103, [6, 24], 0), (103, .aload_n 0, 104, [], 0), (104, .getfield 125, 107, [6, 20], 0), (107, .iload 4, 109, [], 0), (109, .iastore, 110, [], 0), (110, .aload_n 0, 111, [], 0), (111, .dup, 112, [], 0), (112, .getfield 125, 115, [6, 20], 0), (115, .iconst 1, 116, [], 1), (116, .iadd, 117, [], 0), (117, .putfield 125, 120, [6, 20, 0], 0), (120, .aload_n 0, 121, [], 0), (121, .iconst 0, 122, [], 0), (122, .putfield 94, 125, [6, 29, 1], 0), (125, .aload_n 0, 126, [], 0), (126, .getfield 125, 129, [6, 20], 0), (129, .iconst 1, 130, [], 1), (130, .isub, 131, [], 0), (131, .ireturn, 132, [0], 0)]
theorem ok_X6_slur : ∀ q ∈ L_X6_slur, rok cX6_slur 5 0 q = true := by decide +kernel
theorem fk_X6_slur : ∀ q ∈ L_X6_slur, fck FT_X6 PT_X6 KT_X6 q = true := by decide +kernel
noncomputable def cs_X6_slur : List CT := [(false, 112, 2, 1, 6, m_X6_isItem), (true, 122, 1, 1, 6, m_X6_isSide), (true, 99, 3, 1, 6, m_X6_in)]
noncomputable def m_X6_slur : MT := fun As S => brn mT cs_X6_slur L_X6_slur [] (dsp []) 76 [] 0 (zipN 0 As) [] S
theorem s_X6_slur (M : xM p l e R s m args below meth c cells slots Q D mT g cI cZ A 5 cX6_slur RX6 0 cs_X6_slur L_X6_slur R0) {As : List AV} {S : XS} (h : m_X6_slur As S = some R0) : xG p l e R s m args below meth c cells slots Q D mT g cI cZ A 5 0 (zipN 0 As) [] S := xa_blk M (fun _ q => absurd q List.not_mem_nil) h
set_option maxRecDepth 20000 in
theorem c_X6_slur {l : Launch} {D : va_G} {g : Nat → Nat} {cI cZ : ClassId} {A : Nat → Prop} (hD : ∀ S, va_D A (ww mT g cI cZ S)) : xMet l D mT g cI cZ A yX6_slur (wm yX6_slur cX6_slur 5 0) { frames := 1, cells := 0, slots := 0, locals := 22 } 5 m_X6_slur :=
  xa_met (ft := FT_X6) (pt := PT_X6) (kt := KT_X6) (cs := cs_X6_slur) (L := L_X6_slur) hD (by decide) (by decide) ok_X6_slur fk_X6_slur fa_X6 (fun p e s m args below meth c Q R0 C0 hts hN => all_get (List.forall_mem_cons.mpr ⟨xcf_V (C := RX6) C0 hts hN (c_X6_isItem hD) (good_V kl_X6_112 ki_X6_isItem ks_X6_isItem kn_X6 kc_X6_isItem) rfl ⟨rfl, rfl⟩ rfl (by decide +kernel) ⟨by decide, by decide⟩ ⟨Nat.zero_le _, Nat.zero_le _⟩, List.forall_mem_cons.mpr ⟨xcf_S C0 hts hN (c_X6_isSide hD) (good_S kl_X6_122 kt_X6_isSide kn_X6 kc_X6_isSide) rfl ⟨rfl, rfl⟩ (by decide +kernel) ⟨by decide, by decide⟩ ⟨Nat.zero_le _, Nat.zero_le _⟩, List.forall_mem_cons.mpr ⟨xcf_S C0 hts hN (c_X6_in hD) (good_S kl_X6_99 kt_X6_in kn_X6 kc_X6_in) rfl ⟨rfl, rfl⟩ (by decide +kernel) ⟨by decide, by decide⟩ ⟨Nat.zero_le _, Nat.zero_le _⟩, fun _ q => absurd q List.not_mem_nil⟩⟩⟩)) (fun p e s m args below meth c Q R0 As S M h => s_X6_slur M h)
def L_X6_areBoth : List CE := [(0, .iconst 0, 1, [], 0), (1, .istore_n 1, 2, [], 0), (2, .iconst 0, 3, [], 0), (3, .istore_n 2, 4, [], 0), (4, .iconst 0, 5, [], 0), (5, .istore_n 3, 6, [], 0), (6, .iload_n 3, 7, [], 0), (7, .aload_n 0, 8, [], 0), (8, .getfield 87, 11, [6, 1], 0), (11, .if_icmp .ge 44, 14, [55], 0), (14, .iload_n 1, 15, [], 0), (15, .aload_n 0, 16, [], 0), (16, .getfield 19, 19, [6, 5], 0), (19, .iload_n 3, 20, [], 0), (20, .iaload, 21, [], 0), (21, .ifCond .ne 7, 24, [28], 0), (24, .iconst 1, 25, [], 1), (25, .goto 4, 28, [29], 0), (28, .iconst 0, 29, [], 0), (29, .ior, 30, [], 0), (30, .istore_n 1, 31, [], 0), (31, .iload_n 2, 32, [], 0), (32, .aload_n 0, 33, [], 0), (33, .getfield 19, 36, [6, 5], 0), (36, .iload_n 3, 37, [], 0), (37, .iaload, 38, [], 0), (38, .iconst 1, 39, [], 1), (39, .if_icmp .ne 7, 42, [46], 0), (42, .iconst 1, 43, [], 1), (43, .goto 4, 46, [47], 0), (46, .iconst 0, 47, [], 0), (47, .ior, 48, [], 0), (48, .istore_n 2, 49, [], 0), (49, .iinc 3 1, 52, [], 1), (52, .goto (-46), 55, [6], 0), (55, .iload_n 1, 56, [], 0), (56, .ifCond .eq 11, 59, [67], 0), (59, .iload_n 2, 60, [], 0), (60, .ifCond .eq 7, 63, [67], 0), (63, .iconst 1, 64, [], 1), (64, .goto 4, 67, [68], 0), (67, .iconst 0, 68, [], 0), (68, .ireturn, 69, [1], 0)]
theorem ok_X6_areBoth : ∀ q ∈ L_X6_areBoth, rok cX6_areBoth 4 1 q = true := by decide +kernel
theorem fk_X6_areBoth : ∀ q ∈ L_X6_areBoth, fck FT_X6 PT_X6 KT_X6 q = true := by decide +kernel
noncomputable def cs_X6_areBoth : List CT := []
noncomputable def b_X6_areBoth_6 : Nat → BT
  | 0 => fun _ _ _ => none
  | n + 1 => fun lv st S => brn mT cs_X6_areBoth L_X6_areBoth [6] (dsp [(6, [0, 1, 2, 3], b_X6_areBoth_6 n)]) 45 [] 6 lv st S
theorem s_X6_areBoth_6 (M : xM p l e R s m args below meth c cells slots Q D mT g cI cZ A 4 cX6_areBoth RX6 1 cs_X6_areBoth L_X6_areBoth R0) : ∀ n lv st S, b_X6_areBoth_6 n lv st S = some R0 → xG p l e R s m args below meth c cells slots Q D mT g cI cZ A 4 6 lv st S := by
  intro n
  induction n with
  | zero => intro lv st S h; cases h
  | succ n ih => intro lv st S h; exact xa_blk M (List.forall_mem_cons.mpr ⟨fun lv st S h => (ih) lv st S h, fun _ q => absurd q List.not_mem_nil⟩) h
noncomputable def m_X6_areBoth : MT := fun As S => brn mT cs_X6_areBoth L_X6_areBoth [6] (dsp [(6, [0, 1, 2, 3], b_X6_areBoth_6 fu)]) 45 [] 0 (zipN 0 As) [] S
theorem s_X6_areBoth (M : xM p l e R s m args below meth c cells slots Q D mT g cI cZ A 4 cX6_areBoth RX6 1 cs_X6_areBoth L_X6_areBoth R0) {As : List AV} {S : XS} (h : m_X6_areBoth As S = some R0) : xG p l e R s m args below meth c cells slots Q D mT g cI cZ A 4 0 (zipN 0 As) [] S := xa_blk M (List.forall_mem_cons.mpr ⟨fun lv st S h => (s_X6_areBoth_6 M fu) lv st S h, fun _ q => absurd q List.not_mem_nil⟩) h
set_option maxRecDepth 20000 in
theorem c_X6_areBoth {l : Launch} {D : va_G} {g : Nat → Nat} {cI cZ : ClassId} {A : Nat → Prop} (hD : ∀ S, va_D A (ww mT g cI cZ S)) : xMet l D mT g cI cZ A yX6_areBoth (wm yX6_areBoth cX6_areBoth 4 1) { frames := 0, cells := 0, slots := 0, locals := 0 } 1 m_X6_areBoth :=
  xa_met (ft := FT_X6) (pt := PT_X6) (kt := KT_X6) (cs := cs_X6_areBoth) (L := L_X6_areBoth) hD (by decide) (by decide) ok_X6_areBoth fk_X6_areBoth fa_X6 (fun p e s m args below meth c Q R0 C0 hts hN => all_get (fun _ q => absurd q List.not_mem_nil)) (fun p e s m args below meth c Q R0 As S M h => s_X6_areBoth M h)
def L_X6_sideOf : List CE := [(0, .aload_n 0, 1, [], 0), (1, .getfield 29, 4, [6, 8], 0), (4, .bipush 6, 6, [], 6), (6, .aload_n 0, 7, [], 0), (7, .getfield 35, 10, [6, 11], 0), (10, .iload_n 1, 11, [], 0), (11, .iaload, 12, [], 0), (12, .imul, 13, [], 0), (13, .iconst 1, 14, [], 1), (14, .iadd, 15, [], 0), (15, .iaload, 16, [], 0), (16, .istore_n 2, 17, [], 0), (17, .iload_n 2, 18, [], 0), (18, .iconst 1, 19, [], 1), (19, .if_icmp .le 14, 22, [33], 0), (22, .iload_n 2, 23, [], 0), (23, .iconst 2, 24, [], 2), (24, .if_icmp .ne 7, 27, [31], 0), (27, .iconst 1, 28, [], 1), (28, .goto 4, 31, [32], 0), (31, .iconst (-1), 32, [], (-1)), (32, .ireturn, 33, [0], 0), (33, .aload_n 0, 34, [], 0), (34, .getfield 32, 37, [6, 10], 0), (37, .iload_n 1, 38, [], 0), (38, .iaload, 39, [], 0), (39, .istore_n 3, 40, [], 0), (40, .aload_n 0, 41, [], 0), (41, .getfield 19, 44, [6, 5], 0), (44, .iload_n 3, 45, [], 0), (45, .iaload, 46, [], 0), (46, .ifCond .ne 7, 49, [53], 0), (49, .iconst 1, 50, [], 1), (50, .goto 4, 53, [54], 0), (53, .iconst (-1), 54, [], (-1)), (54, .istore 4, 56, [], 0), (56, .aload_n 0, 57, [], 0), (57, .invokevirtual 128, 60, [0], 0), (60, .ifCond .eq 6, 63, [66], 0), (63, .iload 4, 65, [], 0), (65, .ireturn, 66, [0], 0), (66, .aload_n 0, 67, [], 0), (67, .getfield 22, 70, [6, 6], 0), (70, .iload_n 3, 71, [], 0), (71, .iaload, 72, [], 0), (72, .ifCond .ne 8, 75, [80], 0), (75, .iload 4, 77, [], 0), (77, .goto 9, 80, [86], 0), (80, .aload_n 0, 81, [], 0), (81, .getfield 22, 84, [6, 6], 0), (84, .iload_n 3, 85, [], 0), (85, .iaload, 86, [], 0), (86, .istore 5, 88, [], 0), (88, .iload_n 2, 89, [], 0), (89, .ifCond .ne 8, 92, [97], 0), (92, .iload 5, 94, [], 0), (94, .goto 6, 97, [100], 0), (97, .iload 5, 99, [], 0), (99, .ineg, 100, [], 0), (100, .ireturn, 101, [0], 0)]
theorem ok_X6_sideOf : ∀ q ∈ L_X6_sideOf, rok cX6_sideOf 6 0 q = true := by decide +kernel
theorem fk_X6_sideOf : ∀ q ∈ L_X6_sideOf, fck FT_X6 PT_X6 KT_X6 q = true := by decide +kernel
noncomputable def cs_X6_sideOf : List CT := [(false, 128, 1, 1, 6, m_X6_areBoth)]
noncomputable def b_X6_sideOf_54 : BT := fun lv st S => brn mT cs_X6_sideOf L_X6_sideOf [54] (dsp []) 62 [] 54 lv st S
theorem s_X6_sideOf_54 (M : xM p l e R s m args below meth c cells slots Q D mT g cI cZ A 6 cX6_sideOf RX6 0 cs_X6_sideOf L_X6_sideOf R0) : ∀ lv st S, b_X6_sideOf_54 lv st S = some R0 → xG p l e R s m args below meth c cells slots Q D mT g cI cZ A 6 54 lv st S := fun lv st S h => xa_blk M (fun _ q => absurd q List.not_mem_nil) h
noncomputable def m_X6_sideOf : MT := fun As S => brn mT cs_X6_sideOf L_X6_sideOf [54] (dsp [(54, [0, 2, 3], b_X6_sideOf_54)]) 62 [] 0 (zipN 0 As) [] S
theorem s_X6_sideOf (M : xM p l e R s m args below meth c cells slots Q D mT g cI cZ A 6 cX6_sideOf RX6 0 cs_X6_sideOf L_X6_sideOf R0) {As : List AV} {S : XS} (h : m_X6_sideOf As S = some R0) : xG p l e R s m args below meth c cells slots Q D mT g cI cZ A 6 0 (zipN 0 As) [] S := xa_blk M (List.forall_mem_cons.mpr ⟨fun lv st S h => (s_X6_sideOf_54 M) lv st S h, fun _ q => absurd q List.not_mem_nil⟩) h
set_option maxRecDepth 20000 in
theorem c_X6_sideOf {l : Launch} {D : va_G} {g : Nat → Nat} {cI cZ : ClassId} {A : Nat → Prop} (hD : ∀ S, va_D A (ww mT g cI cZ S)) : xMet l D mT g cI cZ A yX6_sideOf (wm yX6_sideOf cX6_sideOf 6 0) { frames := 1, cells := 0, slots := 0, locals := 23 } 2 m_X6_sideOf :=
  xa_met (ft := FT_X6) (pt := PT_X6) (kt := KT_X6) (cs := cs_X6_sideOf) (L := L_X6_sideOf) hD (by decide) (by decide) ok_X6_sideOf fk_X6_sideOf fa_X6 (fun p e s m args below meth c Q R0 C0 hts hN => all_get (List.forall_mem_cons.mpr ⟨xcf_V (C := RX6) C0 hts hN (c_X6_areBoth hD) (good_V kl_X6_128 ki_X6_areBoth ks_X6_areBoth kn_X6 kc_X6_areBoth) rfl ⟨rfl, rfl⟩ rfl (by decide +kernel) ⟨by decide, by decide⟩ ⟨Nat.zero_le _, Nat.zero_le _⟩, fun _ q => absurd q List.not_mem_nil⟩)) (fun p e s m args below meth c Q R0 As S M h => s_X6_sideOf M h)
def L_X6_left : List CE := [(0, .aload_n 0, 1, [], 0), (1, .getfield 7, 4, [6, 2], 0), (4, .aload_n 0, 5, [], 0), (5, .getfield 32, 8, [6, 10], 0), (8, .iload_n 1, 9, [], 0), (9, .iaload, 10, [], 0), (10, .iaload, 11, [], 0), (11, .istore_n 2, 12, [], 0), (12, .aload_n 0, 13, [], 0), (13, .getfield 29, 16, [6, 8], 0), (16, .bipush 6, 18, [], 6), (18, .aload_n 0, 19, [], 0), (19, .getfield 35, 22, [6, 11], 0), (22, .iload_n 1, 23, [], 0), (23, .iaload, 24, [], 0), (24, .imul, 25, [], 0), (25, .iconst 2, 26, [], 2), (26, .iadd, 27, [], 0), (27, .iaload, 28, [], 0), (28, .iconst 1, 29, [], 1), (29, .if_icmp .ne 7, 32, [36], 0), (32, .iload_n 2, 33, [], 0), (33, .goto 13, 36, [46], 0), (36, .iload_n 2, 37, [], 0), (37, .aload_n 0, 38, [], 0), (38, .getfield 38, 41, [6, 12], 0), (41, .iload_n 1, 42, [], 0), (42, .iaload, 43, [], 0), (43, .iconst 2, 44, [], 2), (44, .idiv, 45, [], 0), (45, .isub, 46, [], 0), (46, .ireturn, 47, [0], 0)]
theorem ok_X6_left : ∀ q ∈ L_X6_left, rok cX6_left 3 0 q = true := by decide +kernel
theorem fk_X6_left : ∀ q ∈ L_X6_left, fck FT_X6 PT_X6 KT_X6 q = true := by decide +kernel
noncomputable def cs_X6_left : List CT := []
noncomputable def m_X6_left : MT := fun As S => brn mT cs_X6_left L_X6_left [] (dsp []) 34 [] 0 (zipN 0 As) [] S
theorem s_X6_left (M : xM p l e R s m args below meth c cells slots Q D mT g cI cZ A 3 cX6_left RX6 0 cs_X6_left L_X6_left R0) {As : List AV} {S : XS} (h : m_X6_left As S = some R0) : xG p l e R s m args below meth c cells slots Q D mT g cI cZ A 3 0 (zipN 0 As) [] S := xa_blk M (fun _ q => absurd q List.not_mem_nil) h
set_option maxRecDepth 20000 in
theorem c_X6_left {l : Launch} {D : va_G} {g : Nat → Nat} {cI cZ : ClassId} {A : Nat → Prop} (hD : ∀ S, va_D A (ww mT g cI cZ S)) : xMet l D mT g cI cZ A yX6_left (wm yX6_left cX6_left 3 0) { frames := 0, cells := 0, slots := 0, locals := 0 } 2 m_X6_left :=
  xa_met (ft := FT_X6) (pt := PT_X6) (kt := KT_X6) (cs := cs_X6_left) (L := L_X6_left) hD (by decide) (by decide) ok_X6_left fk_X6_left fa_X6 (fun p e s m args below meth c Q R0 C0 hts hN => all_get (fun _ q => absurd q List.not_mem_nil)) (fun p e s m args below meth c Q R0 As S M h => s_X6_left M h)
def L_X6_above : List CE := [(0, .iload_n 1, 1, [], 0), (1, .iload 4, 3, [], 0), (3, .if_icmp .gt 19, 6, [22], 0), (6, .iload_n 2, 7, [], 0), (7, .iload_n 3, 8, [], 0), (8, .if_icmp .lt 14, 11, [22], 0), (11, .iload 5, 13, [], 0), (13, .iload_n 0, 14, [], 0), (14, .if_icmp .le 8, 17, [22], 0), (17, .iload 5, 19, [], 0), (19, .goto 4, 22, [23], 0), (22, .iload_n 0, 23, [], 0), (23, .ireturn, 24, [0], 0)]
theorem ok_X6_above : ∀ q ∈ L_X6_above, rok cX6_above 6 0 q = true := by decide +kernel
theorem fk_X6_above : ∀ q ∈ L_X6_above, fck FT_X6 PT_X6 KT_X6 q = true := by decide +kernel
noncomputable def cs_X6_above : List CT := []
noncomputable def m_X6_above : MT := fun As S => brn mT cs_X6_above L_X6_above [] (dsp []) 15 [] 0 (zipN 0 As) [] S
theorem s_X6_above (M : xM p l e R s m args below meth c cells slots Q D mT g cI cZ A 6 cX6_above RX6 0 cs_X6_above L_X6_above R0) {As : List AV} {S : XS} (h : m_X6_above As S = some R0) : xG p l e R s m args below meth c cells slots Q D mT g cI cZ A 6 0 (zipN 0 As) [] S := xa_blk M (fun _ q => absurd q List.not_mem_nil) h
set_option maxRecDepth 20000 in
theorem c_X6_above {l : Launch} {D : va_G} {g : Nat → Nat} {cI cZ : ClassId} {A : Nat → Prop} (hD : ∀ S, va_D A (ww mT g cI cZ S)) : xMet l D mT g cI cZ A yX6_above (wm yX6_above cX6_above 6 0) { frames := 0, cells := 0, slots := 0, locals := 0 } 6 m_X6_above :=
  xa_met (ft := FT_X6) (pt := PT_X6) (kt := KT_X6) (cs := cs_X6_above) (L := L_X6_above) hD (by decide) (by decide) ok_X6_above fk_X6_above fa_X6 (fun p e s m args below meth c Q R0 C0 hts hN => all_get (fun _ q => absurd q List.not_mem_nil)) (fun p e s m args below meth c Q R0 As S M h => s_X6_above M h)
def L_X6_greatest : List CE := [(0, .bipush 18, 2, [], 18), (2, .istore 4, 4, [], 0), (4, .iconst 0, 5, [], 0), (5, .istore 5, 7, [], 0), (7, .iload 5, 9, [], 0), (9, .aload_n 0, 10, [], 0), (10, .getfield 87, 13, [6, 1], 0), (13, .if_icmp .ge 142, 16, [155], 0), (16, .iload_n 1, 17, [], 0), (17, .ifCond .le 13, 20, [30], 0), (20, .aload_n 0, 21, [], 0), (21, .getfield 16, 24, [6, 4], 0), (24, .iload 5, 26, [], 0), (26, .iaload, 27, [], 0), (27, .goto 11, 30, [38], 0), (30, .aload_n 0, 31, [], 0), (31, .getfield 13, 34, [6, 3], 0), (34, .iload 5, 36, [], 0), (36, .iaload, 37, [], 0), (37, .ineg, 38, [], 0), (38, .istore 6, 40, [], 0), (40, .aload_n 0, 41, [], 0), (41, .getfield 25, 44, [6, 7], 0), (44, .iload 5, 46, [], 0), (46, .baload, 47, [], 0), (47, .ifCond .eq 7, 50, [54], 0), (50, .iconst 5, 51, [], 5), (51, .goto 5, 54, [56], 0), (54, .bipush 6, 56, [], 6), (56, .istore 7, 58, [], 0), (58, .iload 4, 60, [], 0), (60, .aload_n 0, 61, [], 0), (61, .getfield 7, 64, [6, 2], 0), (64, .iload 5, 66, [], 0), (66, .iaload, 67, [], 0), (67, .iload 7, 69, [], 0), (69, .isub, 70, [], 0), (70, .aload_n 0, 71, [], 0), (71, .getfield 7, 74, [6, 2], 0), (74, .iload 5, 76, [], 0), (76, .iaload, 77, [], 0), (77, .iload 7, 79, [], 0), (79, .iadd, 80, [], 0), (80, .iload_n 2, 81, [], 0), (81, .iload_n 3, 82, [], 0), (82, .iload 6, 84, [], 0), (84, .aload_n 0, 85, [], 0), (85, .getfield 25, 88, [6, 7], 0), (88, .iload 5, 90, [], 0), (90, .baload, 91, [], 0), (91, .ifCond .eq 8, 94, [99], 0), (94, .bipush 8, 96, [], 8), (96, .goto 4, 99, [100], 0), (99, .iconst 4, 100, [], 4), (100, .iadd, 101, [], 0), (101, .invokestatic 132, 104, [0], 0), (104, .istore 4, 106, [], 0), (106, .aload_n 0, 107, [], 0), (107, .getfield 22, 110, [6, 6], 0), (110, .iload 5, 112, [], 0), (112, .iaload, 113, [], 0), (113, .iload_n 1, 114, [], 0), (114, .if_icmp .ne 35, 117, [149], 0), (117, .iload 4, 119, [], 0), (119, .aload_n 0, 120, [], 0), (120, .getfield 7, 123, [6, 2], 0), (123, .iload 5, 125, [], 0), (125, .iaload, 126, [], 0), (126, .iconst 1, 127, [], 1), (127, .isub, 128, [], 0), (128, .aload_n 0, 129, [], 0), (129, .getfield 7, 132, [6, 2], 0), (132, .iload 5, 134, [], 0), (134, .iaload, 135, [], 0), (135, .iconst 1, 136, [], 1), (136, .iadd, 137, [], 0), (137, .iload_n 2, 138, [], 0), (138, .iload_n 3, 139, [], 0), (139, .iload 6, 141, [], 0), (141, .bipush 28, 143, [], 28), (143, .iadd, 144, [], 0), (144, .invokestatic 132, 147, [0], 0), (147, .istore 4, 149, [], 0), (149, .iinc 5 1, 152, [], 1), (152, .goto (-145), 155, [7], 0), (155, .iconst 0, 156, [], 0), (156, .istore 5, 158, [], 0), (158, .iload 5, 160, [], 0), (160, .aload_n 0, 161, [], 0), (161, .getfield 136, 164, [6, 26], 0), (164, .if_icmp .ge 70, 167, [234], 0), (167, .aload_n 0, 168, [], 0), (168, .getfield 65, 171, [6, 23], 0), (171, .iload 5, 173, [], 0), (173, .iaload, 174, [], 0), (174, .iload_n 1, 175, [], 0), (175, .if_icmp .ne 53, 178, [228], 0), (178, .iload 4, 180, [], 0), (180, .aload_n 0, 181, [], 0), (181, .getfield 7, 184, [6, 2], 0), (184, .aload_n 0, 185, [], 0), (185, .getfield 59, 188, [6, 21], 0), (188, .iload 5, 190, [], 0), (190, .iaload, 191, [], 0), (191, .iaload, 192, [], 0), (192, .aload_n 0, 193, [], 0), (193, .getfield 7, 196, [6, 2], 0), (196, .aload_n 0, 197, [], 0), (197, .getfield 62, 200, [6, 22], 0), (200, .iload 5, 202, [], 0), (202, .iaload, 203, [], 0), (203, .iaload, 204, [], 0), (204, .iload_n 2, 205, [], 0), (205, .iload_n 3, 206, [], 0), (206, .aload_n 0, 207, [], 0), (207, .getfield 71, 210, [6, 25], 0), (210, .iload 5, 212, [], 0), (212, .iaload, 213, [], 0), (213, .aload_n 0, 214, [], 0), (214, .getfield 68, 217, [6, 24], 0), (217, .iload 5, 219, [], 0), (219, .iaload, 220, [], 0), (220, .iadd, 221, [], 0), (221, .iconst 3, 222, [], 3), (222, .iadd, 223, [], 0), (223, .invokestatic 132, 226, [0], 0), (226, .istore 4, 228, [], 0), (228, .iinc 5 1, 231, [], 1), (231, .goto (-73), 234, [158], 0), (234, .iconst 0, 235, [], 0), (235, .istore 5, 237, [], 0), (237, .iload 5, 239, [], 0), (239, .aload_n 0, 240, [], 0), (240, .getfield 90, 243, [6, 9], 0), (243, .if_icmp .ge 85, 246, [328], 0), (246, .aload_n 0, 247, [], 0), (247, .getfield 44, 250, [6, 14], 0), (250, .iload 5, 252, [], 0), (252, .baload, 253, [], 0), (253, .ifCond .ne 69, 256, [322], 0), (256, .aload_n 0, 257, [], 0), (257, .getfield 47, 260, [6, 15], 0), (260, .iload 5, 262, [], 0), (262, .baload, 263, [], 0), (263, .ifCond .eq 59, 266, [322], 0), (266, .aload_n 0, 267, [], 0), (267, .iload 5, 269, [], 0), (269, .invokevirtual 139, 272, [1], 0), (272, .iload_n 1, 273, [], 0), (273, .if_icmp .ne 49, 276, [322], 0), (276, .iload 4, 278, [], 0), (278, .aload_n 0, 279, [], 0), (279, .iload 5, 281, [], 0), (281, .invokevirtual 142, 284, [2], 0), (284, .aload_n 0, 285, [], 0), (285, .iload 5, 287, [], 0), (287, .invokevirtual 142, 290, [2], 0), (290, .aload_n 0, 291, [], 0), (291, .getfield 38, 294, [6, 12], 0), (294, .iload 5, 296, [], 0), (296, .iaload, 297, [], 0), (297, .iadd, 298, [], 0), (298, .iconst 1, 299, [], 1), (299, .isub, 300, [], 0), (300, .iload_n 2, 301, [], 0), (301, .iload_n 3, 302, [], 0), (302, .aload_n 0, 303, [], 0), (303, .getfield 50, 306, [6, 16], 0), (306, .iload 5, 308, [], 0), (308, .iaload, 309, [], 0), (309, .aload_n 0, 310, [], 0), (310, .getfield 41, 313, [6, 13], 0), (313, .iload 5, 315, [], 0), (315, .iaload, 316, [], 0), (316, .iadd, 317, [], 0), (317, .invokestatic 132, 320, [0], 0), (320, .istore 4, 322, [], 0), (322, .iinc 5 1, 325, [], 1), (325, .goto (-88), 328, [237], 0), (328, .iload 4, 330, [], 0), (330, .ireturn, 331, [0], 0)]
theorem ok_X6_greatest : ∀ q ∈ L_X6_greatest, rok cX6_greatest 8 0 q = true := by decide +kernel
theorem fk_X6_greatest : ∀ q ∈ L_X6_greatest, fck FT_X6 PT_X6 KT_X6 q = true := by decide +kernel
noncomputable def cs_X6_greatest : List CT := [(true, 132, 6, 1, 6, m_X6_above), (false, 139, 2, 1, 6, m_X6_sideOf), (false, 142, 2, 1, 6, m_X6_left)]
noncomputable def b_X6_greatest_237 : Nat → BT
  | 0 => fun _ _ _ => none
  | n + 1 => fun lv st S => brn mT cs_X6_greatest L_X6_greatest [7, 38, 100, 158, 237] (dsp [(237, [0, 1, 2, 3, 4, 5], b_X6_greatest_237 n)]) 183 [] 237 lv st S
theorem s_X6_greatest_237 (M : xM p l e R s m args below meth c cells slots Q D mT g cI cZ A 8 cX6_greatest RX6 0 cs_X6_greatest L_X6_greatest R0) : ∀ n lv st S, b_X6_greatest_237 n lv st S = some R0 → xG p l e R s m args below meth c cells slots Q D mT g cI cZ A 8 237 lv st S := by
  intro n
  induction n with
  | zero => intro lv st S h; cases h
  | succ n ih => intro lv st S h; exact xa_blk M (List.forall_mem_cons.mpr ⟨fun lv st S h => (ih) lv st S h, fun _ q => absurd q List.not_mem_nil⟩) h
noncomputable def b_X6_greatest_158 : Nat → BT
  | 0 => fun _ _ _ => none
  | n + 1 => fun lv st S => brn mT cs_X6_greatest L_X6_greatest [7, 38, 100, 158, 237] (dsp [(158, [0, 1, 2, 3, 4, 5], b_X6_greatest_158 n), (237, [0, 1, 2, 3, 4, 5], b_X6_greatest_237 fu)]) 183 [] 158 lv st S
theorem s_X6_greatest_158 (M : xM p l e R s m args below meth c cells slots Q D mT g cI cZ A 8 cX6_greatest RX6 0 cs_X6_greatest L_X6_greatest R0) : ∀ n lv st S, b_X6_greatest_158 n lv st S = some R0 → xG p l e R s m args below meth c cells slots Q D mT g cI cZ A 8 158 lv st S := by
  intro n
  induction n with
  | zero => intro lv st S h; cases h
  | succ n ih => intro lv st S h; exact xa_blk M (List.forall_mem_cons.mpr ⟨fun lv st S h => (ih) lv st S h, List.forall_mem_cons.mpr ⟨fun lv st S h => (s_X6_greatest_237 M fu) lv st S h, fun _ q => absurd q List.not_mem_nil⟩⟩) h
noncomputable def b_X6_greatest_100 (k7 : BT) : BT := fun lv st S => brn mT cs_X6_greatest L_X6_greatest [7, 38, 100, 158, 237] (dsp [(7, [0, 1, 2, 3, 4, 5], k7)]) 183 [] 100 lv st S
theorem s_X6_greatest_100 (M : xM p l e R s m args below meth c cells slots Q D mT g cI cZ A 8 cX6_greatest RX6 0 cs_X6_greatest L_X6_greatest R0) {k7 : BT} (hk7 : ∀ lv st S, k7 lv st S = some R0 → xG p l e R s m args below meth c cells slots Q D mT g cI cZ A 8 7 lv st S) : ∀ lv st S, b_X6_greatest_100 k7 lv st S = some R0 → xG p l e R s m args below meth c cells slots Q D mT g cI cZ A 8 100 lv st S := fun lv st S h => xa_blk M (List.forall_mem_cons.mpr ⟨fun lv st S h => (hk7) lv st S h, fun _ q => absurd q List.not_mem_nil⟩) h
noncomputable def b_X6_greatest_38 (k7 : BT) : BT := fun lv st S => brn mT cs_X6_greatest L_X6_greatest [7, 38, 100, 158, 237] (dsp [(100, [0, 1, 2, 3, 5, 6], b_X6_greatest_100 k7)]) 183 [] 38 lv st S
theorem s_X6_greatest_38 (M : xM p l e R s m args below meth c cells slots Q D mT g cI cZ A 8 cX6_greatest RX6 0 cs_X6_greatest L_X6_greatest R0) {k7 : BT} (hk7 : ∀ lv st S, k7 lv st S = some R0 → xG p l e R s m args below meth c cells slots Q D mT g cI cZ A 8 7 lv st S) : ∀ lv st S, b_X6_greatest_38 k7 lv st S = some R0 → xG p l e R s m args below meth c cells slots Q D mT g cI cZ A 8 38 lv st S := fun lv st S h => xa_blk M (List.forall_mem_cons.mpr ⟨fun lv st S h => (s_X6_greatest_100 M hk7) lv st S h, fun _ q => absurd q List.not_mem_nil⟩) h
noncomputable def b_X6_greatest_7 : Nat → BT
  | 0 => fun _ _ _ => none
  | n + 1 => fun lv st S => brn mT cs_X6_greatest L_X6_greatest [7, 38, 100, 158, 237] (dsp [(38, [0, 1, 2, 3, 4, 5], b_X6_greatest_38 (b_X6_greatest_7 n)), (158, [0, 1, 2, 3, 4, 5], b_X6_greatest_158 fu)]) 183 [] 7 lv st S
theorem s_X6_greatest_7 (M : xM p l e R s m args below meth c cells slots Q D mT g cI cZ A 8 cX6_greatest RX6 0 cs_X6_greatest L_X6_greatest R0) : ∀ n lv st S, b_X6_greatest_7 n lv st S = some R0 → xG p l e R s m args below meth c cells slots Q D mT g cI cZ A 8 7 lv st S := by
  intro n
  induction n with
  | zero => intro lv st S h; cases h
  | succ n ih => intro lv st S h; exact xa_blk M (List.forall_mem_cons.mpr ⟨fun lv st S h => (s_X6_greatest_38 M ih) lv st S h, List.forall_mem_cons.mpr ⟨fun lv st S h => (s_X6_greatest_158 M fu) lv st S h, fun _ q => absurd q List.not_mem_nil⟩⟩) h
noncomputable def m_X6_greatest : MT := fun As S => brn mT cs_X6_greatest L_X6_greatest [7, 38, 100, 158, 237] (dsp [(7, [0, 1, 2, 3, 4, 5], b_X6_greatest_7 fu)]) 183 [] 0 (zipN 0 As) [] S
theorem s_X6_greatest (M : xM p l e R s m args below meth c cells slots Q D mT g cI cZ A 8 cX6_greatest RX6 0 cs_X6_greatest L_X6_greatest R0) {As : List AV} {S : XS} (h : m_X6_greatest As S = some R0) : xG p l e R s m args below meth c cells slots Q D mT g cI cZ A 8 0 (zipN 0 As) [] S := xa_blk M (List.forall_mem_cons.mpr ⟨fun lv st S h => (s_X6_greatest_7 M fu) lv st S h, fun _ q => absurd q List.not_mem_nil⟩) h
set_option maxRecDepth 20000 in
theorem c_X6_greatest {l : Launch} {D : va_G} {g : Nat → Nat} {cI cZ : ClassId} {A : Nat → Prop} (hD : ∀ S, va_D A (ww mT g cI cZ S)) : xMet l D mT g cI cZ A yX6_greatest (wm yX6_greatest cX6_greatest 8 0) { frames := 2, cells := 0, slots := 0, locals := 48 } 4 m_X6_greatest :=
  xa_met (ft := FT_X6) (pt := PT_X6) (kt := KT_X6) (cs := cs_X6_greatest) (L := L_X6_greatest) hD (by decide) (by decide) ok_X6_greatest fk_X6_greatest fa_X6 (fun p e s m args below meth c Q R0 C0 hts hN => all_get (List.forall_mem_cons.mpr ⟨xcf_S C0 hts hN (c_X6_above hD) (good_S kl_X6_132 kt_X6_above kn_X6 kc_X6_above) rfl ⟨rfl, rfl⟩ (by decide +kernel) ⟨by decide, by decide⟩ ⟨Nat.zero_le _, Nat.zero_le _⟩, List.forall_mem_cons.mpr ⟨xcf_V (C := RX6) C0 hts hN (c_X6_sideOf hD) (good_V kl_X6_139 ki_X6_sideOf ks_X6_sideOf kn_X6 kc_X6_sideOf) rfl ⟨rfl, rfl⟩ rfl (by decide +kernel) ⟨by decide, by decide⟩ ⟨Nat.zero_le _, Nat.zero_le _⟩, List.forall_mem_cons.mpr ⟨xcf_V (C := RX6) C0 hts hN (c_X6_left hD) (good_V kl_X6_142 ki_X6_left ks_X6_left kn_X6 kc_X6_left) rfl ⟨rfl, rfl⟩ rfl (by decide +kernel) ⟨by decide, by decide⟩ ⟨Nat.zero_le _, Nat.zero_le _⟩, fun _ q => absurd q List.not_mem_nil⟩⟩⟩)) (fun p e s m args below meth c Q R0 As S M h => s_X6_greatest M h)
def L_X6_own : List CE := [(0, .aload_n 0, 1, [], 0), (1, .getfield 29, 4, [6, 8], 0), (4, .bipush 6, 6, [], 6), (6, .aload_n 0, 7, [], 0), (7, .getfield 35, 10, [6, 11], 0), (10, .iload_n 1, 11, [], 0), (11, .iaload, 12, [], 0), (12, .imul, 13, [], 0), (13, .iconst 3, 14, [], 3), (14, .iadd, 15, [], 0), (15, .iaload, 16, [], 0), (16, .aload_n 0, 17, [], 0), (17, .aload_n 0, 18, [], 0), (18, .iload_n 1, 19, [], 0), (19, .invokevirtual 139, 22, [0], 0), (22, .aload_n 0, 23, [], 0), (23, .iload_n 1, 24, [], 0), (24, .invokevirtual 142, 27, [1], 0), (27, .iconst 1, 28, [], 1), (28, .isub, 29, [], 0), (29, .aload_n 0, 30, [], 0), (30, .iload_n 1, 31, [], 0), (31, .invokevirtual 142, 34, [1], 0), (34, .aload_n 0, 35, [], 0), (35, .getfield 38, 38, [6, 12], 0), (38, .iload_n 1, 39, [], 0), (39, .iaload, 40, [], 0), (40, .iadd, 41, [], 0), (41, .invokevirtual 145, 44, [2], 0), (44, .iadd, 45, [], 0), (45, .ireturn, 46, [0], 0)]
theorem ok_X6_own : ∀ q ∈ L_X6_own, rok cX6_own 2 0 q = true := by decide +kernel
theorem fk_X6_own : ∀ q ∈ L_X6_own, fck FT_X6 PT_X6 KT_X6 q = true := by decide +kernel
noncomputable def cs_X6_own : List CT := [(false, 139, 2, 1, 6, m_X6_sideOf), (false, 142, 2, 1, 6, m_X6_left), (false, 145, 4, 1, 6, m_X6_greatest)]
noncomputable def m_X6_own : MT := fun As S => brn mT cs_X6_own L_X6_own [] (dsp []) 33 [] 0 (zipN 0 As) [] S
theorem s_X6_own (M : xM p l e R s m args below meth c cells slots Q D mT g cI cZ A 2 cX6_own RX6 0 cs_X6_own L_X6_own R0) {As : List AV} {S : XS} (h : m_X6_own As S = some R0) : xG p l e R s m args below meth c cells slots Q D mT g cI cZ A 2 0 (zipN 0 As) [] S := xa_blk M (fun _ q => absurd q List.not_mem_nil) h
set_option maxRecDepth 20000 in
theorem c_X6_own {l : Launch} {D : va_G} {g : Nat → Nat} {cI cZ : ClassId} {A : Nat → Prop} (hD : ∀ S, va_D A (ww mT g cI cZ S)) : xMet l D mT g cI cZ A yX6_own (wm yX6_own cX6_own 2 0) { frames := 3, cells := 0, slots := 0, locals := 75 } 2 m_X6_own :=
  xa_met (ft := FT_X6) (pt := PT_X6) (kt := KT_X6) (cs := cs_X6_own) (L := L_X6_own) hD (by decide) (by decide) ok_X6_own fk_X6_own fa_X6 (fun p e s m args below meth c Q R0 C0 hts hN => all_get (List.forall_mem_cons.mpr ⟨xcf_V (C := RX6) C0 hts hN (c_X6_sideOf hD) (good_V kl_X6_139 ki_X6_sideOf ks_X6_sideOf kn_X6 kc_X6_sideOf) rfl ⟨rfl, rfl⟩ rfl (by decide +kernel) ⟨by decide, by decide⟩ ⟨Nat.zero_le _, Nat.zero_le _⟩, List.forall_mem_cons.mpr ⟨xcf_V (C := RX6) C0 hts hN (c_X6_left hD) (good_V kl_X6_142 ki_X6_left ks_X6_left kn_X6 kc_X6_left) rfl ⟨rfl, rfl⟩ rfl (by decide +kernel) ⟨by decide, by decide⟩ ⟨Nat.zero_le _, Nat.zero_le _⟩, List.forall_mem_cons.mpr ⟨xcf_V (C := RX6) C0 hts hN (c_X6_greatest hD) (good_V kl_X6_145 ki_X6_greatest ks_X6_greatest kn_X6 kc_X6_greatest) rfl ⟨rfl, rfl⟩ rfl (by decide +kernel) ⟨by decide, by decide⟩ ⟨Nat.zero_le _, Nat.zero_le _⟩, fun _ q => absurd q List.not_mem_nil⟩⟩⟩)) (fun p e s m args below meth c Q R0 As S M h => s_X6_own M h)
def L_X6_lie : List CE := [(0, .aload_n 0, 1, [], 0), (1, .getfield 50, 4, [6, 16], 0), (4, .iload_n 1, 5, [], 0), (5, .iload_n 2, 6, [], 0), (6, .iastore, 7, [], 0), (7, .aload_n 0, 8, [], 0), (8, .getfield 53, 11, [6, 17], 0), (11, .iload_n 1, 12, [], 0), (12, .iload_n 3, 13, [], 0), (13, .bastore, 14, [], 0), (14, .aload_n 0, 15, [], 0), (15, .getfield 47, 18, [6, 15], 0), (18, .iload_n 1, 19, [], 0), (19, .iconst 1, 20, [], 1), (20, .bastore, 21, [], 0), (21, .aload_n 0, 22, [], 0), (22, .getfield 56, 25, [6, 18], 0), (25, .iload_n 1, 26, [], 0), (26, .aload_n 0, 27, [], 0), (27, .getfield 149, 30, [6, 19], 0), (30, .iastore, 31, [], 0), (31, .aload_n 0, 32, [], 0), (32, .dup, 33, [], 0), (33, .getfield 149, 36, [6, 19], 0), (36, .iconst 1, 37, [], 1), (37, .iadd, 38, [], 0), (38, .putfield 149, 41, [6, 19, 0], 0), (41, .return_, 42, [], 0)]
theorem ok_X6_lie : ∀ q ∈ L_X6_lie, rok cX6_lie 4 2 q = true := by decide +kernel
theorem fk_X6_lie : ∀ q ∈ L_X6_lie, fck FT_X6 PT_X6 KT_X6 q = true := by decide +kernel
noncomputable def cs_X6_lie : List CT := []
noncomputable def m_X6_lie : MT := fun As S => brn mT cs_X6_lie L_X6_lie [] (dsp []) 30 [] 0 (zipN 0 As) [] S
theorem s_X6_lie (M : xM p l e R s m args below meth c cells slots Q D mT g cI cZ A 4 cX6_lie RX6 2 cs_X6_lie L_X6_lie R0) {As : List AV} {S : XS} (h : m_X6_lie As S = some R0) : xG p l e R s m args below meth c cells slots Q D mT g cI cZ A 4 0 (zipN 0 As) [] S := xa_blk M (fun _ q => absurd q List.not_mem_nil) h
set_option maxRecDepth 20000 in
theorem c_X6_lie {l : Launch} {D : va_G} {g : Nat → Nat} {cI cZ : ClassId} {A : Nat → Prop} (hD : ∀ S, va_D A (ww mT g cI cZ S)) : xMet l D mT g cI cZ A yX6_lie (wm yX6_lie cX6_lie 4 2) { frames := 0, cells := 0, slots := 0, locals := 0 } 4 m_X6_lie :=
  xa_met (ft := FT_X6) (pt := PT_X6) (kt := KT_X6) (cs := cs_X6_lie) (L := L_X6_lie) hD (by decide) (by decide) ok_X6_lie fk_X6_lie fa_X6 (fun p e s m args below meth c Q R0 C0 hts hN => all_get (fun _ q => absurd q List.not_mem_nil)) (fun p e s m args below meth c Q R0 As S M h => s_X6_lie M h)
def L_X6_isAhead : List CE := [(0, .bipush 6, 2, [], 6), (2, .aload_n 0, 3, [], 0), (3, .getfield 35, 6, [6, 11], 0), (6, .iload_n 1, 7, [], 0), (7, .iaload, 8, [], 0), (8, .imul, 9, [], 0), (9, .istore_n 3, 10, [], 0), (10, .bipush 6, 12, [], 6), (12, .aload_n 0, 13, [], 0), (13, .getfield 35, 16, [6, 11], 0), (16, .iload_n 2, 17, [], 0), (17, .iaload, 18, [], 0), (18, .imul, 19, [], 0), (19, .istore 4, 21, [], 0), (21, .aload_n 0, 22, [], 0), (22, .getfield 29, 25, [6, 8], 0), (25, .iload_n 3, 26, [], 0), (26, .iconst 5, 27, [], 5), (27, .iadd, 28, [], 0), (28, .iaload, 29, [], 0), (29, .aload_n 0, 30, [], 0), (30, .getfield 29, 33, [6, 8], 0), (33, .iload 4, 35, [], 0), (35, .iconst 5, 36, [], 5), (36, .iadd, 37, [], 0), (37, .iaload, 38, [], 0), (38, .if_icmp .eq 29, 41, [67], 0), (41, .aload_n 0, 42, [], 0), (42, .getfield 29, 45, [6, 8], 0), (45, .iload_n 3, 46, [], 0), (46, .iconst 5, 47, [], 5), (47, .iadd, 48, [], 0), (48, .iaload, 49, [], 0), (49, .aload_n 0, 50, [], 0), (50, .getfield 29, 53, [6, 8], 0), (53, .iload 4, 55, [], 0), (55, .iconst 5, 56, [], 5), (56, .iadd, 57, [], 0), (57, .iaload, 58, [], 0), (58, .if_icmp .ge 7, 61, [65], 0), (61, .iconst 1, 62, [], 1), (62, .goto 4, 65, [66], 0), (65, .iconst 0, 66, [], 0), (66, .ireturn, 67, [1], 0), (67, .aload_n 0, 68, [], 0), (68, .getfield 29, 71, [6, 8], 0), (71, .iload_n 3, 72, [], 0), (72, .iaload, 73, [], 0), (73, .aload_n 0, 74, [], 0), (74, .getfield 29, 77, [6, 8], 0), (77, .iload 4, 79, [], 0), (79, .iaload, 80, [], 0), (80, .if_icmp .eq 25, 83, [105], 0), (83, .aload_n 0, 84, [], 0), (84, .getfield 29, 87, [6, 8], 0), (87, .iload_n 3, 88, [], 0), (88, .iaload, 89, [], 0), (89, .aload_n 0, 90, [], 0), (90, .getfield 29, 93, [6, 8], 0), (93, .iload 4, 95, [], 0), (95, .iaload, 96, [], 0), (96, .if_icmp .ge 7, 99, [103], 0), (99, .iconst 1, 100, [], 1), (100, .goto 4, 103, [104], 0), (103, .iconst 0, 104, [], 0), (104, .ireturn, 105, [1], 0), (105, .aload_n 0, 106, [], 0), (106, .getfield 7, 109, [6, 2], 0), (109, .aload_n 0, 110, [], 0), (110, .getfield 32, 113, [6, 10], 0), (113, .iload_n 1, 114, [], 0), (114, .iaload, 115, [], 0), (115, .iaload, 116, [], 0), (116, .istore 5, 118, [], 0), (118, .aload_n 0, 119, [], 0), (119, .getfield 7, 122, [6, 2], 0), (122, .aload_n 0, 123, [], 0), (123, .getfield 32, 126, [6, 10], 0), (126, .iload_n 2, 127, [], 0), (127, .iaload, 128, [], 0), (128, .iaload, 129, [], 0), (129, .istore 6, 131, [], 0), (131, .iload 5, 133, [], 0), (133, .iload 6, 135, [], 0), (135, .if_icmp .eq 18, 138, [153], 0), (138, .iload 5, 140, [], 0), (140, .iload 6, 142, [], 0), (142, .if_icmp .ge 7, 145, [149], 0), (145, .iconst 1, 146, [], 1), (146, .goto 17, 149, [163], 0), (149, .iconst 0, 150, [], 0), (150, .goto 13, 153, [163], 0), (153, .iload_n 1, 154, [], 0), (154, .iload_n 2, 155, [], 0), (155, .if_icmp .ge 7, 158, [162], 0), (158, .iconst 1, 159, [], 1), (159, .goto 4, 162, [163], 0), (162, .iconst 0, 163, [], 0), (163, .ireturn, 164, [1], 0)]
theorem ok_X6_isAhead : ∀ q ∈ L_X6_isAhead, rok cX6_isAhead 7 1 q = true := by decide +kernel
theorem fk_X6_isAhead : ∀ q ∈ L_X6_isAhead, fck FT_X6 PT_X6 KT_X6 q = true := by decide +kernel
noncomputable def cs_X6_isAhead : List CT := []
noncomputable def m_X6_isAhead : MT := fun As S => brn mT cs_X6_isAhead L_X6_isAhead [] (dsp []) 101 [] 0 (zipN 0 As) [] S
theorem s_X6_isAhead (M : xM p l e R s m args below meth c cells slots Q D mT g cI cZ A 7 cX6_isAhead RX6 1 cs_X6_isAhead L_X6_isAhead R0) {As : List AV} {S : XS} (h : m_X6_isAhead As S = some R0) : xG p l e R s m args below meth c cells slots Q D mT g cI cZ A 7 0 (zipN 0 As) [] S := xa_blk M (fun _ q => absurd q List.not_mem_nil) h
set_option maxRecDepth 20000 in
theorem c_X6_isAhead {l : Launch} {D : va_G} {g : Nat → Nat} {cI cZ : ClassId} {A : Nat → Prop} (hD : ∀ S, va_D A (ww mT g cI cZ S)) : xMet l D mT g cI cZ A yX6_isAhead (wm yX6_isAhead cX6_isAhead 7 1) { frames := 0, cells := 0, slots := 0, locals := 0 } 3 m_X6_isAhead :=
  xa_met (ft := FT_X6) (pt := PT_X6) (kt := KT_X6) (cs := cs_X6_isAhead) (L := L_X6_isAhead) hD (by decide) (by decide) ok_X6_isAhead fk_X6_isAhead fa_X6 (fun p e s m args below meth c Q R0 C0 hts hN => all_get (fun _ q => absurd q List.not_mem_nil)) (fun p e s m args below meth c Q R0 As S M h => s_X6_isAhead M h)
def L_X6_cover : List CE := [(0, .aload_n 0, 1, [], 0), (1, .iload_n 1, 2, [], 0), (2, .invokevirtual 142, 5, [0], 0), (5, .aload_n 0, 6, [], 0), (6, .iload_n 2, 7, [], 0), (7, .invokevirtual 142, 10, [0], 0), (10, .aload_n 0, 11, [], 0), (11, .getfield 38, 14, [6, 12], 0), (14, .iload_n 2, 15, [], 0), (15, .iaload, 16, [], 0), (16, .iadd, 17, [], 0), (17, .if_icmp .ge 27, 20, [44], 0), (20, .aload_n 0, 21, [], 0), (21, .iload_n 2, 22, [], 0), (22, .invokevirtual 142, 25, [0], 0), (25, .aload_n 0, 26, [], 0), (26, .iload_n 1, 27, [], 0), (27, .invokevirtual 142, 30, [0], 0), (30, .aload_n 0, 31, [], 0), (31, .getfield 38, 34, [6, 12], 0), (34, .iload_n 1, 35, [], 0), (35, .iaload, 36, [], 0), (36, .iadd, 37, [], 0), (37, .if_icmp .ge 7, 40, [44], 0), (40, .iconst 1, 41, [], 1), (41, .goto 4, 44, [45], 0), (44, .iconst 0, 45, [], 0), (45, .ireturn, 46, [1], 0)]
theorem ok_X6_cover : ∀ q ∈ L_X6_cover, rok cX6_cover 3 1 q = true := by decide +kernel
theorem fk_X6_cover : ∀ q ∈ L_X6_cover, fck FT_X6 PT_X6 KT_X6 q = true := by decide +kernel
noncomputable def cs_X6_cover : List CT := [(false, 142, 2, 1, 6, m_X6_left)]
noncomputable def m_X6_cover : MT := fun As S => brn mT cs_X6_cover L_X6_cover [] (dsp []) 30 [] 0 (zipN 0 As) [] S
theorem s_X6_cover (M : xM p l e R s m args below meth c cells slots Q D mT g cI cZ A 3 cX6_cover RX6 1 cs_X6_cover L_X6_cover R0) {As : List AV} {S : XS} (h : m_X6_cover As S = some R0) : xG p l e R s m args below meth c cells slots Q D mT g cI cZ A 3 0 (zipN 0 As) [] S := xa_blk M (fun _ q => absurd q List.not_mem_nil) h
set_option maxRecDepth 20000 in
theorem c_X6_cover {l : Launch} {D : va_G} {g : Nat → Nat} {cI cZ : ClassId} {A : Nat → Prop} (hD : ∀ S, va_D A (ww mT g cI cZ S)) : xMet l D mT g cI cZ A yX6_cover (wm yX6_cover cX6_cover 3 1) { frames := 1, cells := 0, slots := 0, locals := 22 } 3 m_X6_cover :=
  xa_met (ft := FT_X6) (pt := PT_X6) (kt := KT_X6) (cs := cs_X6_cover) (L := L_X6_cover) hD (by decide) (by decide) ok_X6_cover fk_X6_cover fa_X6 (fun p e s m args below meth c Q R0 C0 hts hN => all_get (List.forall_mem_cons.mpr ⟨xcf_V (C := RX6) C0 hts hN (c_X6_left hD) (good_V kl_X6_142 ki_X6_left ks_X6_left kn_X6 kc_X6_left) rfl ⟨rfl, rfl⟩ rfl (by decide +kernel) ⟨by decide, by decide⟩ ⟨Nat.zero_le _, Nat.zero_le _⟩, fun _ q => absurd q List.not_mem_nil⟩)) (fun p e s m args below meth c Q R0 As S M h => s_X6_cover M h)
def L_X6_gather : List CE := [(0, .iconst 0, 1, [], 0), (1, .istore_n 3, 2, [], 0), (2, .iconst 0, 3, [], 0), (3, .istore 4, 5, [], 0), (5, .iload 4, 7, [], 0), (7, .aload_n 0, 8, [], 0), (8, .getfield 90, 11, [6, 9], 0), (11, .if_icmp .ge 100, 14, [111], 0), (14, .aload_n 0, 15, [], 0), (15, .getfield 44, 18, [6, 14], 0), (18, .iload 4, 20, [], 0), (20, .baload, 21, [], 0), (21, .ifCond .ne 84, 24, [105], 0), (24, .aload_n 0, 25, [], 0), (25, .getfield 35, 28, [6, 11], 0), (28, .iload 4, 30, [], 0), (30, .iaload, 31, [], 0), (31, .iload_n 1, 32, [], 0), (32, .if_icmp .ne 73, 35, [105], 0), (35, .aload_n 0, 36, [], 0), (36, .iload 4, 38, [], 0), (38, .invokevirtual 139, 41, [0], 0), (41, .iload_n 2, 42, [], 0), (42, .if_icmp .ne 63, 45, [105], 0), (45, .iload_n 3, 46, [], 0), (46, .istore 5, 48, [], 0), (48, .iload 5, 50, [], 0), (50, .ifCond .le 43, 53, [93], 0), (53, .aload_n 0, 54, [], 0), (54, .iload 4, 56, [], 0), (56, .aload_n 0, 57, [], 0), (57, .getfield 80, 60, [6, 30], 0), (60, .iload 5, 62, [], 0), (62, .iconst 1, 63, [], 1), (63, .isub, 64, [], 0), (64, .iaload, 65, [], 0), (65, .invokevirtual 152, 68, [1], 0), (68, .ifCond .eq 25, 71, [93], 0), (71, .aload_n 0, 72, [], 0), (72, .getfield 80, 75, [6, 30], 0), (75, .iload 5, 77, [], 0), (77, .aload_n 0, 78, [], 0), (78, .getfield 80, 81, [6, 30], 0), (81, .iload 5, 83, [], 0), (83, .iconst 1, 84, [], 1), (84, .isub, 85, [], 0), (85, .iaload, 86, [], 0), (86, .iastore, 87, [], 0), (87, .iinc 5 (-1), 90, [], (-1)), (90, .goto (-42), 93, [48], 0), (93, .aload_n 0, 94, [], 0), (94, .getfield 80, 97, [6, 30], 0), (97, .iload 5, 99, [], 0), (99, .iload 4, 101, [], 0), (101, .iastore, 102, [], 0), (102, .iinc 3 1, 105, [], 1), (105, .iinc 4 1, 108, [], 1), (108, .goto (-103), 111, [5], 0), (111, .iload_n 3, 112, [], 0), (112, .ireturn, 113, [0], 0)]
theorem ok_X6_gather : ∀ q ∈ L_X6_gather, rok cX6_gather 6 0 q = true := by decide +kernel
theorem fk_X6_gather : ∀ q ∈ L_X6_gather, fck FT_X6 PT_X6 KT_X6 q = true := by decide +kernel
noncomputable def cs_X6_gather : List CT := [(false, 139, 2, 1, 6, m_X6_sideOf), (false, 152, 3, 1, 6, m_X6_isAhead)]
noncomputable def b_X6_gather_48 (k5 : BT) : Nat → BT
  | 0 => fun _ _ _ => none
  | n + 1 => fun lv st S => brn mT cs_X6_gather L_X6_gather [5, 48] (dsp [(5, [0, 1, 2, 3, 4], k5), (48, [0, 1, 2, 3, 4, 5], b_X6_gather_48 k5 n)]) 62 [] 48 lv st S
theorem s_X6_gather_48 (M : xM p l e R s m args below meth c cells slots Q D mT g cI cZ A 6 cX6_gather RX6 0 cs_X6_gather L_X6_gather R0) {k5 : BT} (hk5 : ∀ lv st S, k5 lv st S = some R0 → xG p l e R s m args below meth c cells slots Q D mT g cI cZ A 6 5 lv st S) : ∀ n lv st S, b_X6_gather_48 k5 n lv st S = some R0 → xG p l e R s m args below meth c cells slots Q D mT g cI cZ A 6 48 lv st S := by
  intro n
  induction n with
  | zero => intro lv st S h; cases h
  | succ n ih => intro lv st S h; exact xa_blk M (List.forall_mem_cons.mpr ⟨fun lv st S h => (hk5) lv st S h, List.forall_mem_cons.mpr ⟨fun lv st S h => (ih) lv st S h, fun _ q => absurd q List.not_mem_nil⟩⟩) h
noncomputable def b_X6_gather_5 : Nat → BT
  | 0 => fun _ _ _ => none
  | n + 1 => fun lv st S => brn mT cs_X6_gather L_X6_gather [5, 48] (dsp [(5, [0, 1, 2, 3, 4], b_X6_gather_5 n), (48, [0, 1, 2, 3, 4, 5], b_X6_gather_48 (b_X6_gather_5 n) fu)]) 62 [] 5 lv st S
theorem s_X6_gather_5 (M : xM p l e R s m args below meth c cells slots Q D mT g cI cZ A 6 cX6_gather RX6 0 cs_X6_gather L_X6_gather R0) : ∀ n lv st S, b_X6_gather_5 n lv st S = some R0 → xG p l e R s m args below meth c cells slots Q D mT g cI cZ A 6 5 lv st S := by
  intro n
  induction n with
  | zero => intro lv st S h; cases h
  | succ n ih => intro lv st S h; exact xa_blk M (List.forall_mem_cons.mpr ⟨fun lv st S h => (ih) lv st S h, List.forall_mem_cons.mpr ⟨fun lv st S h => (s_X6_gather_48 M ih fu) lv st S h, fun _ q => absurd q List.not_mem_nil⟩⟩) h
noncomputable def m_X6_gather : MT := fun As S => brn mT cs_X6_gather L_X6_gather [5, 48] (dsp [(5, [0, 1, 2, 3, 4], b_X6_gather_5 fu)]) 62 [] 0 (zipN 0 As) [] S
theorem s_X6_gather (M : xM p l e R s m args below meth c cells slots Q D mT g cI cZ A 6 cX6_gather RX6 0 cs_X6_gather L_X6_gather R0) {As : List AV} {S : XS} (h : m_X6_gather As S = some R0) : xG p l e R s m args below meth c cells slots Q D mT g cI cZ A 6 0 (zipN 0 As) [] S := xa_blk M (List.forall_mem_cons.mpr ⟨fun lv st S h => (s_X6_gather_5 M fu) lv st S h, fun _ q => absurd q List.not_mem_nil⟩) h
set_option maxRecDepth 20000 in
theorem c_X6_gather {l : Launch} {D : va_G} {g : Nat → Nat} {cI cZ : ClassId} {A : Nat → Prop} (hD : ∀ S, va_D A (ww mT g cI cZ S)) : xMet l D mT g cI cZ A yX6_gather (wm yX6_gather cX6_gather 6 0) { frames := 2, cells := 0, slots := 0, locals := 48 } 3 m_X6_gather :=
  xa_met (ft := FT_X6) (pt := PT_X6) (kt := KT_X6) (cs := cs_X6_gather) (L := L_X6_gather) hD (by decide) (by decide) ok_X6_gather fk_X6_gather fa_X6 (fun p e s m args below meth c Q R0 C0 hts hN => all_get (List.forall_mem_cons.mpr ⟨xcf_V (C := RX6) C0 hts hN (c_X6_sideOf hD) (good_V kl_X6_139 ki_X6_sideOf ks_X6_sideOf kn_X6 kc_X6_sideOf) rfl ⟨rfl, rfl⟩ rfl (by decide +kernel) ⟨by decide, by decide⟩ ⟨Nat.zero_le _, Nat.zero_le _⟩, List.forall_mem_cons.mpr ⟨xcf_V (C := RX6) C0 hts hN (c_X6_isAhead hD) (good_V kl_X6_152 ki_X6_isAhead ks_X6_isAhead kn_X6 kc_X6_isAhead) rfl ⟨rfl, rfl⟩ rfl (by decide +kernel) ⟨by decide, by decide⟩ ⟨Nat.zero_le _, Nat.zero_le _⟩, fun _ q => absurd q List.not_mem_nil⟩⟩)) (fun p e s m args below meth c Q R0 As S M h => s_X6_gather M h)
def L_X6_lieRow : List CE := [(0, .aload_n 0, 1, [], 0), (1, .iload_n 1, 2, [], 0), (2, .iload_n 2, 3, [], 0), (3, .invokevirtual 156, 6, [0], 0), (6, .istore_n 3, 7, [], 0), (7, .iload_n 3, 8, [], 0), (8, .ifCond .ne 5, 11, [13], 0), (11, .iconst 0, 12, [], 0), (12, .ireturn, 13, [0], 0), (13, .iconst 0, 14, [], 0), (14, .istore 4, 16, [], 0), (16, .iconst 0, 17, [], 0), (17, .istore 5, 19, [], 0), (19, .iload 5, 21, [], 0), (21, .iload_n 3, 22, [], 0), (22, .if_icmp .ge 126, 25, [148], 0), (25, .iconst 1, 26, [], 1), (26, .istore 6, 28, [], 0), (28, .iconst 0, 29, [], 0), (29, .istore 7, 31, [], 0), (31, .iload 7, 33, [], 0), (33, .iload 5, 35, [], 0), (35, .if_icmp .ge 55, 38, [90], 0), (38, .iload 6, 40, [], 0), (40, .aload_n 0, 41, [], 0), (41, .getfield 53, 44, [6, 17], 0), (44, .aload_n 0, 45, [], 0), (45, .getfield 80, 48, [6, 30], 0), (48, .iload 7, 50, [], 0), (50, .iaload, 51, [], 0), (51, .baload, 52, [], 0), (52, .ifCond .eq 24, 55, [76], 0), (55, .aload_n 0, 56, [], 0), (56, .aload_n 0, 57, [], 0), (57, .getfield 80, 60, [6, 30], 0), (60, .iload 5, 62, [], 0), (62, .iaload, 63, [], 0), (63, .aload_n 0, 64, [], 0), (64, .getfield 80, 67, [6, 30], 0), (67, .iload 7, 69, [], 0), (69, .iaload, 70, [], 0), (70, .invokevirtual 160, 73, [1], 0), (73, .ifCond .ne 7, 76, [80], 0), (76, .iconst 1, 77, [], 1), (77, .goto 4, 80, [81], 0), (80, .iconst 0, 81, [], 0), (81, .iand, 82, [], 0), (82, .istore 6, 84, [], 0), (84, .iinc 7 1, 87, [], 1), (87, .goto (-56), 90, [31], 0), (90, .aload_n 0, 91, [], 0), (91, .getfield 53, 94, [6, 17], 0), (94, .aload_n 0, 95, [], 0), (95, .getfield 80, 98, [6, 30], 0), (98, .iload 5, 100, [], 0), (100, .iaload, 101, [], 0), (101, .iload 6, 103, [], 0), (103, .bastore, 104, [], 0), (104, .iload 6, 106, [], 0), (106, .ifCond .eq 17, 109, [123], 0), (109, .aload_n 0, 110, [], 0), (110, .aload_n 0, 111, [], 0), (111, .getfield 80, 114, [6, 30], 0), (114, .iload 5, 116, [], 0), (116, .iaload, 117, [], 0), (117, .invokevirtual 163, 120, [2], 0), (120, .goto 4, 123, [124], 0), (123, .iconst 0, 124, [], 0), (124, .istore 7, 126, [], 0), (126, .iload 7, 128, [], 0), (128, .iload 4, 130, [], 0), (130, .if_icmp .le 8, 133, [138], 0), (133, .iload 7, 135, [], 0), (135, .goto 5, 138, [140], 0), (138, .iload 4, 140, [], 0), (140, .istore 4, 142, [], 0), (142, .iinc 5 1, 145, [], 1), (145, .goto (-126), 148, [19], 0), (148, .iconst 0, 149, [], 0), (149, .istore 5, 151, [], 0), (151, .iload 5, 153, [], 0), (153, .iload_n 3, 154, [], 0), (154, .if_icmp .ge 38, 157, [192], 0), (157, .aload_n 0, 158, [], 0), (158, .getfield 53, 161, [6, 17], 0), (161, .aload_n 0, 162, [], 0), (162, .getfield 80, 165, [6, 30], 0), (165, .iload 5, 167, [], 0), (167, .iaload, 168, [], 0), (168, .baload, 169, [], 0), (169, .ifCond .eq 17, 172, [186], 0), (172, .aload_n 0, 173, [], 0), (173, .aload_n 0, 174, [], 0), (174, .getfield 80, 177, [6, 30], 0), (177, .iload 5, 179, [], 0), (179, .iaload, 180, [], 0), (180, .iload 4, 182, [], 0), (182, .iconst 1, 183, [], 1), (183, .invokevirtual 166, 186, [3], 0), (186, .iinc 5 1, 189, [], 1), (189, .goto (-38), 192, [151], 0), (192, .iconst 2, 193, [], 2), (193, .iload_n 1, 194, [], 0), (194, .imul, 195, [], 0), (195, .iload_n 2, 196, [], 0), (196, .ifCond .le 7, 199, [203], 0), (199, .iconst 0, 200, [], 0), (200, .goto 4, 203, [204], 0), (203, .iconst 1, 204, [], 1), (204, .iadd, 205, [], 0), (205, .istore 5, 207, [], 0), (207, .aload_n 0, 208, [], 0), (208, .getfield 74, 211, [6, 27], 0), (211, .iload 5, 213, [], 0), (213, .iconst 1, 214, [], 1), (214, .bastore, 215, [], 0), (215, .aload_n 0, 216, [], 0), (216, .getfield 77, 219, [6, 28], 0), (219, .iload 5, 221, [], 0), (221, .iload 4, 223, [], 0), (223, .iastore, 224, [], 0), (224, .iconst 0, 225, [], 0), (225, .istore 6, 227, [], 0), (227, .iconst 0, 228, [], 0), (228, .istore 7, 230, [], 0), (230, .iload 7, 232, [], 0), (232, .iload_n 3, 233, [], 0), (233, .if_icmp .ge 50, 236, [283], 0), (236, .aload_n 0, 237, [], 0), (237, .getfield 53, 240, [6, 17], 0), (240, .aload_n 0, 241, [], 0), (241, .getfield 80, 244, [6, 30], 0), (244, .iload 7, 246, [], 0), (246, .iaload, 247, [], 0), (247, .baload, 248, [], 0), (248, .ifCond .ne 29, 251, [277], 0), (251, .aload_n 0, 252, [], 0), (252, .aload_n 0, 253, [], 0), (253, .getfield 80, 256, [6, 30], 0), (256, .iload 7, 258, [], 0), (258, .iaload, 259, [], 0), (259, .aload_n 0, 260, [], 0), (260, .aload_n 0, 261, [], 0), (261, .getfield 80, 264, [6, 30], 0), (264, .iload 7, 266, [], 0), (266, .iaload, 267, [], 0), (267, .invokevirtual 163, 270, [2], 0), (270, .iconst 0, 271, [], 0), (271, .invokevirtual 166, 274, [3], 0), (274, .iinc 6 1, 277, [], 1), (277, .iinc 7 1, 280, [], 1), (280, .goto (-50), 283, [230], 0), (283, .iload 6, 285, [], 0), (285, .ireturn, 286, [0], 0)]
theorem ok_X6_lieRow : ∀ q ∈ L_X6_lieRow, rok cX6_lieRow 8 0 q = true := by decide +kernel
theorem fk_X6_lieRow : ∀ q ∈ L_X6_lieRow, fck FT_X6 PT_X6 KT_X6 q = true := by decide +kernel
noncomputable def cs_X6_lieRow : List CT := [(false, 156, 3, 1, 6, m_X6_gather), (false, 160, 3, 1, 6, m_X6_cover), (false, 163, 2, 1, 6, m_X6_own), (false, 166, 4, 0, 6, m_X6_lie)]
noncomputable def b_X6_lieRow_230 : Nat → BT
  | 0 => fun _ _ _ => none
  | n + 1 => fun lv st S => brn mT cs_X6_lieRow L_X6_lieRow [19, 31, 151, 230] (dsp [(230, [0, 3, 6, 7], b_X6_lieRow_230 n)]) 156 [] 230 lv st S
theorem s_X6_lieRow_230 (M : xM p l e R s m args below meth c cells slots Q D mT g cI cZ A 8 cX6_lieRow RX6 0 cs_X6_lieRow L_X6_lieRow R0) : ∀ n lv st S, b_X6_lieRow_230 n lv st S = some R0 → xG p l e R s m args below meth c cells slots Q D mT g cI cZ A 8 230 lv st S := by
  intro n
  induction n with
  | zero => intro lv st S h; cases h
  | succ n ih => intro lv st S h; exact xa_blk M (List.forall_mem_cons.mpr ⟨fun lv st S h => (ih) lv st S h, fun _ q => absurd q List.not_mem_nil⟩) h
noncomputable def b_X6_lieRow_151 : Nat → BT
  | 0 => fun _ _ _ => none
  | n + 1 => fun lv st S => brn mT cs_X6_lieRow L_X6_lieRow [19, 31, 151, 230] (dsp [(151, [0, 1, 2, 3, 4, 5], b_X6_lieRow_151 n), (230, [0, 3, 6, 7], b_X6_lieRow_230 fu)]) 156 [] 151 lv st S
theorem s_X6_lieRow_151 (M : xM p l e R s m args below meth c cells slots Q D mT g cI cZ A 8 cX6_lieRow RX6 0 cs_X6_lieRow L_X6_lieRow R0) : ∀ n lv st S, b_X6_lieRow_151 n lv st S = some R0 → xG p l e R s m args below meth c cells slots Q D mT g cI cZ A 8 151 lv st S := by
  intro n
  induction n with
  | zero => intro lv st S h; cases h
  | succ n ih => intro lv st S h; exact xa_blk M (List.forall_mem_cons.mpr ⟨fun lv st S h => (ih) lv st S h, List.forall_mem_cons.mpr ⟨fun lv st S h => (s_X6_lieRow_230 M fu) lv st S h, fun _ q => absurd q List.not_mem_nil⟩⟩) h
noncomputable def b_X6_lieRow_31 (k19 : BT) : Nat → BT
  | 0 => fun _ _ _ => none
  | n + 1 => fun lv st S => brn mT cs_X6_lieRow L_X6_lieRow [19, 31, 151, 230] (dsp [(19, [0, 1, 2, 3, 4, 5], k19), (31, [0, 1, 2, 3, 4, 5, 6, 7], b_X6_lieRow_31 k19 n)]) 156 [] 31 lv st S
theorem s_X6_lieRow_31 (M : xM p l e R s m args below meth c cells slots Q D mT g cI cZ A 8 cX6_lieRow RX6 0 cs_X6_lieRow L_X6_lieRow R0) {k19 : BT} (hk19 : ∀ lv st S, k19 lv st S = some R0 → xG p l e R s m args below meth c cells slots Q D mT g cI cZ A 8 19 lv st S) : ∀ n lv st S, b_X6_lieRow_31 k19 n lv st S = some R0 → xG p l e R s m args below meth c cells slots Q D mT g cI cZ A 8 31 lv st S := by
  intro n
  induction n with
  | zero => intro lv st S h; cases h
  | succ n ih => intro lv st S h; exact xa_blk M (List.forall_mem_cons.mpr ⟨fun lv st S h => (hk19) lv st S h, List.forall_mem_cons.mpr ⟨fun lv st S h => (ih) lv st S h, fun _ q => absurd q List.not_mem_nil⟩⟩) h
noncomputable def b_X6_lieRow_19 : Nat → BT
  | 0 => fun _ _ _ => none
  | n + 1 => fun lv st S => brn mT cs_X6_lieRow L_X6_lieRow [19, 31, 151, 230] (dsp [(31, [0, 1, 2, 3, 4, 5, 6, 7], b_X6_lieRow_31 (b_X6_lieRow_19 n) fu), (151, [0, 1, 2, 3, 4, 5], b_X6_lieRow_151 fu)]) 156 [] 19 lv st S
theorem s_X6_lieRow_19 (M : xM p l e R s m args below meth c cells slots Q D mT g cI cZ A 8 cX6_lieRow RX6 0 cs_X6_lieRow L_X6_lieRow R0) : ∀ n lv st S, b_X6_lieRow_19 n lv st S = some R0 → xG p l e R s m args below meth c cells slots Q D mT g cI cZ A 8 19 lv st S := by
  intro n
  induction n with
  | zero => intro lv st S h; cases h
  | succ n ih => intro lv st S h; exact xa_blk M (List.forall_mem_cons.mpr ⟨fun lv st S h => (s_X6_lieRow_31 M ih fu) lv st S h, List.forall_mem_cons.mpr ⟨fun lv st S h => (s_X6_lieRow_151 M fu) lv st S h, fun _ q => absurd q List.not_mem_nil⟩⟩) h
noncomputable def m_X6_lieRow : MT := fun As S => brn mT cs_X6_lieRow L_X6_lieRow [19, 31, 151, 230] (dsp [(19, [0, 1, 2, 3, 4, 5], b_X6_lieRow_19 fu)]) 156 [] 0 (zipN 0 As) [] S
theorem s_X6_lieRow (M : xM p l e R s m args below meth c cells slots Q D mT g cI cZ A 8 cX6_lieRow RX6 0 cs_X6_lieRow L_X6_lieRow R0) {As : List AV} {S : XS} (h : m_X6_lieRow As S = some R0) : xG p l e R s m args below meth c cells slots Q D mT g cI cZ A 8 0 (zipN 0 As) [] S := xa_blk M (List.forall_mem_cons.mpr ⟨fun lv st S h => (s_X6_lieRow_19 M fu) lv st S h, fun _ q => absurd q List.not_mem_nil⟩) h
set_option maxRecDepth 20000 in
theorem c_X6_lieRow {l : Launch} {D : va_G} {g : Nat → Nat} {cI cZ : ClassId} {A : Nat → Prop} (hD : ∀ S, va_D A (ww mT g cI cZ S)) : xMet l D mT g cI cZ A yX6_lieRow (wm yX6_lieRow cX6_lieRow 8 0) { frames := 4, cells := 0, slots := 0, locals := 96 } 3 m_X6_lieRow :=
  xa_met (ft := FT_X6) (pt := PT_X6) (kt := KT_X6) (cs := cs_X6_lieRow) (L := L_X6_lieRow) hD (by decide) (by decide) ok_X6_lieRow fk_X6_lieRow fa_X6 (fun p e s m args below meth c Q R0 C0 hts hN => all_get (List.forall_mem_cons.mpr ⟨xcf_V (C := RX6) C0 hts hN (c_X6_gather hD) (good_V kl_X6_156 ki_X6_gather ks_X6_gather kn_X6 kc_X6_gather) rfl ⟨rfl, rfl⟩ rfl (by decide +kernel) ⟨by decide, by decide⟩ ⟨Nat.zero_le _, Nat.zero_le _⟩, List.forall_mem_cons.mpr ⟨xcf_V (C := RX6) C0 hts hN (c_X6_cover hD) (good_V kl_X6_160 ki_X6_cover ks_X6_cover kn_X6 kc_X6_cover) rfl ⟨rfl, rfl⟩ rfl (by decide +kernel) ⟨by decide, by decide⟩ ⟨Nat.zero_le _, Nat.zero_le _⟩, List.forall_mem_cons.mpr ⟨xcf_V (C := RX6) C0 hts hN (c_X6_own hD) (good_V kl_X6_163 ki_X6_own ks_X6_own kn_X6 kc_X6_own) rfl ⟨rfl, rfl⟩ rfl (by decide +kernel) ⟨by decide, by decide⟩ ⟨Nat.zero_le _, Nat.zero_le _⟩, List.forall_mem_cons.mpr ⟨xcf_V (C := RX6) C0 hts hN (c_X6_lie hD) (good_V kl_X6_166 ki_X6_lie ks_X6_lie kn_X6 kc_X6_lie) rfl ⟨rfl, rfl⟩ rfl (by decide +kernel) ⟨by decide, by decide⟩ ⟨Nat.zero_le _, Nat.zero_le _⟩, fun _ q => absurd q List.not_mem_nil⟩⟩⟩⟩)) (fun p e s m args below meth c Q R0 As S M h => s_X6_lieRow M h)
def L_X6_place : List CE := [(0, .aload_n 0, 1, [], 0), (1, .iconst 0, 2, [], 0), (2, .putfield 83, 5, [6, 0, 0], 0), (5, .aload_n 0, 6, [], 0), (6, .iconst 0, 7, [], 0), (7, .putfield 136, 10, [6, 26, 0], 0), (10, .aload_n 0, 11, [], 0), (11, .iconst 0, 12, [], 0), (12, .putfield 149, 15, [6, 19, 0], 0), (15, .iconst 0, 16, [], 0), (16, .istore_n 1, 17, [], 0), (17, .iload_n 1, 18, [], 0), (18, .aload_n 0, 19, [], 0), (19, .getfield 90, 22, [6, 9], 0), (22, .if_icmp .ge 23, 25, [45], 0), (25, .aload_n 0, 26, [], 0), (26, .getfield 47, 29, [6, 15], 0), (29, .iload_n 1, 30, [], 0), (30, .iconst 0, 31, [], 0), (31, .bastore, 32, [], 0), (32, .aload_n 0, 33, [], 0), (33, .getfield 53, 36, [6, 17], 0), (36, .iload_n 1, 37, [], 0), (37, .iconst 0, 38, [], 0), (38, .bastore, 39, [], 0), (39, .iinc 1 1, 42, [], 1), (42, .goto (-25), 45, [17], 0), (45, .iconst 0, 46, [], 0), (46, .istore_n 1, 47, [], 0), (47, .iload_n 1, 48, [], 0), (48, .bipush 20, 50, [], 20), (50, .if_icmp .ge 16, 53, [66], 0), (53, .aload_n 0, 54, [], 0), (54, .getfield 74, 57, [6, 27], 0), (57, .iload_n 1, 58, [], 0), (58, .iconst 0, 59, [], 0), (59, .bastore, 60, [], 0), (60, .iinc 1 1, 63, [], 1), (63, .goto (-16), 66, [47], 0), (66, .aload_n 0, 67, [], 0), (67, .getfield 136, 70, [6, 26], 0), (70, .aload_n 0, 71, [], 0), (71, .getfield 125, 74, [6, 20], 0), (74, .if_icmp .ge 68, 77, [142], 0), (77, .aload_n 0, 78, [], 0), (78, .getfield 71, 81, [6, 25], 0), (81, .aload_n 0, 82, [], 0), (82, .getfield 136, 85, [6, 26], 0), (85, .iconst 3, 86, [], 3), (86, .aload_n 0, 87, [], 0), (87, .aload_n 0, 88, [], 0), (88, .getfield 65, 91, [6, 23], 0), (91, .aload_n 0, 92, [], 0), (92, .getfield 136, 95, [6, 26], 0), (95, .iaload, 96, [], 0), (96, .aload_n 0, 97, [], 0), (97, .getfield 7, 100, [6, 2], 0), (100, .aload_n 0, 101, [], 0), (101, .getfield 59, 104, [6, 21], 0), (104, .aload_n 0, 105, [], 0), (105, .getfield 136, 108, [6, 26], 0), (108, .iaload, 109, [], 0), (109, .iaload, 110, [], 0), (110, .aload_n 0, 111, [], 0), (111, .getfield 7, 114, [6, 2], 0), (114, .aload_n 0, 115, [], 0), (115, .getfield 62, 118, [6, 22], 0), (118, .aload_n 0, 119, [], 0), (119, .getfield 136, 122, [6, 26], 0), (122, .iaload, 123, [], 0), (123, .iaload, 124, [], 0), (124, .invokevirtual 145, 127, [0], 0), (127, .iadd, 128, [], 0), (128, .iastore, 129, [], 0), (129, .aload_n 0, 130, [], 0), (130, .dup, 131, [], 0), (131, .getfield 136, 134, [6, 26], 0), (134, .iconst 1, 135, [], 1), (135, .iadd, 136, [], 0), (136, .putfield 136, 139, [6, 26, 0], 0), (139, .goto (-73), 142, [66], 0), (142, .iconst 0, 143, [], 0), (143, .istore_n 1, 144, [], 0), (144, .iconst 1, 145, [], 1), (145, .istore_n 2, 146, [], 0), (146, .iload_n 2, 147, [], 0), (147, .ifCond .eq 148, 150, [295], 0), (150, .ldc 170, 152, [], (-100003)), (152, .istore_n 3, 153, [], 0), (153, .iconst 0, 154, [], 0), (154, .istore 4, 156, [], 0), (156, .iload 4, 158, [], 0), (158, .aload_n 0, 159, [], 0), (159, .getfield 90, 162, [6, 9], 0), (162, .if_icmp .ge 48, 165, [210], 0), (165, .aload_n 0, 166, [], 0), (166, .getfield 44, 169, [6, 14], 0), (169, .iload 4, 171, [], 0), (171, .baload, 172, [], 0), (172, .ifCond .ne 32, 175, [204], 0), (175, .aload_n 0, 176, [], 0), (176, .getfield 47, 179, [6, 15], 0), (179, .iload 4, 181, [], 0), (181, .baload, 182, [], 0), (182, .ifCond .ne 22, 185, [204], 0), (185, .iload_n 3, 186, [], 0), (186, .ldc 170, 188, [], (-100003)), (188, .if_icmp .eq 13, 191, [201], 0), (191, .aload_n 0, 192, [], 0), (192, .iload 4, 194, [], 0), (194, .iload_n 3, 195, [], 0), (195, .invokevirtual 152, 198, [1], 0), (198, .ifCond .eq 6, 201, [204], 0), (201, .iload 4, 203, [], 0), (203, .istore_n 3, 204, [], 0), (204, .iinc 4 1, 207, [], 1), (207, .goto (-51), 210, [156], 0), (210, .iload_n 3, 211, [], 0), (211, .ldc 170, 213, [], (-100003)), (213, .if_icmp .eq 7, 216, [220], 0), (216, .iconst 1, 217, [], 1), (217, .goto 4, 220, [221], 0), (220, .iconst 0, 221, [], 0), (221, .istore_n 2, 222, [], 0), (222, .iload_n 2, 223, [], 0), (223, .ifCond .eq 54, 226, [277], 0), (226, .aload_n 0, 227, [], 0), (227, .getfield 29, 230, [6, 8], 0), (230, .bipush 6, 232, [], 6), (232, .aload_n 0, 233, [], 0), (233, .getfield 35, 236, [6, 11], 0), (236, .iload_n 3, 237, [], 0), (237, .iaload, 238, [], 0), (238, .imul, 239, [], 0), (239, .iconst 4, 240, [], 4), (240, .iadd, 241, [], 0), (241, .iaload, 242, [], 0), (242, .iconst 1, 243, [], 1), (243, .if_icmp .ne 34, 246, [277], 0), (246, .aload_n 0, 247, [], 0), (247, .getfield 35, 250, [6, 11], 0), (250, .iload_n 3, 251, [], 0), (251, .iaload, 252, [], 0), (252, .istore 4, 254, [], 0), (254, .iload_n 1, 255, [], 0), (255, .aload_n 0, 256, [], 0), (256, .iload 4, 258, [], 0), (258, .iconst 1, 259, [], 1), (259, .invokevirtual 171, 262, [2], 0), (262, .iadd, 263, [], 0), (263, .istore_n 1, 264, [], 0), (264, .iload_n 1, 265, [], 0), (265, .aload_n 0, 266, [], 0), (266, .iload 4, 268, [], 0), (268, .iconst (-1), 269, [], (-1)), (269, .invokevirtual 171, 272, [2], 0), (272, .iadd, 273, [], 0), (273, .istore_n 1, 274, [], 0), (274, .goto 18, 277, [292], 0), (277, .iload_n 2, 278, [], 0), (278, .ifCond .eq 14, 281, [292], 0), (281, .aload_n 0, 282, [], 0), (282, .iload_n 3, 283, [], 0), (283, .aload_n 0, 284, [], 0), (284, .iload_n 3, 285, [], 0), (285, .invokevirtual 163, 288, [3], 0), (288, .iconst 0, 289, [], 0), (289, .invokevirtual 166, 292, [4], 0), (292, .goto (-146), 295, [146], 0), (295, .aload_n 0, 296, [], 0), (296, .iconst 1, 297, [], 1), (297, .putfield 94, 300, [6, 29, 1], 0), (300, .iload_n 1, 301, [], 0), (301, .ireturn, 302, [0], 0)]
theorem ok_X6_place : ∀ q ∈ L_X6_place, rok cX6_place 5 0 q = true := by decide +kernel
theorem fk_X6_place : ∀ q ∈ L_X6_place, fck FT_X6 PT_X6 KT_X6 q = true := by decide +kernel
noncomputable def cs_X6_place : List CT := [(false, 145, 4, 1, 6, m_X6_greatest), (false, 152, 3, 1, 6, m_X6_isAhead), (false, 171, 3, 1, 6, m_X6_lieRow), (false, 163, 2, 1, 6, m_X6_own), (false, 166, 4, 0, 6, m_X6_lie)]
noncomputable def b_X6_place_221 (k146 : BT) : BT := fun lv st S => brn mT cs_X6_place L_X6_place [17, 47, 66, 146, 156, 221] (dsp [(146, [0, 1, 2], k146)]) 176 [] 221 lv st S
theorem s_X6_place_221 (M : xM p l e R s m args below meth c cells slots Q D mT g cI cZ A 5 cX6_place RX6 0 cs_X6_place L_X6_place R0) {k146 : BT} (hk146 : ∀ lv st S, k146 lv st S = some R0 → xG p l e R s m args below meth c cells slots Q D mT g cI cZ A 5 146 lv st S) : ∀ lv st S, b_X6_place_221 k146 lv st S = some R0 → xG p l e R s m args below meth c cells slots Q D mT g cI cZ A 5 221 lv st S := fun lv st S h => xa_blk M (List.forall_mem_cons.mpr ⟨fun lv st S h => (hk146) lv st S h, fun _ q => absurd q List.not_mem_nil⟩) h
noncomputable def b_X6_place_156 (k146 : BT) : Nat → BT
  | 0 => fun _ _ _ => none
  | n + 1 => fun lv st S => brn mT cs_X6_place L_X6_place [17, 47, 66, 146, 156, 221] (dsp [(156, [0, 1, 3, 4], b_X6_place_156 k146 n), (221, [0, 1, 3], b_X6_place_221 k146)]) 176 [] 156 lv st S
theorem s_X6_place_156 (M : xM p l e R s m args below meth c cells slots Q D mT g cI cZ A 5 cX6_place RX6 0 cs_X6_place L_X6_place R0) {k146 : BT} (hk146 : ∀ lv st S, k146 lv st S = some R0 → xG p l e R s m args below meth c cells slots Q D mT g cI cZ A 5 146 lv st S) : ∀ n lv st S, b_X6_place_156 k146 n lv st S = some R0 → xG p l e R s m args below meth c cells slots Q D mT g cI cZ A 5 156 lv st S := by
  intro n
  induction n with
  | zero => intro lv st S h; cases h
  | succ n ih => intro lv st S h; exact xa_blk M (List.forall_mem_cons.mpr ⟨fun lv st S h => (ih) lv st S h, List.forall_mem_cons.mpr ⟨fun lv st S h => (s_X6_place_221 M hk146) lv st S h, fun _ q => absurd q List.not_mem_nil⟩⟩) h
noncomputable def b_X6_place_146 : Nat → BT
  | 0 => fun _ _ _ => none
  | n + 1 => fun lv st S => brn mT cs_X6_place L_X6_place [17, 47, 66, 146, 156, 221] (dsp [(156, [0, 1, 3, 4], b_X6_place_156 (b_X6_place_146 n) fu)]) 176 [] 146 lv st S
theorem s_X6_place_146 (M : xM p l e R s m args below meth c cells slots Q D mT g cI cZ A 5 cX6_place RX6 0 cs_X6_place L_X6_place R0) : ∀ n lv st S, b_X6_place_146 n lv st S = some R0 → xG p l e R s m args below meth c cells slots Q D mT g cI cZ A 5 146 lv st S := by
  intro n
  induction n with
  | zero => intro lv st S h; cases h
  | succ n ih => intro lv st S h; exact xa_blk M (List.forall_mem_cons.mpr ⟨fun lv st S h => (s_X6_place_156 M ih fu) lv st S h, fun _ q => absurd q List.not_mem_nil⟩) h
noncomputable def b_X6_place_66 : Nat → BT
  | 0 => fun _ _ _ => none
  | n + 1 => fun lv st S => brn mT cs_X6_place L_X6_place [17, 47, 66, 146, 156, 221] (dsp [(66, [0], b_X6_place_66 n), (146, [0, 1, 2], b_X6_place_146 fu)]) 176 [] 66 lv st S
theorem s_X6_place_66 (M : xM p l e R s m args below meth c cells slots Q D mT g cI cZ A 5 cX6_place RX6 0 cs_X6_place L_X6_place R0) : ∀ n lv st S, b_X6_place_66 n lv st S = some R0 → xG p l e R s m args below meth c cells slots Q D mT g cI cZ A 5 66 lv st S := by
  intro n
  induction n with
  | zero => intro lv st S h; cases h
  | succ n ih => intro lv st S h; exact xa_blk M (List.forall_mem_cons.mpr ⟨fun lv st S h => (ih) lv st S h, List.forall_mem_cons.mpr ⟨fun lv st S h => (s_X6_place_146 M fu) lv st S h, fun _ q => absurd q List.not_mem_nil⟩⟩) h
noncomputable def b_X6_place_47 : Nat → BT
  | 0 => fun _ _ _ => none
  | n + 1 => fun lv st S => brn mT cs_X6_place L_X6_place [17, 47, 66, 146, 156, 221] (dsp [(47, [0, 1], b_X6_place_47 n), (66, [0], b_X6_place_66 fu)]) 176 [] 47 lv st S
theorem s_X6_place_47 (M : xM p l e R s m args below meth c cells slots Q D mT g cI cZ A 5 cX6_place RX6 0 cs_X6_place L_X6_place R0) : ∀ n lv st S, b_X6_place_47 n lv st S = some R0 → xG p l e R s m args below meth c cells slots Q D mT g cI cZ A 5 47 lv st S := by
  intro n
  induction n with
  | zero => intro lv st S h; cases h
  | succ n ih => intro lv st S h; exact xa_blk M (List.forall_mem_cons.mpr ⟨fun lv st S h => (ih) lv st S h, List.forall_mem_cons.mpr ⟨fun lv st S h => (s_X6_place_66 M fu) lv st S h, fun _ q => absurd q List.not_mem_nil⟩⟩) h
noncomputable def b_X6_place_17 : Nat → BT
  | 0 => fun _ _ _ => none
  | n + 1 => fun lv st S => brn mT cs_X6_place L_X6_place [17, 47, 66, 146, 156, 221] (dsp [(17, [0, 1], b_X6_place_17 n), (47, [0, 1], b_X6_place_47 fu)]) 176 [] 17 lv st S
theorem s_X6_place_17 (M : xM p l e R s m args below meth c cells slots Q D mT g cI cZ A 5 cX6_place RX6 0 cs_X6_place L_X6_place R0) : ∀ n lv st S, b_X6_place_17 n lv st S = some R0 → xG p l e R s m args below meth c cells slots Q D mT g cI cZ A 5 17 lv st S := by
  intro n
  induction n with
  | zero => intro lv st S h; cases h
  | succ n ih => intro lv st S h; exact xa_blk M (List.forall_mem_cons.mpr ⟨fun lv st S h => (ih) lv st S h, List.forall_mem_cons.mpr ⟨fun lv st S h => (s_X6_place_47 M fu) lv st S h, fun _ q => absurd q List.not_mem_nil⟩⟩) h
noncomputable def m_X6_place : MT := fun As S => brn mT cs_X6_place L_X6_place [17, 47, 66, 146, 156, 221] (dsp [(17, [0, 1], b_X6_place_17 fu)]) 176 [] 0 (zipN 0 As) [] S
theorem s_X6_place (M : xM p l e R s m args below meth c cells slots Q D mT g cI cZ A 5 cX6_place RX6 0 cs_X6_place L_X6_place R0) {As : List AV} {S : XS} (h : m_X6_place As S = some R0) : xG p l e R s m args below meth c cells slots Q D mT g cI cZ A 5 0 (zipN 0 As) [] S := xa_blk M (List.forall_mem_cons.mpr ⟨fun lv st S h => (s_X6_place_17 M fu) lv st S h, fun _ q => absurd q List.not_mem_nil⟩) h
set_option maxRecDepth 20000 in
theorem c_X6_place {l : Launch} {D : va_G} {g : Nat → Nat} {cI cZ : ClassId} {A : Nat → Prop} (hD : ∀ S, va_D A (ww mT g cI cZ S)) : xMet l D mT g cI cZ A yX6_place (wm yX6_place cX6_place 5 0) { frames := 5, cells := 0, slots := 0, locals := 123 } 1 m_X6_place :=
  xa_met (ft := FT_X6) (pt := PT_X6) (kt := KT_X6) (cs := cs_X6_place) (L := L_X6_place) hD (by decide) (by decide) ok_X6_place fk_X6_place fa_X6 (fun p e s m args below meth c Q R0 C0 hts hN => all_get (List.forall_mem_cons.mpr ⟨xcf_V (C := RX6) C0 hts hN (c_X6_greatest hD) (good_V kl_X6_145 ki_X6_greatest ks_X6_greatest kn_X6 kc_X6_greatest) rfl ⟨rfl, rfl⟩ rfl (by decide +kernel) ⟨by decide, by decide⟩ ⟨Nat.zero_le _, Nat.zero_le _⟩, List.forall_mem_cons.mpr ⟨xcf_V (C := RX6) C0 hts hN (c_X6_isAhead hD) (good_V kl_X6_152 ki_X6_isAhead ks_X6_isAhead kn_X6 kc_X6_isAhead) rfl ⟨rfl, rfl⟩ rfl (by decide +kernel) ⟨by decide, by decide⟩ ⟨Nat.zero_le _, Nat.zero_le _⟩, List.forall_mem_cons.mpr ⟨xcf_V (C := RX6) C0 hts hN (c_X6_lieRow hD) (good_V kl_X6_171 ki_X6_lieRow ks_X6_lieRow kn_X6 kc_X6_lieRow) rfl ⟨rfl, rfl⟩ rfl (by decide +kernel) ⟨by decide, by decide⟩ ⟨Nat.zero_le _, Nat.zero_le _⟩, List.forall_mem_cons.mpr ⟨xcf_V (C := RX6) C0 hts hN (c_X6_own hD) (good_V kl_X6_163 ki_X6_own ks_X6_own kn_X6 kc_X6_own) rfl ⟨rfl, rfl⟩ rfl (by decide +kernel) ⟨by decide, by decide⟩ ⟨Nat.zero_le _, Nat.zero_le _⟩, List.forall_mem_cons.mpr ⟨xcf_V (C := RX6) C0 hts hN (c_X6_lie hD) (good_V kl_X6_166 ki_X6_lie ks_X6_lie kn_X6 kc_X6_lie) rfl ⟨rfl, rfl⟩ rfl (by decide +kernel) ⟨by decide, by decide⟩ ⟨Nat.zero_le _, Nat.zero_le _⟩, fun _ q => absurd q List.not_mem_nil⟩⟩⟩⟩⟩)) (fun p e s m args below meth c Q R0 As S M h => s_X6_place M h)
def L_X6_throwsNow : List CE := [(0, .aload_n 0, 1, [], 0), (1, .aload_n 0, 2, [], 0), (2, .getfield 94, 5, [6, 29], 0), (5, .ifCond .eq 7, 8, [12], 0), (8, .iconst 0, 9, [], 0), (9, .goto 4, 12, [13], 0), (12, .iconst 1, 13, [], 1), (13, .putfield 83, 16, [6, 0, 0], 0), (16, .aload_n 0, 17, [], 0), (17, .getfield 94, 20, [6, 29], 0), (20, .ifCond .ne 7, 23, [27], 0), (23, .iconst 1, 24, [], 1), (24, .goto 4, 27, [28], 0), (27, .iconst 0, 28, [], 0), (28, .ireturn, 29, [1], 0)]
theorem ok_X6_throwsNow : ∀ q ∈ L_X6_throwsNow, rok cX6_throwsNow 1 1 q = true := by decide +kernel
theorem fk_X6_throwsNow : ∀ q ∈ L_X6_throwsNow, fck FT_X6 PT_X6 KT_X6 q = true := by decide +kernel
noncomputable def cs_X6_throwsNow : List CT := []
noncomputable def m_X6_throwsNow : MT := fun As S => brn mT cs_X6_throwsNow L_X6_throwsNow [] (dsp []) 17 [] 0 (zipN 0 As) [] S
theorem s_X6_throwsNow (M : xM p l e R s m args below meth c cells slots Q D mT g cI cZ A 1 cX6_throwsNow RX6 1 cs_X6_throwsNow L_X6_throwsNow R0) {As : List AV} {S : XS} (h : m_X6_throwsNow As S = some R0) : xG p l e R s m args below meth c cells slots Q D mT g cI cZ A 1 0 (zipN 0 As) [] S := xa_blk M (fun _ q => absurd q List.not_mem_nil) h
set_option maxRecDepth 20000 in
theorem c_X6_throwsNow {l : Launch} {D : va_G} {g : Nat → Nat} {cI cZ : ClassId} {A : Nat → Prop} (hD : ∀ S, va_D A (ww mT g cI cZ S)) : xMet l D mT g cI cZ A yX6_throwsNow (wm yX6_throwsNow cX6_throwsNow 1 1) { frames := 0, cells := 0, slots := 0, locals := 0 } 1 m_X6_throwsNow :=
  xa_met (ft := FT_X6) (pt := PT_X6) (kt := KT_X6) (cs := cs_X6_throwsNow) (L := L_X6_throwsNow) hD (by decide) (by decide) ok_X6_throwsNow fk_X6_throwsNow fa_X6 (fun p e s m args below meth c Q R0 C0 hts hN => all_get (fun _ q => absurd q List.not_mem_nil)) (fun p e s m args below meth c Q R0 As S M h => s_X6_throwsNow M h)
def L_X6_at : List CE := [(0, .aload_n 0, 1, [], 0), (1, .iconst 0, 2, [], 0), (2, .putfield 83, 5, [6, 0, 0], 0), (5, .aload_n 0, 6, [], 0), (6, .iload_n 1, 7, [], 0), (7, .invokevirtual 119, 10, [0], 0), (10, .ifCond .eq 13, 13, [23], 0), (13, .iload_n 2, 14, [], 0), (14, .iconst 0, 15, [], 0), (15, .bipush 6, 17, [], 6), (17, .invokestatic 99, 20, [1], 0), (20, .ifCond .ne 6, 23, [26], 0), (23, .ldc 107, 25, [], (-100001)), (25, .ireturn, 26, [0], 0), (26, .aload_n 0, 27, [], 0), (27, .invokevirtual 174, 30, [2], 0), (30, .ifCond .eq 5, 33, [35], 0), (33, .iconst 0, 34, [], 0), (34, .ireturn, 35, [0], 0), (35, .iload_n 2, 36, [], 0), (36, .tableswitch 101 0 5 #[40, 46, 59, 65, 72, 86], 76, [137, 76, 82, 95, 101, 108, 122], 0), (76, .aload_n 0, 77, [], 0), (77, .iload_n 1, 78, [], 0), (78, .invokevirtual 142, 81, [3], 0), (81, .ireturn, 82, [0], 0), (82, .aload_n 0, 83, [], 0), (83, .iload_n 1, 84, [], 0), (84, .invokevirtual 142, 87, [3], 0), (87, .aload_n 0, 88, [], 0), (88, .getfield 38, 91, [6, 12], 0), (91, .iload_n 1, 92, [], 0), (92, .iaload, 93, [], 0), (93, .iadd, 94, [], 0), (94, .ireturn, 95, [0], 0), (95, .aload_n 0, 96, [], 0), (96, .iload_n 1, 97, [], 0), (97, .invokevirtual 139, 100, [4], 0), (100, .ireturn, 101, [0], 0), (101, .aload_n 0, 102, [], 0), (102, .getfield 50, 105, [6, 16], 0), (105, .iload_n 1, 106, [], 0), (106, .iaload, 107, [], 0), (107, .ireturn, 108, [0], 0), (108, .aload_n 0, 109, [], 0), (109, .getfield 50, 112, [6, 16], 0), (112, .iload_n 1, 113, [], 0), (113, .iaload, 114, [], 0), (114, .aload_n 0, 115, [], 0), (115, .getfield 41, 118, [6, 13], 0), (118, .iload_n 1, 119, [], 0), (119, .iaload, 120, [], 0), (120, .iadd, 121, [], 0), (121, .ireturn, 122, [0], 0), (122, .aload_n 0, 123, [], 0), (123, .getfield 53, 126, [6, 17], 0), (126, .iload_n 1, 127, [], 0), (127, .baload, 128, [], 0), (128, .ifCond .eq 7, 131, [135], 0), (131, .iconst 1, 132, [], 1), (132, .goto 4, 135, [136], 0), (135, .iconst 0, 136, [], 0), (136, .ireturn, 137, [0], 0), (137, .aload_n 0, 138, [], 0), (138, .getfield 56, 141, [6, 18], 0), (141, .iload_n 1, 142, [], 0), (142, .iaload, 143, [], 0), (143, .ireturn, 144, [0], 0)]
theorem ok_X6_at : ∀ q ∈ L_X6_at, rok cX6_at 3 0 q = true := by decide +kernel
theorem fk_X6_at : ∀ q ∈ L_X6_at, fck FT_X6 PT_X6 KT_X6 q = true := by decide +kernel
noncomputable def cs_X6_at : List CT := [(false, 119, 2, 1, 6, m_X6_isMark), (true, 99, 3, 1, 6, m_X6_in), (false, 174, 1, 1, 6, m_X6_throwsNow), (false, 142, 2, 1, 6, m_X6_left), (false, 139, 2, 1, 6, m_X6_sideOf)]
noncomputable def m_X6_at : MT := fun As S => brn mT cs_X6_at L_X6_at [] (dsp []) 69 [] 0 (zipN 0 As) [] S
theorem s_X6_at (M : xM p l e R s m args below meth c cells slots Q D mT g cI cZ A 3 cX6_at RX6 0 cs_X6_at L_X6_at R0) {As : List AV} {S : XS} (h : m_X6_at As S = some R0) : xG p l e R s m args below meth c cells slots Q D mT g cI cZ A 3 0 (zipN 0 As) [] S := xa_blk M (fun _ q => absurd q List.not_mem_nil) h
set_option maxRecDepth 20000 in
theorem c_X6_at {l : Launch} {D : va_G} {g : Nat → Nat} {cI cZ : ClassId} {A : Nat → Prop} (hD : ∀ S, va_D A (ww mT g cI cZ S)) : xMet l D mT g cI cZ A yX6_at (wm yX6_at cX6_at 3 0) { frames := 2, cells := 0, slots := 0, locals := 48 } 3 m_X6_at :=
  xa_met (ft := FT_X6) (pt := PT_X6) (kt := KT_X6) (cs := cs_X6_at) (L := L_X6_at) hD (by decide) (by decide) ok_X6_at fk_X6_at fa_X6 (fun p e s m args below meth c Q R0 C0 hts hN => all_get (List.forall_mem_cons.mpr ⟨xcf_V (C := RX6) C0 hts hN (c_X6_isMark hD) (good_V kl_X6_119 ki_X6_isMark ks_X6_isMark kn_X6 kc_X6_isMark) rfl ⟨rfl, rfl⟩ rfl (by decide +kernel) ⟨by decide, by decide⟩ ⟨Nat.zero_le _, Nat.zero_le _⟩, List.forall_mem_cons.mpr ⟨xcf_S C0 hts hN (c_X6_in hD) (good_S kl_X6_99 kt_X6_in kn_X6 kc_X6_in) rfl ⟨rfl, rfl⟩ (by decide +kernel) ⟨by decide, by decide⟩ ⟨Nat.zero_le _, Nat.zero_le _⟩, List.forall_mem_cons.mpr ⟨xcf_V (C := RX6) C0 hts hN (c_X6_throwsNow hD) (good_V kl_X6_174 ki_X6_throwsNow ks_X6_throwsNow kn_X6 kc_X6_throwsNow) rfl ⟨rfl, rfl⟩ rfl (by decide +kernel) ⟨by decide, by decide⟩ ⟨Nat.zero_le _, Nat.zero_le _⟩, List.forall_mem_cons.mpr ⟨xcf_V (C := RX6) C0 hts hN (c_X6_left hD) (good_V kl_X6_142 ki_X6_left ks_X6_left kn_X6 kc_X6_left) rfl ⟨rfl, rfl⟩ rfl (by decide +kernel) ⟨by decide, by decide⟩ ⟨Nat.zero_le _, Nat.zero_le _⟩, List.forall_mem_cons.mpr ⟨xcf_V (C := RX6) C0 hts hN (c_X6_sideOf hD) (good_V kl_X6_139 ki_X6_sideOf ks_X6_sideOf kn_X6 kc_X6_sideOf) rfl ⟨rfl, rfl⟩ rfl (by decide +kernel) ⟨by decide, by decide⟩ ⟨Nat.zero_le _, Nat.zero_le _⟩, fun _ q => absurd q List.not_mem_nil⟩⟩⟩⟩⟩)) (fun p e s m args below meth c Q R0 As S M h => s_X6_at M h)
def L_X6_slurAt : List CE := [(0, .aload_n 0, 1, [], 0), (1, .iconst 0, 2, [], 0), (2, .putfield 83, 5, [6, 0, 0], 0), (5, .iload_n 1, 6, [], 0), (6, .ifCond .lt 20, 9, [26], 0), (9, .iload_n 1, 10, [], 0), (10, .aload_n 0, 11, [], 0), (11, .getfield 125, 14, [6, 20], 0), (14, .if_icmp .ge 12, 17, [26], 0), (17, .iload_n 2, 18, [], 0), (18, .iconst 0, 19, [], 0), (19, .iconst 1, 20, [], 1), (20, .invokestatic 99, 23, [0], 0), (23, .ifCond .ne 6, 26, [29], 0), (26, .ldc 107, 28, [], (-100001)), (28, .ireturn, 29, [0], 0), (29, .aload_n 0, 30, [], 0), (30, .invokevirtual 174, 33, [1], 0), (33, .ifCond .eq 5, 36, [38], 0), (36, .iconst 0, 37, [], 0), (37, .ireturn, 38, [0], 0), (38, .aload_n 0, 39, [], 0), (39, .getfield 71, 42, [6, 25], 0), (42, .iload_n 1, 43, [], 0), (43, .iaload, 44, [], 0), (44, .iload_n 2, 45, [], 0), (45, .iconst 1, 46, [], 1), (46, .if_icmp .ne 12, 49, [58], 0), (49, .aload_n 0, 50, [], 0), (50, .getfield 68, 53, [6, 24], 0), (53, .iload_n 1, 54, [], 0), (54, .iaload, 55, [], 0), (55, .goto 4, 58, [59], 0), (58, .iconst 0, 59, [], 0), (59, .iadd, 60, [], 0), (60, .ireturn, 61, [0], 0)]
theorem ok_X6_slurAt : ∀ q ∈ L_X6_slurAt, rok cX6_slurAt 3 0 q = true := by decide +kernel
theorem fk_X6_slurAt : ∀ q ∈ L_X6_slurAt, fck FT_X6 PT_X6 KT_X6 q = true := by decide +kernel
noncomputable def cs_X6_slurAt : List CT := [(true, 99, 3, 1, 6, m_X6_in), (false, 174, 1, 1, 6, m_X6_throwsNow)]
noncomputable def m_X6_slurAt : MT := fun As S => brn mT cs_X6_slurAt L_X6_slurAt [] (dsp []) 38 [] 0 (zipN 0 As) [] S
theorem s_X6_slurAt (M : xM p l e R s m args below meth c cells slots Q D mT g cI cZ A 3 cX6_slurAt RX6 0 cs_X6_slurAt L_X6_slurAt R0) {As : List AV} {S : XS} (h : m_X6_slurAt As S = some R0) : xG p l e R s m args below meth c cells slots Q D mT g cI cZ A 3 0 (zipN 0 As) [] S := xa_blk M (fun _ q => absurd q List.not_mem_nil) h
set_option maxRecDepth 20000 in
theorem c_X6_slurAt {l : Launch} {D : va_G} {g : Nat → Nat} {cI cZ : ClassId} {A : Nat → Prop} (hD : ∀ S, va_D A (ww mT g cI cZ S)) : xMet l D mT g cI cZ A yX6_slurAt (wm yX6_slurAt cX6_slurAt 3 0) { frames := 1, cells := 0, slots := 0, locals := 22 } 3 m_X6_slurAt :=
  xa_met (ft := FT_X6) (pt := PT_X6) (kt := KT_X6) (cs := cs_X6_slurAt) (L := L_X6_slurAt) hD (by decide) (by decide) ok_X6_slurAt fk_X6_slurAt fa_X6 (fun p e s m args below meth c Q R0 C0 hts hN => all_get (List.forall_mem_cons.mpr ⟨xcf_S C0 hts hN (c_X6_in hD) (good_S kl_X6_99 kt_X6_in kn_X6 kc_X6_in) rfl ⟨rfl, rfl⟩ (by decide +kernel) ⟨by decide, by decide⟩ ⟨Nat.zero_le _, Nat.zero_le _⟩, List.forall_mem_cons.mpr ⟨xcf_V (C := RX6) C0 hts hN (c_X6_throwsNow hD) (good_V kl_X6_174 ki_X6_throwsNow ks_X6_throwsNow kn_X6 kc_X6_throwsNow) rfl ⟨rfl, rfl⟩ rfl (by decide +kernel) ⟨by decide, by decide⟩ ⟨Nat.zero_le _, Nat.zero_le _⟩, fun _ q => absurd q List.not_mem_nil⟩⟩)) (fun p e s m args below meth c Q R0 As S M h => s_X6_slurAt M h)
def L_X6_skyline : List CE := [(0, .aload_n 0, 1, [], 0), (1, .iconst 0, 2, [], 0), (2, .putfield 83, 5, [6, 0, 0], 0), (5, .iload_n 1, 6, [], 0), (6, .iconst 0, 7, [], 0), (7, .ldc 177, 9, [], 101000), (9, .invokestatic 99, 12, [0], 0), (12, .ifCond .eq 10, 15, [22], 0), (15, .iload_n 2, 16, [], 0), (16, .invokestatic 122, 19, [1], 0), (19, .ifCond .ne 6, 22, [25], 0), (22, .ldc 107, 24, [], (-100001)), (24, .ireturn, 25, [0], 0), (25, .aload_n 0, 26, [], 0), (26, .invokevirtual 174, 29, [2], 0), (29, .ifCond .eq 7, 32, [36], 0), (32, .iconst 0, 33, [], 0), (33, .goto 10, 36, [43], 0), (36, .aload_n 0, 37, [], 0), (37, .iload_n 2, 38, [], 0), (38, .iload_n 1, 39, [], 0), (39, .iload_n 1, 40, [], 0), (40, .invokevirtual 145, 43, [3], 0), (43, .ireturn, 44, [0], 0)]
theorem ok_X6_skyline : ∀ q ∈ L_X6_skyline, rok cX6_skyline 3 0 q = true := by decide +kernel
theorem fk_X6_skyline : ∀ q ∈ L_X6_skyline, fck FT_X6 PT_X6 KT_X6 q = true := by decide +kernel
noncomputable def cs_X6_skyline : List CT := [(true, 99, 3, 1, 6, m_X6_in), (true, 122, 1, 1, 6, m_X6_isSide), (false, 174, 1, 1, 6, m_X6_throwsNow), (false, 145, 4, 1, 6, m_X6_greatest)]
noncomputable def m_X6_skyline : MT := fun As S => brn mT cs_X6_skyline L_X6_skyline [] (dsp []) 26 [] 0 (zipN 0 As) [] S
theorem s_X6_skyline (M : xM p l e R s m args below meth c cells slots Q D mT g cI cZ A 3 cX6_skyline RX6 0 cs_X6_skyline L_X6_skyline R0) {As : List AV} {S : XS} (h : m_X6_skyline As S = some R0) : xG p l e R s m args below meth c cells slots Q D mT g cI cZ A 3 0 (zipN 0 As) [] S := xa_blk M (fun _ q => absurd q List.not_mem_nil) h
set_option maxRecDepth 20000 in
theorem c_X6_skyline {l : Launch} {D : va_G} {g : Nat → Nat} {cI cZ : ClassId} {A : Nat → Prop} (hD : ∀ S, va_D A (ww mT g cI cZ S)) : xMet l D mT g cI cZ A yX6_skyline (wm yX6_skyline cX6_skyline 3 0) { frames := 3, cells := 0, slots := 0, locals := 75 } 3 m_X6_skyline :=
  xa_met (ft := FT_X6) (pt := PT_X6) (kt := KT_X6) (cs := cs_X6_skyline) (L := L_X6_skyline) hD (by decide) (by decide) ok_X6_skyline fk_X6_skyline fa_X6 (fun p e s m args below meth c Q R0 C0 hts hN => all_get (List.forall_mem_cons.mpr ⟨xcf_S C0 hts hN (c_X6_in hD) (good_S kl_X6_99 kt_X6_in kn_X6 kc_X6_in) rfl ⟨rfl, rfl⟩ (by decide +kernel) ⟨by decide, by decide⟩ ⟨Nat.zero_le _, Nat.zero_le _⟩, List.forall_mem_cons.mpr ⟨xcf_S C0 hts hN (c_X6_isSide hD) (good_S kl_X6_122 kt_X6_isSide kn_X6 kc_X6_isSide) rfl ⟨rfl, rfl⟩ (by decide +kernel) ⟨by decide, by decide⟩ ⟨Nat.zero_le _, Nat.zero_le _⟩, List.forall_mem_cons.mpr ⟨xcf_V (C := RX6) C0 hts hN (c_X6_throwsNow hD) (good_V kl_X6_174 ki_X6_throwsNow ks_X6_throwsNow kn_X6 kc_X6_throwsNow) rfl ⟨rfl, rfl⟩ rfl (by decide +kernel) ⟨by decide, by decide⟩ ⟨Nat.zero_le _, Nat.zero_le _⟩, List.forall_mem_cons.mpr ⟨xcf_V (C := RX6) C0 hts hN (c_X6_greatest hD) (good_V kl_X6_145 ki_X6_greatest ks_X6_greatest kn_X6 kc_X6_greatest) rfl ⟨rfl, rfl⟩ rfl (by decide +kernel) ⟨by decide, by decide⟩ ⟨Nat.zero_le _, Nat.zero_le _⟩, fun _ q => absurd q List.not_mem_nil⟩⟩⟩⟩)) (fun p e s m args below meth c Q R0 As S M h => s_X6_skyline M h)
def L_X6_row : List CE := [(0, .aload_n 0, 1, [], 0), (1, .iconst 0, 2, [], 0), (2, .putfield 83, 5, [6, 0, 0], 0), (5, .iload_n 1, 6, [], 0), (6, .iconst 0, 7, [], 0), (7, .bipush 9, 9, [], 9), (9, .invokestatic 99, 12, [0], 0), (12, .ifCond .eq 10, 15, [22], 0), (15, .iload_n 2, 16, [], 0), (16, .invokestatic 122, 19, [1], 0), (19, .ifCond .ne 6, 22, [25], 0), (22, .ldc 107, 24, [], (-100001)), (24, .ireturn, 25, [0], 0), (25, .aload_n 0, 26, [], 0), (26, .invokevirtual 174, 29, [2], 0), (29, .ifCond .eq 5, 32, [34], 0), (32, .iconst 0, 33, [], 0), (33, .ireturn, 34, [0], 0), (34, .iconst 2, 35, [], 2), (35, .iload_n 1, 36, [], 0), (36, .imul, 37, [], 0), (37, .iload_n 2, 38, [], 0), (38, .ifCond .le 7, 41, [45], 0), (41, .iconst 0, 42, [], 0), (42, .goto 4, 45, [46], 0), (45, .iconst 1, 46, [], 1), (46, .iadd, 47, [], 0), (47, .istore_n 3, 48, [], 0), (48, .aload_n 0, 49, [], 0), (49, .getfield 74, 52, [6, 27], 0), (52, .iload_n 3, 53, [], 0), (53, .baload, 54, [], 0), (54, .ifCond .eq 12, 57, [66], 0), (57, .aload_n 0, 58, [], 0), (58, .getfield 77, 61, [6, 28], 0), (61, .iload_n 3, 62, [], 0), (62, .iaload, 63, [], 0), (63, .goto 5, 66, [68], 0), (66, .ldc 170, 68, [], (-100003)), (68, .ireturn, 69, [0], 0)]
theorem ok_X6_row : ∀ q ∈ L_X6_row, rok cX6_row 4 0 q = true := by decide +kernel
theorem fk_X6_row : ∀ q ∈ L_X6_row, fck FT_X6 PT_X6 KT_X6 q = true := by decide +kernel
noncomputable def cs_X6_row : List CT := [(true, 99, 3, 1, 6, m_X6_in), (true, 122, 1, 1, 6, m_X6_isSide), (false, 174, 1, 1, 6, m_X6_throwsNow)]
noncomputable def m_X6_row : MT := fun As S => brn mT cs_X6_row L_X6_row [] (dsp []) 42 [] 0 (zipN 0 As) [] S
theorem s_X6_row (M : xM p l e R s m args below meth c cells slots Q D mT g cI cZ A 4 cX6_row RX6 0 cs_X6_row L_X6_row R0) {As : List AV} {S : XS} (h : m_X6_row As S = some R0) : xG p l e R s m args below meth c cells slots Q D mT g cI cZ A 4 0 (zipN 0 As) [] S := xa_blk M (fun _ q => absurd q List.not_mem_nil) h
set_option maxRecDepth 20000 in
theorem c_X6_row {l : Launch} {D : va_G} {g : Nat → Nat} {cI cZ : ClassId} {A : Nat → Prop} (hD : ∀ S, va_D A (ww mT g cI cZ S)) : xMet l D mT g cI cZ A yX6_row (wm yX6_row cX6_row 4 0) { frames := 1, cells := 0, slots := 0, locals := 22 } 3 m_X6_row :=
  xa_met (ft := FT_X6) (pt := PT_X6) (kt := KT_X6) (cs := cs_X6_row) (L := L_X6_row) hD (by decide) (by decide) ok_X6_row fk_X6_row fa_X6 (fun p e s m args below meth c Q R0 C0 hts hN => all_get (List.forall_mem_cons.mpr ⟨xcf_S C0 hts hN (c_X6_in hD) (good_S kl_X6_99 kt_X6_in kn_X6 kc_X6_in) rfl ⟨rfl, rfl⟩ (by decide +kernel) ⟨by decide, by decide⟩ ⟨Nat.zero_le _, Nat.zero_le _⟩, List.forall_mem_cons.mpr ⟨xcf_S C0 hts hN (c_X6_isSide hD) (good_S kl_X6_122 kt_X6_isSide kn_X6 kc_X6_isSide) rfl ⟨rfl, rfl⟩ (by decide +kernel) ⟨by decide, by decide⟩ ⟨Nat.zero_le _, Nat.zero_le _⟩, List.forall_mem_cons.mpr ⟨xcf_V (C := RX6) C0 hts hN (c_X6_throwsNow hD) (good_V kl_X6_174 ki_X6_throwsNow ks_X6_throwsNow kn_X6 kc_X6_throwsNow) rfl ⟨rfl, rfl⟩ rfl (by decide +kernel) ⟨by decide, by decide⟩ ⟨Nat.zero_le _, Nat.zero_le _⟩, fun _ q => absurd q List.not_mem_nil⟩⟩⟩)) (fun p e s m args below meth c Q R0 As S M h => s_X6_row M h)
def L_X6_order : List CE := [(0, .aload_n 0, 1, [], 0), (1, .iconst 0, 2, [], 0), (2, .putfield 83, 5, [6, 0, 0], 0), (5, .aload_n 0, 6, [], 0), (6, .iload_n 1, 7, [], 0), (7, .invokevirtual 112, 10, [0], 0), (10, .ifCond .eq 10, 13, [20], 0), (13, .iload_n 2, 14, [], 0), (14, .invokestatic 122, 17, [1], 0), (17, .ifCond .ne 6, 20, [23], 0), (20, .ldc 107, 22, [], (-100001)), (22, .ireturn, 23, [0], 0), (23, .aload_n 0, 24, [], 0), (24, .invokevirtual 174, 27, [2], 0), (27, .ifCond .eq 5, 30, [32], 0), (30, .iconst 0, 31, [], 0), (31, .ireturn, 32, [0], 0), (32, .iconst 0, 33, [], 0), (33, .istore 4, 35, [], 0), (35, .iload 4, 37, [], 0), (37, .aload_n 0, 38, [], 0), (38, .getfield 90, 41, [6, 9], 0), (41, .if_icmp .ge 167, 44, [208], 0), (44, .aload_n 0, 45, [], 0), (45, .getfield 44, 48, [6, 14], 0), (48, .iload 4, 50, [], 0), (50, .baload, 51, [], 0), (51, .ifCond .ne 151, 54, [202], 0), (54, .aload_n 0, 55, [], 0), (55, .getfield 32, 58, [6, 10], 0), (58, .iload 4, 60, [], 0), (60, .iaload, 61, [], 0), (61, .iload_n 1, 62, [], 0), (62, .if_icmp .ne 140, 65, [202], 0), (65, .aload_n 0, 66, [], 0), (66, .iload 4, 68, [], 0), (68, .invokevirtual 139, 71, [3], 0), (71, .iload_n 2, 72, [], 0), (72, .if_icmp .eq 6, 75, [78], 0), (75, .goto 127, 78, [202], 0), (78, .iconst 0, 79, [], 0), (79, .istore 5, 81, [], 0), (81, .iconst 0, 82, [], 0), (82, .istore 6, 84, [], 0), (84, .iload 6, 86, [], 0), (86, .aload_n 0, 87, [], 0), (87, .getfield 90, 90, [6, 9], 0), (90, .if_icmp .ge 103, 93, [193], 0), (93, .aload_n 0, 94, [], 0), (94, .getfield 44, 97, [6, 14], 0), (97, .iload 6, 99, [], 0), (99, .baload, 100, [], 0), (100, .ifCond .ne 28, 103, [128], 0), (103, .aload_n 0, 104, [], 0), (104, .getfield 32, 107, [6, 10], 0), (107, .iload 6, 109, [], 0), (109, .iaload, 110, [], 0), (110, .iload_n 1, 111, [], 0), (111, .if_icmp .ne 17, 114, [128], 0), (114, .aload_n 0, 115, [], 0), (115, .iload 6, 117, [], 0), (117, .invokevirtual 139, 120, [3], 0), (120, .iload_n 2, 121, [], 0), (121, .if_icmp .ne 7, 124, [128], 0), (124, .iconst 1, 125, [], 1), (125, .goto 4, 128, [129], 0), (128, .iconst 0, 129, [], 0), (129, .istore 7, 131, [], 0), (131, .iload 5, 133, [], 0), (133, .iload 7, 135, [], 0), (135, .ifCond .eq 48, 138, [183], 0), (138, .aload_n 0, 139, [], 0), (139, .getfield 50, 142, [6, 16], 0), (142, .iload 6, 144, [], 0), (144, .iaload, 145, [], 0), (145, .aload_n 0, 146, [], 0), (146, .getfield 50, 149, [6, 16], 0), (149, .iload 4, 151, [], 0), (151, .iaload, 152, [], 0), (152, .if_icmp .lt 27, 155, [179], 0), (155, .aload_n 0, 156, [], 0), (156, .getfield 50, 159, [6, 16], 0), (159, .iload 6, 161, [], 0), (161, .iaload, 162, [], 0), (162, .aload_n 0, 163, [], 0), (163, .getfield 50, 166, [6, 16], 0), (166, .iload 4, 168, [], 0), (168, .iaload, 169, [], 0), (169, .if_icmp .ne 14, 172, [183], 0), (172, .iload 6, 174, [], 0), (174, .iload 4, 176, [], 0), (176, .if_icmp .ge 7, 179, [183], 0), (179, .iconst 1, 180, [], 1), (180, .goto 4, 183, [184], 0), (183, .iconst 0, 184, [], 0), (184, .iadd, 185, [], 0), (185, .istore 5, 187, [], 0), (187, .iinc 6 1, 190, [], 1), (190, .goto (-106), 193, [84], 0), (193, .iload 5, 195, [], 0), (195, .iload_n 3, 196, [], 0), (196, .if_icmp .ne 6, 199, [202], 0), (199, .iload 4, 201, [], 0), (201, .ireturn, 202, [0], 0), (202, .iinc 4 1, 205, [], 1), (205, .goto (-170), 208, [35], 0), (208, .ldc 170, 210, [], (-100003)), (210, .ireturn, 211, [0], 0)]
theorem ok_X6_order : ∀ q ∈ L_X6_order, rok cX6_order 8 0 q = true := by decide +kernel
theorem fk_X6_order : ∀ q ∈ L_X6_order, fck FT_X6 PT_X6 KT_X6 q = true := by decide +kernel
noncomputable def cs_X6_order : List CT := [(false, 112, 2, 1, 6, m_X6_isItem), (true, 122, 1, 1, 6, m_X6_isSide), (false, 174, 1, 1, 6, m_X6_throwsNow), (false, 139, 2, 1, 6, m_X6_sideOf)]
noncomputable def b_X6_order_129 (k35 : BT) (k84 : BT) : BT := fun lv st S => brn mT cs_X6_order L_X6_order [35, 84, 129] (dsp [(84, [0, 1, 2, 3, 4, 5, 6], k84)]) 110 [] 129 lv st S
theorem s_X6_order_129 (M : xM p l e R s m args below meth c cells slots Q D mT g cI cZ A 8 cX6_order RX6 0 cs_X6_order L_X6_order R0) {k35 : BT} {k84 : BT} (hk35 : ∀ lv st S, k35 lv st S = some R0 → xG p l e R s m args below meth c cells slots Q D mT g cI cZ A 8 35 lv st S) (hk84 : ∀ lv st S, k84 lv st S = some R0 → xG p l e R s m args below meth c cells slots Q D mT g cI cZ A 8 84 lv st S) : ∀ lv st S, b_X6_order_129 k35 k84 lv st S = some R0 → xG p l e R s m args below meth c cells slots Q D mT g cI cZ A 8 129 lv st S := fun lv st S h => xa_blk M (List.forall_mem_cons.mpr ⟨fun lv st S h => (hk84) lv st S h, fun _ q => absurd q List.not_mem_nil⟩) h
noncomputable def b_X6_order_84 (k35 : BT) : Nat → BT
  | 0 => fun _ _ _ => none
  | n + 1 => fun lv st S => brn mT cs_X6_order L_X6_order [35, 84, 129] (dsp [(35, [0, 1, 2, 3, 4], k35), (129, [0, 1, 2, 3, 4, 5, 6], b_X6_order_129 k35 (b_X6_order_84 k35 n))]) 110 [] 84 lv st S
theorem s_X6_order_84 (M : xM p l e R s m args below meth c cells slots Q D mT g cI cZ A 8 cX6_order RX6 0 cs_X6_order L_X6_order R0) {k35 : BT} (hk35 : ∀ lv st S, k35 lv st S = some R0 → xG p l e R s m args below meth c cells slots Q D mT g cI cZ A 8 35 lv st S) : ∀ n lv st S, b_X6_order_84 k35 n lv st S = some R0 → xG p l e R s m args below meth c cells slots Q D mT g cI cZ A 8 84 lv st S := by
  intro n
  induction n with
  | zero => intro lv st S h; cases h
  | succ n ih => intro lv st S h; exact xa_blk M (List.forall_mem_cons.mpr ⟨fun lv st S h => (hk35) lv st S h, List.forall_mem_cons.mpr ⟨fun lv st S h => (s_X6_order_129 M hk35 ih) lv st S h, fun _ q => absurd q List.not_mem_nil⟩⟩) h
noncomputable def b_X6_order_35 : Nat → BT
  | 0 => fun _ _ _ => none
  | n + 1 => fun lv st S => brn mT cs_X6_order L_X6_order [35, 84, 129] (dsp [(35, [0, 1, 2, 3, 4], b_X6_order_35 n), (84, [0, 1, 2, 3, 4, 5, 6], b_X6_order_84 (b_X6_order_35 n) fu)]) 110 [] 35 lv st S
theorem s_X6_order_35 (M : xM p l e R s m args below meth c cells slots Q D mT g cI cZ A 8 cX6_order RX6 0 cs_X6_order L_X6_order R0) : ∀ n lv st S, b_X6_order_35 n lv st S = some R0 → xG p l e R s m args below meth c cells slots Q D mT g cI cZ A 8 35 lv st S := by
  intro n
  induction n with
  | zero => intro lv st S h; cases h
  | succ n ih => intro lv st S h; exact xa_blk M (List.forall_mem_cons.mpr ⟨fun lv st S h => (ih) lv st S h, List.forall_mem_cons.mpr ⟨fun lv st S h => (s_X6_order_84 M ih fu) lv st S h, fun _ q => absurd q List.not_mem_nil⟩⟩) h
noncomputable def m_X6_order : MT := fun As S => brn mT cs_X6_order L_X6_order [35, 84, 129] (dsp [(35, [0, 1, 2, 3, 4], b_X6_order_35 fu)]) 110 [] 0 (zipN 0 As) [] S
theorem s_X6_order (M : xM p l e R s m args below meth c cells slots Q D mT g cI cZ A 8 cX6_order RX6 0 cs_X6_order L_X6_order R0) {As : List AV} {S : XS} (h : m_X6_order As S = some R0) : xG p l e R s m args below meth c cells slots Q D mT g cI cZ A 8 0 (zipN 0 As) [] S := xa_blk M (List.forall_mem_cons.mpr ⟨fun lv st S h => (s_X6_order_35 M fu) lv st S h, fun _ q => absurd q List.not_mem_nil⟩) h
set_option maxRecDepth 20000 in
theorem c_X6_order {l : Launch} {D : va_G} {g : Nat → Nat} {cI cZ : ClassId} {A : Nat → Prop} (hD : ∀ S, va_D A (ww mT g cI cZ S)) : xMet l D mT g cI cZ A yX6_order (wm yX6_order cX6_order 8 0) { frames := 2, cells := 0, slots := 0, locals := 48 } 4 m_X6_order :=
  xa_met (ft := FT_X6) (pt := PT_X6) (kt := KT_X6) (cs := cs_X6_order) (L := L_X6_order) hD (by decide) (by decide) ok_X6_order fk_X6_order fa_X6 (fun p e s m args below meth c Q R0 C0 hts hN => all_get (List.forall_mem_cons.mpr ⟨xcf_V (C := RX6) C0 hts hN (c_X6_isItem hD) (good_V kl_X6_112 ki_X6_isItem ks_X6_isItem kn_X6 kc_X6_isItem) rfl ⟨rfl, rfl⟩ rfl (by decide +kernel) ⟨by decide, by decide⟩ ⟨Nat.zero_le _, Nat.zero_le _⟩, List.forall_mem_cons.mpr ⟨xcf_S C0 hts hN (c_X6_isSide hD) (good_S kl_X6_122 kt_X6_isSide kn_X6 kc_X6_isSide) rfl ⟨rfl, rfl⟩ (by decide +kernel) ⟨by decide, by decide⟩ ⟨Nat.zero_le _, Nat.zero_le _⟩, List.forall_mem_cons.mpr ⟨xcf_V (C := RX6) C0 hts hN (c_X6_throwsNow hD) (good_V kl_X6_174 ki_X6_throwsNow ks_X6_throwsNow kn_X6 kc_X6_throwsNow) rfl ⟨rfl, rfl⟩ rfl (by decide +kernel) ⟨by decide, by decide⟩ ⟨Nat.zero_le _, Nat.zero_le _⟩, List.forall_mem_cons.mpr ⟨xcf_V (C := RX6) C0 hts hN (c_X6_sideOf hD) (good_V kl_X6_139 ki_X6_sideOf ks_X6_sideOf kn_X6 kc_X6_sideOf) rfl ⟨rfl, rfl⟩ rfl (by decide +kernel) ⟨by decide, by decide⟩ ⟨Nat.zero_le _, Nat.zero_le _⟩, fun _ q => absurd q List.not_mem_nil⟩⟩⟩⟩)) (fun p e s m args below meth c Q R0 As S M h => s_X6_order M h)
def L_X6_meets : List CE := [(0, .aload_n 0, 1, [], 0), (1, .iconst 0, 2, [], 0), (2, .putfield 83, 5, [6, 0, 0], 0), (5, .aload_n 0, 6, [], 0), (6, .iload_n 1, 7, [], 0), (7, .invokevirtual 119, 10, [0], 0), (10, .ifCond .eq 16, 13, [26], 0), (13, .aload_n 0, 14, [], 0), (14, .iload_n 2, 15, [], 0), (15, .invokevirtual 119, 18, [0], 0), (18, .ifCond .eq 8, 21, [26], 0), (21, .iload_n 1, 22, [], 0), (22, .iload_n 2, 23, [], 0), (23, .if_icmp .ne 6, 26, [29], 0), (26, .ldc 107, 28, [], (-100001)), (28, .ireturn, 29, [0], 0), (29, .aload_n 0, 30, [], 0), (30, .invokevirtual 174, 33, [1], 0), (33, .ifCond .eq 5, 36, [38], 0), (36, .iconst 0, 37, [], 0), (37, .ireturn, 38, [0], 0), (38, .aload_n 0, 39, [], 0), (39, .getfield 50, 42, [6, 16], 0), (42, .iload_n 1, 43, [], 0), (43, .iaload, 44, [], 0), (44, .aload_n 0, 45, [], 0), (45, .getfield 50, 48, [6, 16], 0), (48, .iload_n 2, 49, [], 0), (49, .iaload, 50, [], 0), (50, .aload_n 0, 51, [], 0), (51, .getfield 41, 54, [6, 13], 0), (54, .iload_n 2, 55, [], 0), (55, .iaload, 56, [], 0), (56, .iadd, 57, [], 0), (57, .if_icmp .ge 29, 60, [86], 0), (60, .aload_n 0, 61, [], 0), (61, .getfield 50, 64, [6, 16], 0), (64, .iload_n 2, 65, [], 0), (65, .iaload, 66, [], 0), (66, .aload_n 0, 67, [], 0), (67, .getfield 50, 70, [6, 16], 0), (70, .iload_n 1, 71, [], 0), (71, .iaload, 72, [], 0), (72, .aload_n 0, 73, [], 0), (73, .getfield 41, 76, [6, 13], 0), (76, .iload_n 1, 77, [], 0), (77, .iaload, 78, [], 0), (78, .iadd, 79, [], 0), (79, .if_icmp .ge 7, 82, [86], 0), (82, .iconst 1, 83, [], 1), (83, .goto 4, 86, [87], 0), (86, .iconst 0, 87, [], 0), (87, .istore_n 3, 88, [], 0), (88, .aload_n 0, 89, [], 0), (89, .iload_n 1, 90, [], 0), (90, .invokevirtual 139, 93, [2], 0), (93, .aload_n 0, 94, [], 0), (94, .iload_n 2, 95, [], 0), (95, .invokevirtual 139, 98, [2], 0), (98, .if_icmp .ne 20, 101, [118], 0), (101, .aload_n 0, 102, [], 0), (102, .iload_n 1, 103, [], 0), (103, .iload_n 2, 104, [], 0), (104, .invokevirtual 160, 107, [3], 0), (107, .ifCond .eq 11, 110, [118], 0), (110, .iload_n 3, 111, [], 0), (111, .ifCond .eq 7, 114, [118], 0), (114, .iconst 1, 115, [], 1), (115, .goto 4, 118, [119], 0), (118, .iconst 0, 119, [], 0), (119, .ireturn, 120, [0], 0)]
theorem ok_X6_meets : ∀ q ∈ L_X6_meets, rok cX6_meets 4 0 q = true := by decide +kernel
theorem fk_X6_meets : ∀ q ∈ L_X6_meets, fck FT_X6 PT_X6 KT_X6 q = true := by decide +kernel
noncomputable def cs_X6_meets : List CT := [(false, 119, 2, 1, 6, m_X6_isMark), (false, 174, 1, 1, 6, m_X6_throwsNow), (false, 139, 2, 1, 6, m_X6_sideOf), (false, 160, 3, 1, 6, m_X6_cover)]
noncomputable def m_X6_meets : MT := fun As S => brn mT cs_X6_meets L_X6_meets [] (dsp []) 73 [] 0 (zipN 0 As) [] S
theorem s_X6_meets (M : xM p l e R s m args below meth c cells slots Q D mT g cI cZ A 4 cX6_meets RX6 0 cs_X6_meets L_X6_meets R0) {As : List AV} {S : XS} (h : m_X6_meets As S = some R0) : xG p l e R s m args below meth c cells slots Q D mT g cI cZ A 4 0 (zipN 0 As) [] S := xa_blk M (fun _ q => absurd q List.not_mem_nil) h
set_option maxRecDepth 20000 in
theorem c_X6_meets {l : Launch} {D : va_G} {g : Nat → Nat} {cI cZ : ClassId} {A : Nat → Prop} (hD : ∀ S, va_D A (ww mT g cI cZ S)) : xMet l D mT g cI cZ A yX6_meets (wm yX6_meets cX6_meets 4 0) { frames := 2, cells := 0, slots := 0, locals := 48 } 3 m_X6_meets :=
  xa_met (ft := FT_X6) (pt := PT_X6) (kt := KT_X6) (cs := cs_X6_meets) (L := L_X6_meets) hD (by decide) (by decide) ok_X6_meets fk_X6_meets fa_X6 (fun p e s m args below meth c Q R0 C0 hts hN => all_get (List.forall_mem_cons.mpr ⟨xcf_V (C := RX6) C0 hts hN (c_X6_isMark hD) (good_V kl_X6_119 ki_X6_isMark ks_X6_isMark kn_X6 kc_X6_isMark) rfl ⟨rfl, rfl⟩ rfl (by decide +kernel) ⟨by decide, by decide⟩ ⟨Nat.zero_le _, Nat.zero_le _⟩, List.forall_mem_cons.mpr ⟨xcf_V (C := RX6) C0 hts hN (c_X6_throwsNow hD) (good_V kl_X6_174 ki_X6_throwsNow ks_X6_throwsNow kn_X6 kc_X6_throwsNow) rfl ⟨rfl, rfl⟩ rfl (by decide +kernel) ⟨by decide, by decide⟩ ⟨Nat.zero_le _, Nat.zero_le _⟩, List.forall_mem_cons.mpr ⟨xcf_V (C := RX6) C0 hts hN (c_X6_sideOf hD) (good_V kl_X6_139 ki_X6_sideOf ks_X6_sideOf kn_X6 kc_X6_sideOf) rfl ⟨rfl, rfl⟩ rfl (by decide +kernel) ⟨by decide, by decide⟩ ⟨Nat.zero_le _, Nat.zero_le _⟩, List.forall_mem_cons.mpr ⟨xcf_V (C := RX6) C0 hts hN (c_X6_cover hD) (good_V kl_X6_160 ki_X6_cover ks_X6_cover kn_X6 kc_X6_cover) rfl ⟨rfl, rfl⟩ rfl (by decide +kernel) ⟨by decide, by decide⟩ ⟨Nat.zero_le _, Nat.zero_le _⟩, fun _ q => absurd q List.not_mem_nil⟩⟩⟩⟩)) (fun p e s m args below meth c Q R0 As S M h => s_X6_meets M h)
def L_X6_nextOf : List CE := [(0, .ldc 170, 2, [], (-100003)), (2, .istore_n 2, 3, [], 0), (3, .iconst 0, 4, [], 0), (4, .istore_n 3, 5, [], 0), (5, .iload_n 3, 6, [], 0), (6, .aload_n 0, 7, [], 0), (7, .getfield 87, 10, [6, 1], 0), (10, .if_icmp .ge 47, 13, [57], 0), (13, .aload_n 0, 14, [], 0), (14, .getfield 7, 17, [6, 2], 0), (17, .iload_n 3, 18, [], 0), (18, .iaload, 19, [], 0), (19, .aload_n 0, 20, [], 0), (20, .getfield 7, 23, [6, 2], 0), (23, .iload_n 1, 24, [], 0), (24, .iaload, 25, [], 0), (25, .if_icmp .le 26, 28, [51], 0), (28, .iload_n 2, 29, [], 0), (29, .ldc 170, 31, [], (-100003)), (31, .if_icmp .eq 18, 34, [49], 0), (34, .aload_n 0, 35, [], 0), (35, .getfield 7, 38, [6, 2], 0), (38, .iload_n 3, 39, [], 0), (39, .iaload, 40, [], 0), (40, .aload_n 0, 41, [], 0), (41, .getfield 7, 44, [6, 2], 0), (44, .iload_n 2, 45, [], 0), (45, .iaload, 46, [], 0), (46, .if_icmp .ge 5, 49, [51], 0), (49, .iload_n 3, 50, [], 0), (50, .istore_n 2, 51, [], 0), (51, .iinc 3 1, 54, [], 1), (54, .goto (-49), 57, [5], 0), (57, .iload_n 2, 58, [], 0), (58, .ireturn, 59, [0], 0)]
theorem ok_X6_nextOf : ∀ q ∈ L_X6_nextOf, rok cX6_nextOf 4 0 q = true := by decide +kernel
theorem fk_X6_nextOf : ∀ q ∈ L_X6_nextOf, fck FT_X6 PT_X6 KT_X6 q = true := by decide +kernel
noncomputable def cs_X6_nextOf : List CT := []
noncomputable def b_X6_nextOf_5 : Nat → BT
  | 0 => fun _ _ _ => none
  | n + 1 => fun lv st S => brn mT cs_X6_nextOf L_X6_nextOf [5] (dsp [(5, [0, 1, 2, 3], b_X6_nextOf_5 n)]) 37 [] 5 lv st S
theorem s_X6_nextOf_5 (M : xM p l e R s m args below meth c cells slots Q D mT g cI cZ A 4 cX6_nextOf RX6 0 cs_X6_nextOf L_X6_nextOf R0) : ∀ n lv st S, b_X6_nextOf_5 n lv st S = some R0 → xG p l e R s m args below meth c cells slots Q D mT g cI cZ A 4 5 lv st S := by
  intro n
  induction n with
  | zero => intro lv st S h; cases h
  | succ n ih => intro lv st S h; exact xa_blk M (List.forall_mem_cons.mpr ⟨fun lv st S h => (ih) lv st S h, fun _ q => absurd q List.not_mem_nil⟩) h
noncomputable def m_X6_nextOf : MT := fun As S => brn mT cs_X6_nextOf L_X6_nextOf [5] (dsp [(5, [0, 1, 2, 3], b_X6_nextOf_5 fu)]) 37 [] 0 (zipN 0 As) [] S
theorem s_X6_nextOf (M : xM p l e R s m args below meth c cells slots Q D mT g cI cZ A 4 cX6_nextOf RX6 0 cs_X6_nextOf L_X6_nextOf R0) {As : List AV} {S : XS} (h : m_X6_nextOf As S = some R0) : xG p l e R s m args below meth c cells slots Q D mT g cI cZ A 4 0 (zipN 0 As) [] S := xa_blk M (List.forall_mem_cons.mpr ⟨fun lv st S h => (s_X6_nextOf_5 M fu) lv st S h, fun _ q => absurd q List.not_mem_nil⟩) h
set_option maxRecDepth 20000 in
theorem c_X6_nextOf {l : Launch} {D : va_G} {g : Nat → Nat} {cI cZ : ClassId} {A : Nat → Prop} (hD : ∀ S, va_D A (ww mT g cI cZ S)) : xMet l D mT g cI cZ A yX6_nextOf (wm yX6_nextOf cX6_nextOf 4 0) { frames := 0, cells := 0, slots := 0, locals := 0 } 2 m_X6_nextOf :=
  xa_met (ft := FT_X6) (pt := PT_X6) (kt := KT_X6) (cs := cs_X6_nextOf) (L := L_X6_nextOf) hD (by decide) (by decide) ok_X6_nextOf fk_X6_nextOf fa_X6 (fun p e s m args below meth c Q R0 C0 hts hN => all_get (fun _ q => absurd q List.not_mem_nil)) (fun p e s m args below meth c Q R0 As S M h => s_X6_nextOf M h)
def L_X6_lacks : List CE := [(0, .aload_n 0, 1, [], 0), (1, .aload_n 0, 2, [], 0), (2, .getfield 32, 5, [6, 10], 0), (5, .iload_n 1, 6, [], 0), (6, .iaload, 7, [], 0), (7, .invokevirtual 178, 10, [0], 0), (10, .istore_n 2, 11, [], 0), (11, .aload_n 0, 12, [], 0), (12, .getfield 29, 15, [6, 8], 0), (15, .bipush 6, 17, [], 6), (17, .aload_n 0, 18, [], 0), (18, .getfield 35, 21, [6, 11], 0), (21, .iload_n 1, 22, [], 0), (22, .iaload, 23, [], 0), (23, .imul, 24, [], 0), (24, .iconst 2, 25, [], 2), (25, .iadd, 26, [], 0), (26, .iaload, 27, [], 0), (27, .ifCond .eq 9, 30, [36], 0), (30, .iload_n 2, 31, [], 0), (31, .ldc 170, 33, [], (-100003)), (33, .if_icmp .ne 5, 36, [38], 0), (36, .iconst 0, 37, [], 0), (37, .ireturn, 38, [0], 0), (38, .aload_n 0, 39, [], 0), (39, .iload_n 1, 40, [], 0), (40, .invokevirtual 142, 43, [1], 0), (43, .aload_n 0, 44, [], 0), (44, .getfield 38, 47, [6, 12], 0), (47, .iload_n 1, 48, [], 0), (48, .iaload, 49, [], 0), (49, .iadd, 50, [], 0), (50, .iconst 4, 51, [], 4), (51, .iadd, 52, [], 0), (52, .aload_n 0, 53, [], 0), (53, .getfield 7, 56, [6, 2], 0), (56, .iload_n 2, 57, [], 0), (57, .iaload, 58, [], 0), (58, .isub, 59, [], 0), (59, .istore_n 3, 60, [], 0), (60, .iload_n 3, 61, [], 0), (61, .ifCond .le 7, 64, [68], 0), (64, .iload_n 3, 65, [], 0), (65, .goto 4, 68, [69], 0), (68, .iconst 0, 69, [], 0), (69, .ireturn, 70, [0], 0)]
theorem ok_X6_lacks : ∀ q ∈ L_X6_lacks, rok cX6_lacks 4 0 q = true := by decide +kernel
theorem fk_X6_lacks : ∀ q ∈ L_X6_lacks, fck FT_X6 PT_X6 KT_X6 q = true := by decide +kernel
noncomputable def cs_X6_lacks : List CT := [(false, 178, 2, 1, 6, m_X6_nextOf), (false, 142, 2, 1, 6, m_X6_left)]
noncomputable def m_X6_lacks : MT := fun As S => brn mT cs_X6_lacks L_X6_lacks [] (dsp []) 48 [] 0 (zipN 0 As) [] S
theorem s_X6_lacks (M : xM p l e R s m args below meth c cells slots Q D mT g cI cZ A 4 cX6_lacks RX6 0 cs_X6_lacks L_X6_lacks R0) {As : List AV} {S : XS} (h : m_X6_lacks As S = some R0) : xG p l e R s m args below meth c cells slots Q D mT g cI cZ A 4 0 (zipN 0 As) [] S := xa_blk M (fun _ q => absurd q List.not_mem_nil) h
set_option maxRecDepth 20000 in
theorem c_X6_lacks {l : Launch} {D : va_G} {g : Nat → Nat} {cI cZ : ClassId} {A : Nat → Prop} (hD : ∀ S, va_D A (ww mT g cI cZ S)) : xMet l D mT g cI cZ A yX6_lacks (wm yX6_lacks cX6_lacks 4 0) { frames := 1, cells := 0, slots := 0, locals := 23 } 2 m_X6_lacks :=
  xa_met (ft := FT_X6) (pt := PT_X6) (kt := KT_X6) (cs := cs_X6_lacks) (L := L_X6_lacks) hD (by decide) (by decide) ok_X6_lacks fk_X6_lacks fa_X6 (fun p e s m args below meth c Q R0 C0 hts hN => all_get (List.forall_mem_cons.mpr ⟨xcf_V (C := RX6) C0 hts hN (c_X6_nextOf hD) (good_V kl_X6_178 ki_X6_nextOf ks_X6_nextOf kn_X6 kc_X6_nextOf) rfl ⟨rfl, rfl⟩ rfl (by decide +kernel) ⟨by decide, by decide⟩ ⟨Nat.zero_le _, Nat.zero_le _⟩, List.forall_mem_cons.mpr ⟨xcf_V (C := RX6) C0 hts hN (c_X6_left hD) (good_V kl_X6_142 ki_X6_left ks_X6_left kn_X6 kc_X6_left) rfl ⟨rfl, rfl⟩ rfl (by decide +kernel) ⟨by decide, by decide⟩ ⟨Nat.zero_le _, Nat.zero_le _⟩, fun _ q => absurd q List.not_mem_nil⟩⟩)) (fun p e s m args below meth c Q R0 As S M h => s_X6_lacks M h)
def L_X6_wide : List CE := [(0, .aload_n 0, 1, [], 0), (1, .iconst 0, 2, [], 0), (2, .putfield 83, 5, [6, 0, 0], 0), (5, .aload_n 0, 6, [], 0), (6, .iload_n 1, 7, [], 0), (7, .invokevirtual 119, 10, [0], 0), (10, .ifCond .eq 11, 13, [21], 0), (13, .aload_n 0, 14, [], 0), (14, .iload_n 1, 15, [], 0), (15, .invokevirtual 181, 18, [1], 0), (18, .goto 5, 21, [23], 0), (21, .ldc 107, 23, [], (-100001)), (23, .ireturn, 24, [0], 0)]
theorem ok_X6_wide : ∀ q ∈ L_X6_wide, rok cX6_wide 2 0 q = true := by decide +kernel
theorem fk_X6_wide : ∀ q ∈ L_X6_wide, fck FT_X6 PT_X6 KT_X6 q = true := by decide +kernel
noncomputable def cs_X6_wide : List CT := [(false, 119, 2, 1, 6, m_X6_isMark), (false, 181, 2, 1, 6, m_X6_lacks)]
noncomputable def m_X6_wide : MT := fun As S => brn mT cs_X6_wide L_X6_wide [] (dsp []) 15 [] 0 (zipN 0 As) [] S
theorem s_X6_wide (M : xM p l e R s m args below meth c cells slots Q D mT g cI cZ A 2 cX6_wide RX6 0 cs_X6_wide L_X6_wide R0) {As : List AV} {S : XS} (h : m_X6_wide As S = some R0) : xG p l e R s m args below meth c cells slots Q D mT g cI cZ A 2 0 (zipN 0 As) [] S := xa_blk M (fun _ q => absurd q List.not_mem_nil) h
set_option maxRecDepth 20000 in
theorem c_X6_wide {l : Launch} {D : va_G} {g : Nat → Nat} {cI cZ : ClassId} {A : Nat → Prop} (hD : ∀ S, va_D A (ww mT g cI cZ S)) : xMet l D mT g cI cZ A yX6_wide (wm yX6_wide cX6_wide 2 0) { frames := 2, cells := 0, slots := 0, locals := 46 } 2 m_X6_wide :=
  xa_met (ft := FT_X6) (pt := PT_X6) (kt := KT_X6) (cs := cs_X6_wide) (L := L_X6_wide) hD (by decide) (by decide) ok_X6_wide fk_X6_wide fa_X6 (fun p e s m args below meth c Q R0 C0 hts hN => all_get (List.forall_mem_cons.mpr ⟨xcf_V (C := RX6) C0 hts hN (c_X6_isMark hD) (good_V kl_X6_119 ki_X6_isMark ks_X6_isMark kn_X6 kc_X6_isMark) rfl ⟨rfl, rfl⟩ rfl (by decide +kernel) ⟨by decide, by decide⟩ ⟨Nat.zero_le _, Nat.zero_le _⟩, List.forall_mem_cons.mpr ⟨xcf_V (C := RX6) C0 hts hN (c_X6_lacks hD) (good_V kl_X6_181 ki_X6_lacks ks_X6_lacks kn_X6 kc_X6_lacks) rfl ⟨rfl, rfl⟩ rfl (by decide +kernel) ⟨by decide, by decide⟩ ⟨Nat.zero_le _, Nat.zero_le _⟩, fun _ q => absurd q List.not_mem_nil⟩⟩)) (fun p e s m args below meth c Q R0 As S M h => s_X6_wide M h)
def L_X6_push : List CE := [(0, .aload_n 0, 1, [], 0), (1, .iconst 0, 2, [], 0), (2, .putfield 83, 5, [6, 0, 0], 0), (5, .aload_n 0, 6, [], 0), (6, .iload_n 1, 7, [], 0), (7, .invokevirtual 119, 10, [0], 0), (10, .ifCond .ne 6, 13, [16], 0), (13, .ldc 107, 15, [], (-100001)), (15, .ireturn, 16, [0], 0), (16, .aload_n 0, 17, [], 0), (17, .iload_n 1, 18, [], 0), (18, .invokevirtual 181, 21, [1], 0), (21, .istore_n 2, 22, [], 0), (22, .iload_n 2, 23, [], 0), (23, .ifCond .ne 5, 26, [28], 0), (26, .iconst 0, 27, [], 0), (27, .ireturn, 28, [0], 0), (28, .aload_n 0, 29, [], 0), (29, .getfield 7, 32, [6, 2], 0), (32, .aload_n 0, 33, [], 0), (33, .getfield 32, 36, [6, 10], 0), (36, .iload_n 1, 37, [], 0), (37, .iaload, 38, [], 0), (38, .iaload, 39, [], 0), (39, .istore_n 3, 40, [], 0), (40, .iconst 0, 41, [], 0), (41, .istore 4, 43, [], 0), (43, .iload 4, 45, [], 0), (45, .aload_n 0, 46, [], 0), (46, .getfield 87, 49, [6, 1], 0), (49, .if_icmp .ge 37, 52, [86], 0), (52, .aload_n 0, 53, [], 0), (53, .getfield 7, 56, [6, 2], 0), (56, .iload 4, 58, [], 0), (58, .iaload, 59, [], 0), (59, .iload_n 3, 60, [], 0), (60, .if_icmp .le 20, 63, [80], 0), (63, .aload_n 0, 64, [], 0), (64, .getfield 7, 67, [6, 2], 0), (67, .iload 4, 69, [], 0), (69, .iaload, 70, [], 0), (70, .iload_n 2, 71, [], 0), (71, .iadd, 72, [], 0), (72, .ldc 98, 74, [], 100000), (74, .if_icmp .le 6, 77, [80], 0), (77, .ldc 93, 79, [], (-100002)), (79, .ireturn, 80, [0], 0), (80, .iinc 4 1, 83, [], 1), (83, .goto (-40), 86, [43], 0), (86, .iconst 0, 87, [], 0), (87, .istore 4, 89, [], 0), (89, .iload 4, 91, [], 0), (91, .aload_n 0, 92, [], 0), (92, .getfield 87, 95, [6, 1], 0), (95, .if_icmp .ge 35, 98, [130], 0), (98, .aload_n 0, 99, [], 0), (99, .getfield 7, 102, [6, 2], 0), (102, .iload 4, 104, [], 0), (104, .dup2, 105, [], 0), (105, .iaload, 106, [], 0), (106, .aload_n 0, 107, [], 0), (107, .getfield 7, 110, [6, 2], 0), (110, .iload 4, 112, [], 0), (112, .iaload, 113, [], 0), (113, .iload_n 3, 114, [], 0), (114, .if_icmp .le 7, 117, [121], 0), (117, .iload_n 2, 118, [], 0), (118, .goto 4, 121, [122], 0), (121, .iconst 0, 122, [], 0), (122, .iadd, 123, [], 0), (123, .iastore, 124, [], 0), (124, .iinc 4 1, 127, [], 1), (127, .goto (-38), 130, [89], 0), (130, .aload_n 0, 131, [], 0), (131, .iconst 0, 132, [], 0), (132, .putfield 94, 135, [6, 29, 1], 0), (135, .iload_n 2, 136, [], 0), (136, .ireturn, 137, [0], 0)]
theorem ok_X6_push : ∀ q ∈ L_X6_push, rok cX6_push 5 0 q = true := by decide +kernel
theorem fk_X6_push : ∀ q ∈ L_X6_push, fck FT_X6 PT_X6 KT_X6 q = true := by decide +kernel
noncomputable def cs_X6_push : List CT := [(false, 119, 2, 1, 6, m_X6_isMark), (false, 181, 2, 1, 6, m_X6_lacks)]
noncomputable def b_X6_push_89 : Nat → BT
  | 0 => fun _ _ _ => none
  | n + 1 => fun lv st S => brn mT cs_X6_push L_X6_push [43, 89] (dsp [(89, [0, 2, 3, 4], b_X6_push_89 n)]) 80 [] 89 lv st S
theorem s_X6_push_89 (M : xM p l e R s m args below meth c cells slots Q D mT g cI cZ A 5 cX6_push RX6 0 cs_X6_push L_X6_push R0) : ∀ n lv st S, b_X6_push_89 n lv st S = some R0 → xG p l e R s m args below meth c cells slots Q D mT g cI cZ A 5 89 lv st S := by
  intro n
  induction n with
  | zero => intro lv st S h; cases h
  | succ n ih => intro lv st S h; exact xa_blk M (List.forall_mem_cons.mpr ⟨fun lv st S h => (ih) lv st S h, fun _ q => absurd q List.not_mem_nil⟩) h
noncomputable def b_X6_push_43 : Nat → BT
  | 0 => fun _ _ _ => none
  | n + 1 => fun lv st S => brn mT cs_X6_push L_X6_push [43, 89] (dsp [(43, [0, 2, 3, 4], b_X6_push_43 n), (89, [0, 2, 3, 4], b_X6_push_89 fu)]) 80 [] 43 lv st S
theorem s_X6_push_43 (M : xM p l e R s m args below meth c cells slots Q D mT g cI cZ A 5 cX6_push RX6 0 cs_X6_push L_X6_push R0) : ∀ n lv st S, b_X6_push_43 n lv st S = some R0 → xG p l e R s m args below meth c cells slots Q D mT g cI cZ A 5 43 lv st S := by
  intro n
  induction n with
  | zero => intro lv st S h; cases h
  | succ n ih => intro lv st S h; exact xa_blk M (List.forall_mem_cons.mpr ⟨fun lv st S h => (ih) lv st S h, List.forall_mem_cons.mpr ⟨fun lv st S h => (s_X6_push_89 M fu) lv st S h, fun _ q => absurd q List.not_mem_nil⟩⟩) h
noncomputable def m_X6_push : MT := fun As S => brn mT cs_X6_push L_X6_push [43, 89] (dsp [(43, [0, 2, 3, 4], b_X6_push_43 fu)]) 80 [] 0 (zipN 0 As) [] S
theorem s_X6_push (M : xM p l e R s m args below meth c cells slots Q D mT g cI cZ A 5 cX6_push RX6 0 cs_X6_push L_X6_push R0) {As : List AV} {S : XS} (h : m_X6_push As S = some R0) : xG p l e R s m args below meth c cells slots Q D mT g cI cZ A 5 0 (zipN 0 As) [] S := xa_blk M (List.forall_mem_cons.mpr ⟨fun lv st S h => (s_X6_push_43 M fu) lv st S h, fun _ q => absurd q List.not_mem_nil⟩) h
set_option maxRecDepth 20000 in
theorem c_X6_push {l : Launch} {D : va_G} {g : Nat → Nat} {cI cZ : ClassId} {A : Nat → Prop} (hD : ∀ S, va_D A (ww mT g cI cZ S)) : xMet l D mT g cI cZ A yX6_push (wm yX6_push cX6_push 5 0) { frames := 2, cells := 0, slots := 0, locals := 46 } 2 m_X6_push :=
  xa_met (ft := FT_X6) (pt := PT_X6) (kt := KT_X6) (cs := cs_X6_push) (L := L_X6_push) hD (by decide) (by decide) ok_X6_push fk_X6_push fa_X6 (fun p e s m args below meth c Q R0 C0 hts hN => all_get (List.forall_mem_cons.mpr ⟨xcf_V (C := RX6) C0 hts hN (c_X6_isMark hD) (good_V kl_X6_119 ki_X6_isMark ks_X6_isMark kn_X6 kc_X6_isMark) rfl ⟨rfl, rfl⟩ rfl (by decide +kernel) ⟨by decide, by decide⟩ ⟨Nat.zero_le _, Nat.zero_le _⟩, List.forall_mem_cons.mpr ⟨xcf_V (C := RX6) C0 hts hN (c_X6_lacks hD) (good_V kl_X6_181 ki_X6_lacks ks_X6_lacks kn_X6 kc_X6_lacks) rfl ⟨rfl, rfl⟩ rfl (by decide +kernel) ⟨by decide, by decide⟩ ⟨Nat.zero_le _, Nat.zero_le _⟩, fun _ q => absurd q List.not_mem_nil⟩⟩)) (fun p e s m args below meth c Q R0 As S M h => s_X6_push M h)
def L_X6_marksOf : List CE := [(0, .iconst 0, 1, [], 0), (1, .istore_n 2, 2, [], 0), (2, .iconst 0, 3, [], 0), (3, .istore_n 3, 4, [], 0), (4, .iload_n 3, 5, [], 0), (5, .aload_n 0, 6, [], 0), (6, .getfield 90, 9, [6, 9], 0), (9, .if_icmp .ge 42, 12, [51], 0), (12, .iload_n 2, 13, [], 0), (13, .aload_n 0, 14, [], 0), (14, .getfield 44, 17, [6, 14], 0), (17, .iload_n 3, 18, [], 0), (18, .baload, 19, [], 0), (19, .ifCond .ne 23, 22, [42], 0), (22, .iload_n 1, 23, [], 0), (23, .ldc 170, 25, [], (-100003)), (25, .if_icmp .eq 13, 28, [38], 0), (28, .aload_n 0, 29, [], 0), (29, .getfield 32, 32, [6, 10], 0), (32, .iload_n 3, 33, [], 0), (33, .iaload, 34, [], 0), (34, .iload_n 1, 35, [], 0), (35, .if_icmp .ne 7, 38, [42], 0), (38, .iconst 1, 39, [], 1), (39, .goto 4, 42, [43], 0), (42, .iconst 0, 43, [], 0), (43, .iadd, 44, [], 0), (44, .istore_n 2, 45, [], 0), (45, .iinc 3 1, 48, [], 1), (48, .goto (-44), 51, [4], 0), (51, .iload_n 2, 52, [], 0), (52, .ireturn, 53, [0], 0)]
theorem ok_X6_marksOf : ∀ q ∈ L_X6_marksOf, rok cX6_marksOf 4 0 q = true := by decide +kernel
theorem fk_X6_marksOf : ∀ q ∈ L_X6_marksOf, fck FT_X6 PT_X6 KT_X6 q = true := by decide +kernel
noncomputable def cs_X6_marksOf : List CT := []
noncomputable def b_X6_marksOf_4 : Nat → BT
  | 0 => fun _ _ _ => none
  | n + 1 => fun lv st S => brn mT cs_X6_marksOf L_X6_marksOf [4] (dsp [(4, [0, 1, 2, 3], b_X6_marksOf_4 n)]) 34 [] 4 lv st S
theorem s_X6_marksOf_4 (M : xM p l e R s m args below meth c cells slots Q D mT g cI cZ A 4 cX6_marksOf RX6 0 cs_X6_marksOf L_X6_marksOf R0) : ∀ n lv st S, b_X6_marksOf_4 n lv st S = some R0 → xG p l e R s m args below meth c cells slots Q D mT g cI cZ A 4 4 lv st S := by
  intro n
  induction n with
  | zero => intro lv st S h; cases h
  | succ n ih => intro lv st S h; exact xa_blk M (List.forall_mem_cons.mpr ⟨fun lv st S h => (ih) lv st S h, fun _ q => absurd q List.not_mem_nil⟩) h
noncomputable def m_X6_marksOf : MT := fun As S => brn mT cs_X6_marksOf L_X6_marksOf [4] (dsp [(4, [0, 1, 2, 3], b_X6_marksOf_4 fu)]) 34 [] 0 (zipN 0 As) [] S
theorem s_X6_marksOf (M : xM p l e R s m args below meth c cells slots Q D mT g cI cZ A 4 cX6_marksOf RX6 0 cs_X6_marksOf L_X6_marksOf R0) {As : List AV} {S : XS} (h : m_X6_marksOf As S = some R0) : xG p l e R s m args below meth c cells slots Q D mT g cI cZ A 4 0 (zipN 0 As) [] S := xa_blk M (List.forall_mem_cons.mpr ⟨fun lv st S h => (s_X6_marksOf_4 M fu) lv st S h, fun _ q => absurd q List.not_mem_nil⟩) h
set_option maxRecDepth 20000 in
theorem c_X6_marksOf {l : Launch} {D : va_G} {g : Nat → Nat} {cI cZ : ClassId} {A : Nat → Prop} (hD : ∀ S, va_D A (ww mT g cI cZ S)) : xMet l D mT g cI cZ A yX6_marksOf (wm yX6_marksOf cX6_marksOf 4 0) { frames := 0, cells := 0, slots := 0, locals := 0 } 2 m_X6_marksOf :=
  xa_met (ft := FT_X6) (pt := PT_X6) (kt := KT_X6) (cs := cs_X6_marksOf) (L := L_X6_marksOf) hD (by decide) (by decide) ok_X6_marksOf fk_X6_marksOf fa_X6 (fun p e s m args below meth c Q R0 C0 hts hN => all_get (fun _ q => absurd q List.not_mem_nil)) (fun p e s m args below meth c Q R0 As S M h => s_X6_marksOf M h)
def L_X6_item : List CE := [(0, .aload_n 0, 1, [], 0), (1, .iconst 0, 2, [], 0), (2, .putfield 83, 5, [6, 0, 0], 0), (5, .aload_n 0, 6, [], 0), (6, .iload_n 1, 7, [], 0), (7, .invokevirtual 112, 10, [0], 0), (10, .ifCond .ne 6, 13, [16], 0), (13, .ldc 107, 15, [], (-100001)), (15, .ireturn, 16, [0], 0), (16, .iload_n 2, 17, [], 0), (17, .tableswitch 99 0 6 #[43, 50, 57, 64, 71, 78, 93], 60, [116, 60, 67, 74, 81, 88, 95, 110], 0), (60, .aload_n 0, 61, [], 0), (61, .getfield 7, 64, [6, 2], 0), (64, .iload_n 1, 65, [], 0), (65, .iaload, 66, [], 0), (66, .ireturn, 67, [0], 0), (67, .aload_n 0, 68, [], 0), (68, .getfield 13, 71, [6, 3], 0), (71, .iload_n 1, 72, [], 0), (72, .iaload, 73, [], 0), (73, .ireturn, 74, [0], 0), (74, .aload_n 0, 75, [], 0), (75, .getfield 16, 78, [6, 4], 0), (78, .iload_n 1, 79, [], 0), (79, .iaload, 80, [], 0), (80, .ireturn, 81, [0], 0), (81, .aload_n 0, 82, [], 0), (82, .getfield 19, 85, [6, 5], 0), (85, .iload_n 1, 86, [], 0), (86, .iaload, 87, [], 0), (87, .ireturn, 88, [0], 0), (88, .aload_n 0, 89, [], 0), (89, .getfield 22, 92, [6, 6], 0), (92, .iload_n 1, 93, [], 0), (93, .iaload, 94, [], 0), (94, .ireturn, 95, [0], 0), (95, .aload_n 0, 96, [], 0), (96, .getfield 25, 99, [6, 7], 0), (99, .iload_n 1, 100, [], 0), (100, .baload, 101, [], 0), (101, .ifCond .eq 7, 104, [108], 0), (104, .iconst 1, 105, [], 1), (105, .goto 4, 108, [109], 0), (108, .iconst 0, 109, [], 0), (109, .ireturn, 110, [0], 0), (110, .aload_n 0, 111, [], 0), (111, .iload_n 1, 112, [], 0), (112, .invokevirtual 184, 115, [1], 0), (115, .ireturn, 116, [0], 0), (116, .ldc 107, 118, [], (-100001)), (118, .ireturn, 119, [0], 0)]
theorem ok_X6_item : ∀ q ∈ L_X6_item, rok cX6_item 3 0 q = true := by decide +kernel
theorem fk_X6_item : ∀ q ∈ L_X6_item, fck FT_X6 PT_X6 KT_X6 q = true := by decide +kernel
noncomputable def cs_X6_item : List CT := [(false, 112, 2, 1, 6, m_X6_isItem), (false, 184, 2, 1, 6, m_X6_marksOf)]
noncomputable def m_X6_item : MT := fun As S => brn mT cs_X6_item L_X6_item [] (dsp []) 53 [] 0 (zipN 0 As) [] S
theorem s_X6_item (M : xM p l e R s m args below meth c cells slots Q D mT g cI cZ A 3 cX6_item RX6 0 cs_X6_item L_X6_item R0) {As : List AV} {S : XS} (h : m_X6_item As S = some R0) : xG p l e R s m args below meth c cells slots Q D mT g cI cZ A 3 0 (zipN 0 As) [] S := xa_blk M (fun _ q => absurd q List.not_mem_nil) h
set_option maxRecDepth 20000 in
theorem c_X6_item {l : Launch} {D : va_G} {g : Nat → Nat} {cI cZ : ClassId} {A : Nat → Prop} (hD : ∀ S, va_D A (ww mT g cI cZ S)) : xMet l D mT g cI cZ A yX6_item (wm yX6_item cX6_item 3 0) { frames := 1, cells := 0, slots := 0, locals := 23 } 3 m_X6_item :=
  xa_met (ft := FT_X6) (pt := PT_X6) (kt := KT_X6) (cs := cs_X6_item) (L := L_X6_item) hD (by decide) (by decide) ok_X6_item fk_X6_item fa_X6 (fun p e s m args below meth c Q R0 C0 hts hN => all_get (List.forall_mem_cons.mpr ⟨xcf_V (C := RX6) C0 hts hN (c_X6_isItem hD) (good_V kl_X6_112 ki_X6_isItem ks_X6_isItem kn_X6 kc_X6_isItem) rfl ⟨rfl, rfl⟩ rfl (by decide +kernel) ⟨by decide, by decide⟩ ⟨Nat.zero_le _, Nat.zero_le _⟩, List.forall_mem_cons.mpr ⟨xcf_V (C := RX6) C0 hts hN (c_X6_marksOf hD) (good_V kl_X6_184 ki_X6_marksOf ks_X6_marksOf kn_X6 kc_X6_marksOf) rfl ⟨rfl, rfl⟩ rfl (by decide +kernel) ⟨by decide, by decide⟩ ⟨Nat.zero_le _, Nat.zero_le _⟩, fun _ q => absurd q List.not_mem_nil⟩⟩)) (fun p e s m args below meth c Q R0 As S M h => s_X6_item M h)
def L_X6_outermost : List CE := [(0, .iconst 0, 1, [], 0), (1, .istore_n 2, 2, [], 0), (2, .iconst 0, 3, [], 0), (3, .istore_n 3, 4, [], 0), (4, .iload_n 3, 5, [], 0), (5, .aload_n 0, 6, [], 0), (6, .getfield 125, 9, [6, 20], 0), (9, .if_icmp .ge 47, 12, [56], 0), (12, .aload_n 0, 13, [], 0), (13, .getfield 71, 16, [6, 25], 0), (16, .iload_n 3, 17, [], 0), (17, .iaload, 18, [], 0), (18, .aload_n 0, 19, [], 0), (19, .getfield 68, 22, [6, 24], 0), (22, .iload_n 3, 23, [], 0), (23, .iaload, 24, [], 0), (24, .iadd, 25, [], 0), (25, .istore 4, 27, [], 0), (27, .aload_n 0, 28, [], 0), (28, .getfield 65, 31, [6, 23], 0), (31, .iload_n 3, 32, [], 0), (32, .iaload, 33, [], 0), (33, .iload_n 1, 34, [], 0), (34, .if_icmp .ne 14, 37, [48], 0), (37, .iload 4, 39, [], 0), (39, .iload_n 2, 40, [], 0), (40, .if_icmp .le 8, 43, [48], 0), (43, .iload 4, 45, [], 0), (45, .goto 4, 48, [49], 0), (48, .iload_n 2, 49, [], 0), (49, .istore_n 2, 50, [], 0), (50, .iinc 3 1, 53, [], 1), (53, .goto (-49), 56, [4], 0), (56, .iconst 0, 57, [], 0), (57, .istore_n 3, 58, [], 0), (58, .iload_n 3, 59, [], 0), (59, .aload_n 0, 60, [], 0), (60, .getfield 90, 63, [6, 9], 0), (63, .if_icmp .ge 55, 66, [118], 0), (66, .aload_n 0, 67, [], 0), (67, .getfield 50, 70, [6, 16], 0), (70, .iload_n 3, 71, [], 0), (71, .iaload, 72, [], 0), (72, .aload_n 0, 73, [], 0), (73, .getfield 41, 76, [6, 13], 0), (76, .iload_n 3, 77, [], 0), (77, .iaload, 78, [], 0), (78, .iadd, 79, [], 0), (79, .istore 4, 81, [], 0), (81, .aload_n 0, 82, [], 0), (82, .getfield 44, 85, [6, 14], 0), (85, .iload_n 3, 86, [], 0), (86, .baload, 87, [], 0), (87, .ifCond .ne 23, 90, [110], 0), (90, .aload_n 0, 91, [], 0), (91, .iload_n 3, 92, [], 0), (92, .invokevirtual 139, 95, [0], 0), (95, .iload_n 1, 96, [], 0), (96, .if_icmp .ne 14, 99, [110], 0), (99, .iload 4, 101, [], 0), (101, .iload_n 2, 102, [], 0), (102, .if_icmp .le 8, 105, [110], 0), (105, .iload 4, 107, [], 0), (107, .goto 4, 110, [111], 0), (110, .iload_n 2, 111, [], 0), (111, .istore_n 2, 112, [], 0), (112, .iinc 3 1, 115, [], 1), (115, .goto (-57), 118, [58], 0), (118, .iload_n 2, 119, [], 0), (119, .ireturn, 120, [0], 0)]
theorem ok_X6_outermost : ∀ q ∈ L_X6_outermost, rok cX6_outermost 5 0 q = true := by decide +kernel
theorem fk_X6_outermost : ∀ q ∈ L_X6_outermost, fck FT_X6 PT_X6 KT_X6 q = true := by decide +kernel
noncomputable def cs_X6_outermost : List CT := [(false, 139, 2, 1, 6, m_X6_sideOf)]
noncomputable def b_X6_outermost_58 : Nat → BT
  | 0 => fun _ _ _ => none
  | n + 1 => fun lv st S => brn mT cs_X6_outermost L_X6_outermost [4, 58] (dsp [(58, [0, 1, 2, 3], b_X6_outermost_58 n)]) 72 [] 58 lv st S
theorem s_X6_outermost_58 (M : xM p l e R s m args below meth c cells slots Q D mT g cI cZ A 5 cX6_outermost RX6 0 cs_X6_outermost L_X6_outermost R0) : ∀ n lv st S, b_X6_outermost_58 n lv st S = some R0 → xG p l e R s m args below meth c cells slots Q D mT g cI cZ A 5 58 lv st S := by
  intro n
  induction n with
  | zero => intro lv st S h; cases h
  | succ n ih => intro lv st S h; exact xa_blk M (List.forall_mem_cons.mpr ⟨fun lv st S h => (ih) lv st S h, fun _ q => absurd q List.not_mem_nil⟩) h
noncomputable def b_X6_outermost_4 : Nat → BT
  | 0 => fun _ _ _ => none
  | n + 1 => fun lv st S => brn mT cs_X6_outermost L_X6_outermost [4, 58] (dsp [(4, [0, 1, 2, 3], b_X6_outermost_4 n), (58, [0, 1, 2, 3], b_X6_outermost_58 fu)]) 72 [] 4 lv st S
theorem s_X6_outermost_4 (M : xM p l e R s m args below meth c cells slots Q D mT g cI cZ A 5 cX6_outermost RX6 0 cs_X6_outermost L_X6_outermost R0) : ∀ n lv st S, b_X6_outermost_4 n lv st S = some R0 → xG p l e R s m args below meth c cells slots Q D mT g cI cZ A 5 4 lv st S := by
  intro n
  induction n with
  | zero => intro lv st S h; cases h
  | succ n ih => intro lv st S h; exact xa_blk M (List.forall_mem_cons.mpr ⟨fun lv st S h => (ih) lv st S h, List.forall_mem_cons.mpr ⟨fun lv st S h => (s_X6_outermost_58 M fu) lv st S h, fun _ q => absurd q List.not_mem_nil⟩⟩) h
noncomputable def m_X6_outermost : MT := fun As S => brn mT cs_X6_outermost L_X6_outermost [4, 58] (dsp [(4, [0, 1, 2, 3], b_X6_outermost_4 fu)]) 72 [] 0 (zipN 0 As) [] S
theorem s_X6_outermost (M : xM p l e R s m args below meth c cells slots Q D mT g cI cZ A 5 cX6_outermost RX6 0 cs_X6_outermost L_X6_outermost R0) {As : List AV} {S : XS} (h : m_X6_outermost As S = some R0) : xG p l e R s m args below meth c cells slots Q D mT g cI cZ A 5 0 (zipN 0 As) [] S := xa_blk M (List.forall_mem_cons.mpr ⟨fun lv st S h => (s_X6_outermost_4 M fu) lv st S h, fun _ q => absurd q List.not_mem_nil⟩) h
set_option maxRecDepth 20000 in
theorem c_X6_outermost {l : Launch} {D : va_G} {g : Nat → Nat} {cI cZ : ClassId} {A : Nat → Prop} (hD : ∀ S, va_D A (ww mT g cI cZ S)) : xMet l D mT g cI cZ A yX6_outermost (wm yX6_outermost cX6_outermost 5 0) { frames := 2, cells := 0, slots := 0, locals := 48 } 2 m_X6_outermost :=
  xa_met (ft := FT_X6) (pt := PT_X6) (kt := KT_X6) (cs := cs_X6_outermost) (L := L_X6_outermost) hD (by decide) (by decide) ok_X6_outermost fk_X6_outermost fa_X6 (fun p e s m args below meth c Q R0 C0 hts hN => all_get (List.forall_mem_cons.mpr ⟨xcf_V (C := RX6) C0 hts hN (c_X6_sideOf hD) (good_V kl_X6_139 ki_X6_sideOf ks_X6_sideOf kn_X6 kc_X6_sideOf) rfl ⟨rfl, rfl⟩ rfl (by decide +kernel) ⟨by decide, by decide⟩ ⟨Nat.zero_le _, Nat.zero_le _⟩, fun _ q => absurd q List.not_mem_nil⟩)) (fun p e s m args below meth c Q R0 As S M h => s_X6_outermost M h)
def L_X6_count : List CE := [(0, .aload_n 0, 1, [], 0), (1, .iconst 0, 2, [], 0), (2, .putfield 83, 5, [6, 0, 0], 0), (5, .iload_n 1, 6, [], 0), (6, .tableswitch 94 0 5 #[38, 43, 50, 55, 68, 68], 44, [100, 44, 49, 56, 61, 74, 74], 0), (44, .aload_n 0, 45, [], 0), (45, .getfield 87, 48, [6, 1], 0), (48, .ireturn, 49, [0], 0), (49, .aload_n 0, 50, [], 0), (50, .ldc 170, 52, [], (-100003)), (52, .invokevirtual 184, 55, [0], 0), (55, .ireturn, 56, [0], 0), (56, .aload_n 0, 57, [], 0), (57, .getfield 125, 60, [6, 20], 0), (60, .ireturn, 61, [0], 0), (61, .aload_n 0, 62, [], 0), (62, .getfield 94, 65, [6, 29], 0), (65, .ifCond .eq 7, 68, [72], 0), (68, .iconst 1, 69, [], 1), (69, .goto 4, 72, [73], 0), (72, .iconst 0, 73, [], 0), (73, .ireturn, 74, [0], 0), (74, .aload_n 0, 75, [], 0), (75, .invokevirtual 174, 78, [1], 0), (78, .ifCond .eq 7, 81, [85], 0), (81, .iconst 0, 82, [], 0), (82, .goto 17, 85, [99], 0), (85, .aload_n 0, 86, [], 0), (86, .iload_n 1, 87, [], 0), (87, .iconst 4, 88, [], 4), (88, .if_icmp .ne 7, 91, [95], 0), (91, .iconst 1, 92, [], 1), (92, .goto 4, 95, [96], 0), (95, .iconst (-1), 96, [], (-1)), (96, .invokevirtual 187, 99, [2], 0), (99, .ireturn, 100, [0], 0), (100, .ldc 107, 102, [], (-100001)), (102, .ireturn, 103, [0], 0)]
theorem ok_X6_count : ∀ q ∈ L_X6_count, rok cX6_count 2 0 q = true := by decide +kernel
theorem fk_X6_count : ∀ q ∈ L_X6_count, fck FT_X6 PT_X6 KT_X6 q = true := by decide +kernel
noncomputable def cs_X6_count : List CT := [(false, 184, 2, 1, 6, m_X6_marksOf), (false, 174, 1, 1, 6, m_X6_throwsNow), (false, 187, 2, 1, 6, m_X6_outermost)]
noncomputable def m_X6_count : MT := fun As S => brn mT cs_X6_count L_X6_count [] (dsp []) 40 [] 0 (zipN 0 As) [] S
theorem s_X6_count (M : xM p l e R s m args below meth c cells slots Q D mT g cI cZ A 2 cX6_count RX6 0 cs_X6_count L_X6_count R0) {As : List AV} {S : XS} (h : m_X6_count As S = some R0) : xG p l e R s m args below meth c cells slots Q D mT g cI cZ A 2 0 (zipN 0 As) [] S := xa_blk M (fun _ q => absurd q List.not_mem_nil) h
set_option maxRecDepth 20000 in
theorem c_X6_count {l : Launch} {D : va_G} {g : Nat → Nat} {cI cZ : ClassId} {A : Nat → Prop} (hD : ∀ S, va_D A (ww mT g cI cZ S)) : xMet l D mT g cI cZ A yX6_count (wm yX6_count cX6_count 2 0) { frames := 3, cells := 0, slots := 0, locals := 72 } 2 m_X6_count :=
  xa_met (ft := FT_X6) (pt := PT_X6) (kt := KT_X6) (cs := cs_X6_count) (L := L_X6_count) hD (by decide) (by decide) ok_X6_count fk_X6_count fa_X6 (fun p e s m args below meth c Q R0 C0 hts hN => all_get (List.forall_mem_cons.mpr ⟨xcf_V (C := RX6) C0 hts hN (c_X6_marksOf hD) (good_V kl_X6_184 ki_X6_marksOf ks_X6_marksOf kn_X6 kc_X6_marksOf) rfl ⟨rfl, rfl⟩ rfl (by decide +kernel) ⟨by decide, by decide⟩ ⟨Nat.zero_le _, Nat.zero_le _⟩, List.forall_mem_cons.mpr ⟨xcf_V (C := RX6) C0 hts hN (c_X6_throwsNow hD) (good_V kl_X6_174 ki_X6_throwsNow ks_X6_throwsNow kn_X6 kc_X6_throwsNow) rfl ⟨rfl, rfl⟩ rfl (by decide +kernel) ⟨by decide, by decide⟩ ⟨Nat.zero_le _, Nat.zero_le _⟩, List.forall_mem_cons.mpr ⟨xcf_V (C := RX6) C0 hts hN (c_X6_outermost hD) (good_V kl_X6_187 ki_X6_outermost ks_X6_outermost kn_X6 kc_X6_outermost) rfl ⟨rfl, rfl⟩ rfl (by decide +kernel) ⟨by decide, by decide⟩ ⟨Nat.zero_le _, Nat.zero_le _⟩, fun _ q => absurd q List.not_mem_nil⟩⟩⟩)) (fun p e s m args below meth c Q R0 As S M h => s_X6_count M h)
end
end
section
set_option maxRecDepth 100000 in
theorem u_X6_thrown (S : XS) : m_X6_thrown [.inr 0] S = (some (S, some (some (.inl (S 0 0))))) := rfl
set_option maxRecDepth 100000 in
theorem u_X6_in (S : XS) (a0 a1 a2 : Int32) : m_X6_in [.inl a0, .inl a1, .inl a2] S = (if a0 < a1 then (some (S, some (some (.inl 0)))) else (if a2 < a0 then (some (S, some (some (.inl 0)))) else (some (S, some (some (.inl 1)))))) := rfl
set_option maxRecDepth 100000 in
theorem u_X6_isSide (S : XS) (a0 : Int32) : m_X6_isSide [.inl a0] S = (if a0 = 1 then (some (S, some (some (.inl 1)))) else (if a0 = (-1) then (some (S, some (some (.inl 1)))) else (some (S, some (some (.inl 0)))))) := rfl
set_option maxRecDepth 100000 in
theorem u_X6_isItem (S : XS) (a1 : Int32) : m_X6_isItem [.inr 0, .inl a1] S = (if a1 < 0 then (some (S, some (some (.inl 0)))) else (if S 0 1 ≤ a1 then (some (S, some (some (.inl 0)))) else (some (S, some (some (.inl 1)))))) := rfl
set_option maxRecDepth 100000 in
theorem u_X6_isMark (S : XS) (a1 : Int32) : m_X6_isMark [.inr 0, .inl a1] S = (if a1 < 0 then (some (S, some (some (.inl 0)))) else (if S 0 9 ≤ a1 then (some (S, some (some (.inl 0)))) else (gA a1 80 (if S 12 a1.toNatClampNeg = 0 then (some (S, some (some (.inl 1)))) else (some (S, some (some (.inl 0)))))))) := rfl
set_option maxRecDepth 100000 in
theorem v_X6_isTaken (f2 : BT) (S : XS) (a1 : Int32) : brn mT cs_X6_isTaken L_X6_isTaken [2] (dsp [(2, [0, 1, 2], f2)]) 20 [] 0 [(0, .inr 0), (1, .inl a1)] [] S = (f2 [(0, .inr 0), (1, .inl a1), (2, .inl 0)] [] S) := rfl
theorem u_X6_isTaken (S : XS) (a1 : Int32) : m_X6_isTaken [.inr 0, .inl a1] S = (b_X6_isTaken_2 fu [(0, .inr 0), (1, .inl a1), (2, .inl 0)] [] S) := v_X6_isTaken _ S a1
set_option maxRecDepth 100000 in
theorem v_X6_isTaken_2 (f2 : BT) (S : XS) (a1 a2 : Int32) : brn mT cs_X6_isTaken L_X6_isTaken [2] (dsp [(2, [0, 1, 2], f2)]) 20 [] 2 [(0, .inr 0), (1, .inl a1), (2, .inl a2)] [] S = (if S 0 1 ≤ a2 then (some (S, some (some (.inl 0)))) else (gA a2 40 (if S 1 a2.toNatClampNeg = a1 then (some (S, some (some (.inl 1)))) else (f2 [(0, .inr 0), (1, .inl a1), (2, .inl (a2 + 1))] [] S)))) := rfl
theorem u_X6_isTaken_2 (n : Nat) (S : XS) (a1 a2 : Int32) : b_X6_isTaken_2 (n + 1) [(0, .inr 0), (1, .inl a1), (2, .inl a2)] [] S = (if S 0 1 ≤ a2 then (some (S, some (some (.inl 0)))) else (gA a2 40 (if S 1 a2.toNatClampNeg = a1 then (some (S, some (some (.inl 1)))) else (b_X6_isTaken_2 n [(0, .inr 0), (1, .inl a1), (2, .inl (a2 + 1))] [] S)))) := v_X6_isTaken_2 _ S a1 a2
set_option maxRecDepth 100000 in
theorem u_X6_come (S : XS) (a1 a2 a3 a4 a5 a6 : Int32) : m_X6_come [.inr 0, .inl a1, .inl a2, .inl a3, .inl a4, .inl a5, .inl a6] S = (if S 0 1 = 40 then (some (S, some (some (.inl (-100002))))) else (gA (S 0 1) 40 (gA ((up2 S 1 (S 0 1).toNatClampNeg a1) 0 1) 40 (gA ((up2 (up2 S 1 (S 0 1).toNatClampNeg a1) 2 ((up2 S 1 (S 0 1).toNatClampNeg a1) 0 1).toNatClampNeg a2) 0 1) 40 (gA ((up2 (up2 (up2 S 1 (S 0 1).toNatClampNeg a1) 2 ((up2 S 1 (S 0 1).toNatClampNeg a1) 0 1).toNatClampNeg a2) 3 ((up2 (up2 S 1 (S 0 1).toNatClampNeg a1) 2 ((up2 S 1 (S 0 1).toNatClampNeg a1) 0 1).toNatClampNeg a2) 0 1).toNatClampNeg a3) 0 1) 40 (gA ((up2 (up2 (up2 (up2 S 1 (S 0 1).toNatClampNeg a1) 2 ((up2 S 1 (S 0 1).toNatClampNeg a1) 0 1).toNatClampNeg a2) 3 ((up2 (up2 S 1 (S 0 1).toNatClampNeg a1) 2 ((up2 S 1 (S 0 1).toNatClampNeg a1) 0 1).toNatClampNeg a2) 0 1).toNatClampNeg a3) 4 ((up2 (up2 (up2 S 1 (S 0 1).toNatClampNeg a1) 2 ((up2 S 1 (S 0 1).toNatClampNeg a1) 0 1).toNatClampNeg a2) 3 ((up2 (up2 S 1 (S 0 1).toNatClampNeg a1) 2 ((up2 S 1 (S 0 1).toNatClampNeg a1) 0 1).toNatClampNeg a2) 0 1).toNatClampNeg a3) 0 1).toNatClampNeg a4) 0 1) 40 (gA ((up2 (up2 (up2 (up2 (up2 S 1 (S 0 1).toNatClampNeg a1) 2 ((up2 S 1 (S 0 1).toNatClampNeg a1) 0 1).toNatClampNeg a2) 3 ((up2 (up2 S 1 (S 0 1).toNatClampNeg a1) 2 ((up2 S 1 (S 0 1).toNatClampNeg a1) 0 1).toNatClampNeg a2) 0 1).toNatClampNeg a3) 4 ((up2 (up2 (up2 S 1 (S 0 1).toNatClampNeg a1) 2 ((up2 S 1 (S 0 1).toNatClampNeg a1) 0 1).toNatClampNeg a2) 3 ((up2 (up2 S 1 (S 0 1).toNatClampNeg a1) 2 ((up2 S 1 (S 0 1).toNatClampNeg a1) 0 1).toNatClampNeg a2) 0 1).toNatClampNeg a3) 0 1).toNatClampNeg a4) 5 ((up2 (up2 (up2 (up2 S 1 (S 0 1).toNatClampNeg a1) 2 ((up2 S 1 (S 0 1).toNatClampNeg a1) 0 1).toNatClampNeg a2) 3 ((up2 (up2 S 1 (S 0 1).toNatClampNeg a1) 2 ((up2 S 1 (S 0 1).toNatClampNeg a1) 0 1).toNatClampNeg a2) 0 1).toNatClampNeg a3) 4 ((up2 (up2 (up2 S 1 (S 0 1).toNatClampNeg a1) 2 ((up2 S 1 (S 0 1).toNatClampNeg a1) 0 1).toNatClampNeg a2) 3 ((up2 (up2 S 1 (S 0 1).toNatClampNeg a1) 2 ((up2 S 1 (S 0 1).toNatClampNeg a1) 0 1).toNatClampNeg a2) 0 1).toNatClampNeg a3) 0 1).toNatClampNeg a4) 0 1).toNatClampNeg a5) 0 1) 40 (some (up2 (up2 (up2 (up2 (up2 (up2 (up2 (up2 S 1 (S 0 1).toNatClampNeg a1) 2 ((up2 S 1 (S 0 1).toNatClampNeg a1) 0 1).toNatClampNeg a2) 3 ((up2 (up2 S 1 (S 0 1).toNatClampNeg a1) 2 ((up2 S 1 (S 0 1).toNatClampNeg a1) 0 1).toNatClampNeg a2) 0 1).toNatClampNeg a3) 4 ((up2 (up2 (up2 S 1 (S 0 1).toNatClampNeg a1) 2 ((up2 S 1 (S 0 1).toNatClampNeg a1) 0 1).toNatClampNeg a2) 3 ((up2 (up2 S 1 (S 0 1).toNatClampNeg a1) 2 ((up2 S 1 (S 0 1).toNatClampNeg a1) 0 1).toNatClampNeg a2) 0 1).toNatClampNeg a3) 0 1).toNatClampNeg a4) 5 ((up2 (up2 (up2 (up2 S 1 (S 0 1).toNatClampNeg a1) 2 ((up2 S 1 (S 0 1).toNatClampNeg a1) 0 1).toNatClampNeg a2) 3 ((up2 (up2 S 1 (S 0 1).toNatClampNeg a1) 2 ((up2 S 1 (S 0 1).toNatClampNeg a1) 0 1).toNatClampNeg a2) 0 1).toNatClampNeg a3) 4 ((up2 (up2 (up2 S 1 (S 0 1).toNatClampNeg a1) 2 ((up2 S 1 (S 0 1).toNatClampNeg a1) 0 1).toNatClampNeg a2) 3 ((up2 (up2 S 1 (S 0 1).toNatClampNeg a1) 2 ((up2 S 1 (S 0 1).toNatClampNeg a1) 0 1).toNatClampNeg a2) 0 1).toNatClampNeg a3) 0 1).toNatClampNeg a4) 0 1).toNatClampNeg a5) 6 ((up2 (up2 (up2 (up2 (up2 S 1 (S 0 1).toNatClampNeg a1) 2 ((up2 S 1 (S 0 1).toNatClampNeg a1) 0 1).toNatClampNeg a2) 3 ((up2 (up2 S 1 (S 0 1).toNatClampNeg a1) 2 ((up2 S 1 (S 0 1).toNatClampNeg a1) 0 1).toNatClampNeg a2) 0 1).toNatClampNeg a3) 4 ((up2 (up2 (up2 S 1 (S 0 1).toNatClampNeg a1) 2 ((up2 S 1 (S 0 1).toNatClampNeg a1) 0 1).toNatClampNeg a2) 3 ((up2 (up2 S 1 (S 0 1).toNatClampNeg a1) 2 ((up2 S 1 (S 0 1).toNatClampNeg a1) 0 1).toNatClampNeg a2) 0 1).toNatClampNeg a3) 0 1).toNatClampNeg a4) 5 ((up2 (up2 (up2 (up2 S 1 (S 0 1).toNatClampNeg a1) 2 ((up2 S 1 (S 0 1).toNatClampNeg a1) 0 1).toNatClampNeg a2) 3 ((up2 (up2 S 1 (S 0 1).toNatClampNeg a1) 2 ((up2 S 1 (S 0 1).toNatClampNeg a1) 0 1).toNatClampNeg a2) 0 1).toNatClampNeg a3) 4 ((up2 (up2 (up2 S 1 (S 0 1).toNatClampNeg a1) 2 ((up2 S 1 (S 0 1).toNatClampNeg a1) 0 1).toNatClampNeg a2) 3 ((up2 (up2 S 1 (S 0 1).toNatClampNeg a1) 2 ((up2 S 1 (S 0 1).toNatClampNeg a1) 0 1).toNatClampNeg a2) 0 1).toNatClampNeg a3) 0 1).toNatClampNeg a4) 0 1).toNatClampNeg a5) 0 1).toNatClampNeg (vp_nar .boolean a6)) 0 1 (((up2 (up2 (up2 (up2 (up2 (up2 S 1 (S 0 1).toNatClampNeg a1) 2 ((up2 S 1 (S 0 1).toNatClampNeg a1) 0 1).toNatClampNeg a2) 3 ((up2 (up2 S 1 (S 0 1).toNatClampNeg a1) 2 ((up2 S 1 (S 0 1).toNatClampNeg a1) 0 1).toNatClampNeg a2) 0 1).toNatClampNeg a3) 4 ((up2 (up2 (up2 S 1 (S 0 1).toNatClampNeg a1) 2 ((up2 S 1 (S 0 1).toNatClampNeg a1) 0 1).toNatClampNeg a2) 3 ((up2 (up2 S 1 (S 0 1).toNatClampNeg a1) 2 ((up2 S 1 (S 0 1).toNatClampNeg a1) 0 1).toNatClampNeg a2) 0 1).toNatClampNeg a3) 0 1).toNatClampNeg a4) 5 ((up2 (up2 (up2 (up2 S 1 (S 0 1).toNatClampNeg a1) 2 ((up2 S 1 (S 0 1).toNatClampNeg a1) 0 1).toNatClampNeg a2) 3 ((up2 (up2 S 1 (S 0 1).toNatClampNeg a1) 2 ((up2 S 1 (S 0 1).toNatClampNeg a1) 0 1).toNatClampNeg a2) 0 1).toNatClampNeg a3) 4 ((up2 (up2 (up2 S 1 (S 0 1).toNatClampNeg a1) 2 ((up2 S 1 (S 0 1).toNatClampNeg a1) 0 1).toNatClampNeg a2) 3 ((up2 (up2 S 1 (S 0 1).toNatClampNeg a1) 2 ((up2 S 1 (S 0 1).toNatClampNeg a1) 0 1).toNatClampNeg a2) 0 1).toNatClampNeg a3) 0 1).toNatClampNeg a4) 0 1).toNatClampNeg a5) 6 ((up2 (up2 (up2 (up2 (up2 S 1 (S 0 1).toNatClampNeg a1) 2 ((up2 S 1 (S 0 1).toNatClampNeg a1) 0 1).toNatClampNeg a2) 3 ((up2 (up2 S 1 (S 0 1).toNatClampNeg a1) 2 ((up2 S 1 (S 0 1).toNatClampNeg a1) 0 1).toNatClampNeg a2) 0 1).toNatClampNeg a3) 4 ((up2 (up2 (up2 S 1 (S 0 1).toNatClampNeg a1) 2 ((up2 S 1 (S 0 1).toNatClampNeg a1) 0 1).toNatClampNeg a2) 3 ((up2 (up2 S 1 (S 0 1).toNatClampNeg a1) 2 ((up2 S 1 (S 0 1).toNatClampNeg a1) 0 1).toNatClampNeg a2) 0 1).toNatClampNeg a3) 0 1).toNatClampNeg a4) 5 ((up2 (up2 (up2 (up2 S 1 (S 0 1).toNatClampNeg a1) 2 ((up2 S 1 (S 0 1).toNatClampNeg a1) 0 1).toNatClampNeg a2) 3 ((up2 (up2 S 1 (S 0 1).toNatClampNeg a1) 2 ((up2 S 1 (S 0 1).toNatClampNeg a1) 0 1).toNatClampNeg a2) 0 1).toNatClampNeg a3) 4 ((up2 (up2 (up2 S 1 (S 0 1).toNatClampNeg a1) 2 ((up2 S 1 (S 0 1).toNatClampNeg a1) 0 1).toNatClampNeg a2) 3 ((up2 (up2 S 1 (S 0 1).toNatClampNeg a1) 2 ((up2 S 1 (S 0 1).toNatClampNeg a1) 0 1).toNatClampNeg a2) 0 1).toNatClampNeg a3) 0 1).toNatClampNeg a4) 0 1).toNatClampNeg a5) 0 1).toNatClampNeg (vp_nar .boolean a6)) 0 1) + 1)) 0 29 0, some (some (.inl (((up2 (up2 (up2 (up2 (up2 (up2 (up2 (up2 S 1 (S 0 1).toNatClampNeg a1) 2 ((up2 S 1 (S 0 1).toNatClampNeg a1) 0 1).toNatClampNeg a2) 3 ((up2 (up2 S 1 (S 0 1).toNatClampNeg a1) 2 ((up2 S 1 (S 0 1).toNatClampNeg a1) 0 1).toNatClampNeg a2) 0 1).toNatClampNeg a3) 4 ((up2 (up2 (up2 S 1 (S 0 1).toNatClampNeg a1) 2 ((up2 S 1 (S 0 1).toNatClampNeg a1) 0 1).toNatClampNeg a2) 3 ((up2 (up2 S 1 (S 0 1).toNatClampNeg a1) 2 ((up2 S 1 (S 0 1).toNatClampNeg a1) 0 1).toNatClampNeg a2) 0 1).toNatClampNeg a3) 0 1).toNatClampNeg a4) 5 ((up2 (up2 (up2 (up2 S 1 (S 0 1).toNatClampNeg a1) 2 ((up2 S 1 (S 0 1).toNatClampNeg a1) 0 1).toNatClampNeg a2) 3 ((up2 (up2 S 1 (S 0 1).toNatClampNeg a1) 2 ((up2 S 1 (S 0 1).toNatClampNeg a1) 0 1).toNatClampNeg a2) 0 1).toNatClampNeg a3) 4 ((up2 (up2 (up2 S 1 (S 0 1).toNatClampNeg a1) 2 ((up2 S 1 (S 0 1).toNatClampNeg a1) 0 1).toNatClampNeg a2) 3 ((up2 (up2 S 1 (S 0 1).toNatClampNeg a1) 2 ((up2 S 1 (S 0 1).toNatClampNeg a1) 0 1).toNatClampNeg a2) 0 1).toNatClampNeg a3) 0 1).toNatClampNeg a4) 0 1).toNatClampNeg a5) 6 ((up2 (up2 (up2 (up2 (up2 S 1 (S 0 1).toNatClampNeg a1) 2 ((up2 S 1 (S 0 1).toNatClampNeg a1) 0 1).toNatClampNeg a2) 3 ((up2 (up2 S 1 (S 0 1).toNatClampNeg a1) 2 ((up2 S 1 (S 0 1).toNatClampNeg a1) 0 1).toNatClampNeg a2) 0 1).toNatClampNeg a3) 4 ((up2 (up2 (up2 S 1 (S 0 1).toNatClampNeg a1) 2 ((up2 S 1 (S 0 1).toNatClampNeg a1) 0 1).toNatClampNeg a2) 3 ((up2 (up2 S 1 (S 0 1).toNatClampNeg a1) 2 ((up2 S 1 (S 0 1).toNatClampNeg a1) 0 1).toNatClampNeg a2) 0 1).toNatClampNeg a3) 0 1).toNatClampNeg a4) 5 ((up2 (up2 (up2 (up2 S 1 (S 0 1).toNatClampNeg a1) 2 ((up2 S 1 (S 0 1).toNatClampNeg a1) 0 1).toNatClampNeg a2) 3 ((up2 (up2 S 1 (S 0 1).toNatClampNeg a1) 2 ((up2 S 1 (S 0 1).toNatClampNeg a1) 0 1).toNatClampNeg a2) 0 1).toNatClampNeg a3) 4 ((up2 (up2 (up2 S 1 (S 0 1).toNatClampNeg a1) 2 ((up2 S 1 (S 0 1).toNatClampNeg a1) 0 1).toNatClampNeg a2) 3 ((up2 (up2 S 1 (S 0 1).toNatClampNeg a1) 2 ((up2 S 1 (S 0 1).toNatClampNeg a1) 0 1).toNatClampNeg a2) 0 1).toNatClampNeg a3) 0 1).toNatClampNeg a4) 0 1).toNatClampNeg a5) 0 1).toNatClampNeg (vp_nar .boolean a6)) 0 1 (((up2 (up2 (up2 (up2 (up2 (up2 S 1 (S 0 1).toNatClampNeg a1) 2 ((up2 S 1 (S 0 1).toNatClampNeg a1) 0 1).toNatClampNeg a2) 3 ((up2 (up2 S 1 (S 0 1).toNatClampNeg a1) 2 ((up2 S 1 (S 0 1).toNatClampNeg a1) 0 1).toNatClampNeg a2) 0 1).toNatClampNeg a3) 4 ((up2 (up2 (up2 S 1 (S 0 1).toNatClampNeg a1) 2 ((up2 S 1 (S 0 1).toNatClampNeg a1) 0 1).toNatClampNeg a2) 3 ((up2 (up2 S 1 (S 0 1).toNatClampNeg a1) 2 ((up2 S 1 (S 0 1).toNatClampNeg a1) 0 1).toNatClampNeg a2) 0 1).toNatClampNeg a3) 0 1).toNatClampNeg a4) 5 ((up2 (up2 (up2 (up2 S 1 (S 0 1).toNatClampNeg a1) 2 ((up2 S 1 (S 0 1).toNatClampNeg a1) 0 1).toNatClampNeg a2) 3 ((up2 (up2 S 1 (S 0 1).toNatClampNeg a1) 2 ((up2 S 1 (S 0 1).toNatClampNeg a1) 0 1).toNatClampNeg a2) 0 1).toNatClampNeg a3) 4 ((up2 (up2 (up2 S 1 (S 0 1).toNatClampNeg a1) 2 ((up2 S 1 (S 0 1).toNatClampNeg a1) 0 1).toNatClampNeg a2) 3 ((up2 (up2 S 1 (S 0 1).toNatClampNeg a1) 2 ((up2 S 1 (S 0 1).toNatClampNeg a1) 0 1).toNatClampNeg a2) 0 1).toNatClampNeg a3) 0 1).toNatClampNeg a4) 0 1).toNatClampNeg a5) 6 ((up2 (up2 (up2 (up2 (up2 S 1 (S 0 1).toNatClampNeg a1) 2 ((up2 S 1 (S 0 1).toNatClampNeg a1) 0 1).toNatClampNeg a2) 3 ((up2 (up2 S 1 (S 0 1).toNatClampNeg a1) 2 ((up2 S 1 (S 0 1).toNatClampNeg a1) 0 1).toNatClampNeg a2) 0 1).toNatClampNeg a3) 4 ((up2 (up2 (up2 S 1 (S 0 1).toNatClampNeg a1) 2 ((up2 S 1 (S 0 1).toNatClampNeg a1) 0 1).toNatClampNeg a2) 3 ((up2 (up2 S 1 (S 0 1).toNatClampNeg a1) 2 ((up2 S 1 (S 0 1).toNatClampNeg a1) 0 1).toNatClampNeg a2) 0 1).toNatClampNeg a3) 0 1).toNatClampNeg a4) 5 ((up2 (up2 (up2 (up2 S 1 (S 0 1).toNatClampNeg a1) 2 ((up2 S 1 (S 0 1).toNatClampNeg a1) 0 1).toNatClampNeg a2) 3 ((up2 (up2 S 1 (S 0 1).toNatClampNeg a1) 2 ((up2 S 1 (S 0 1).toNatClampNeg a1) 0 1).toNatClampNeg a2) 0 1).toNatClampNeg a3) 4 ((up2 (up2 (up2 S 1 (S 0 1).toNatClampNeg a1) 2 ((up2 S 1 (S 0 1).toNatClampNeg a1) 0 1).toNatClampNeg a2) 3 ((up2 (up2 S 1 (S 0 1).toNatClampNeg a1) 2 ((up2 S 1 (S 0 1).toNatClampNeg a1) 0 1).toNatClampNeg a2) 0 1).toNatClampNeg a3) 0 1).toNatClampNeg a4) 0 1).toNatClampNeg a5) 0 1).toNatClampNeg (vp_nar .boolean a6)) 0 1) + 1)) 0 29 0) 0 1) - 1)))))))))))) := rfl
set_option maxRecDepth 100000 in
theorem u_X6_note (S : XS) (a1 a2 a3 a4 a5 : Int32) : m_X6_note [.inr 0, .inl a1, .inl a2, .inl a3, .inl a4, .inl a5] S = (cli (m_X6_in [.inl a1, .inl 0, .inl 100000] (up2 S 0 0 0)) (fun S1 r1 => if r1 = 0 then (some (S1, some (some (.inl (-100001))))) else (cli (m_X6_in [.inl a2, .inl (-60), .inl 60] S1) (fun S2 r2 => if r2 = 0 then (some (S2, some (some (.inl (-100001))))) else (cli (m_X6_in [.inl a3, .inl a2, .inl 60] S2) (fun S3 r3 => if r3 = 0 then (some (S3, some (some (.inl (-100001))))) else (cli (m_X6_in [.inl a4, .inl 0, .inl 1] S3) (fun S4 r4 => if r4 = 0 then (some (S4, some (some (.inl (-100001))))) else (cli (m_X6_in [.inl a5, .inl (-1), .inl 1] S4) (fun S5 r5 => if r5 = 0 then (some (S5, some (some (.inl (-100001))))) else (cli (m_X6_isTaken [.inr 0, .inl a1] S5) (fun S6 r6 => if r6 = 0 then (cli (m_X6_come [.inr 0, .inl a1, .inl a2, .inl a3, .inl a4, .inl a5, .inl 0] S6) (fun S7 r7 => some (S7, some (some (.inl r7))))) else (some (S6, some (some (.inl (-100001))))))))))))))))) := rfl
set_option maxRecDepth 100000 in
theorem u_X6_rest (S : XS) (a1 a2 a3 : Int32) : m_X6_rest [.inr 0, .inl a1, .inl a2, .inl a3] S = (cli (m_X6_in [.inl a1, .inl 0, .inl 100000] (up2 S 0 0 0)) (fun S1 r1 => if r1 = 0 then (some (S1, some (some (.inl (-100001))))) else (cli (m_X6_in [.inl a2, .inl (-60), .inl 60] S1) (fun S2 r2 => if r2 = 0 then (some (S2, some (some (.inl (-100001))))) else (cli (m_X6_in [.inl a3, .inl 0, .inl 1] S2) (fun S3 r3 => if r3 = 0 then (some (S3, some (some (.inl (-100001))))) else (cli (m_X6_isTaken [.inr 0, .inl a1] S3) (fun S4 r4 => if r4 = 0 then (cli (m_X6_come [.inr 0, .inl a1, .inl a2, .inl a2, .inl a3, .inl 0, .inl 1] S4) (fun S5 r5 => some (S5, some (some (.inl r5))))) else (some (S4, some (some (.inl (-100001))))))))))))) := rfl
set_option maxRecDepth 100000 in
theorem u_X6_lift (S : XS) (a1 a2 : Int32) : m_X6_lift [.inr 0, .inl a1, .inl a2] S = (cli (m_X6_isItem [.inr 0, .inl a1] (up2 S 0 0 0)) (fun S1 r1 => if r1 = 0 then (some (S1, some (some (.inl (-100001))))) else (cli (m_X6_in [.inl a2, .inl (-120), .inl 120] S1) (fun S2 r2 => if r2 = 0 then (some (S2, some (some (.inl (-100001))))) else (gA a1 40 (if (S2 2 a1.toNatClampNeg) + a2 < (-60) then (some (S2, some (some (.inl (-100001))))) else (gA a1 40 (if (S2 3 a1.toNatClampNeg) + a2 ≤ 60 then (gA a1 40 (gA a1 40 (gA a1 40 (gA a1 40 (some (up2 (up2 (up2 S2 2 a1.toNatClampNeg ((S2 2 a1.toNatClampNeg) + a2)) 3 a1.toNatClampNeg (((up2 S2 2 a1.toNatClampNeg ((S2 2 a1.toNatClampNeg) + a2)) 3 a1.toNatClampNeg) + a2)) 0 29 0, some (some (.inl 1)))))))) else (some (S2, some (some (.inl (-100001))))))))))))) := rfl
set_option maxRecDepth 100000 in
theorem u_X6_most (S : XS) (a0 : Int32) : m_X6_most [.inl a0] S = (if a0.toInt = 0 then (some (S, some (some (.inl 9)))) else (if a0.toInt = 1 then (some (S, some (some (.inl 3)))) else (if a0.toInt = 2 then (some (S, some (some (.inl 1)))) else (if a0.toInt = 3 then (some (S, some (some (.inl 20)))) else (some (S, some (some (.inl 1)))))))) := rfl
set_option maxRecDepth 100000 in
theorem u_X6_set (S : XS) (a1 a2 a3 : Int32) : m_X6_set [.inr 0, .inl a1, .inl a2, .inl a3] S = (cli (m_X6_in [.inl a1, .inl 0, .inl 9] (up2 S 0 0 0)) (fun S1 r1 => if r1 = 0 then (some (S1, some (some (.inl (-100001))))) else (cli (m_X6_in [.inl a2, .inl 0, .inl 5] S1) (fun S2 r2 => if r2 = 0 then (some (S2, some (some (.inl (-100001))))) else (cli (m_X6_most [.inl a2] S2) (fun S3 r3 => cli (m_X6_in [.inl a3, .inl 0, .inl r3] S3) (fun S4 r4 => if r4 = 0 then (some (S4, some (some (.inl (-100001))))) else (gA ((6 * a1) + a2) 60 (gA ((6 * a1) + a2) 60 (some (up2 (up2 S4 7 ((6 * a1) + a2).toNatClampNeg a3) 0 29 0, some (some (.inl (S4 7 ((6 * a1) + a2).toNatClampNeg)))))))))))))) := rfl
set_option maxRecDepth 100000 in
theorem u_X6_mark (S : XS) (a1 a2 a3 a4 : Int32) : m_X6_mark [.inr 0, .inl a1, .inl a2, .inl a3, .inl a4] S = (cli (m_X6_isItem [.inr 0, .inl a1] (up2 S 0 0 0)) (fun S1 r1 => if r1 = 0 then (some (S1, some (some (.inl (-100001))))) else (cli (m_X6_in [.inl a2, .inl 0, .inl 9] S1) (fun S2 r2 => if r2 = 0 then (some (S2, some (some (.inl (-100001))))) else (cli (m_X6_in [.inl a3, .inl 1, .inl 400] S2) (fun S3 r3 => if r3 = 0 then (some (S3, some (some (.inl (-100001))))) else (cli (m_X6_in [.inl a4, .inl 1, .inl 40] S3) (fun S4 r4 => if r4 = 0 then (some (S4, some (some (.inl (-100001))))) else (if S4 0 9 = 80 then (some (S4, some (some (.inl (-100002))))) else (gA (S4 0 9) 80 (gA ((up2 S4 8 (S4 0 9).toNatClampNeg a1) 0 9) 80 (gA ((up2 (up2 S4 8 (S4 0 9).toNatClampNeg a1) 9 ((up2 S4 8 (S4 0 9).toNatClampNeg a1) 0 9).toNatClampNeg a2) 0 9) 80 (gA ((up2 (up2 (up2 S4 8 (S4 0 9).toNatClampNeg a1) 9 ((up2 S4 8 (S4 0 9).toNatClampNeg a1) 0 9).toNatClampNeg a2) 10 ((up2 (up2 S4 8 (S4 0 9).toNatClampNeg a1) 9 ((up2 S4 8 (S4 0 9).toNatClampNeg a1) 0 9).toNatClampNeg a2) 0 9).toNatClampNeg a3) 0 9) 80 (some (up2 (up2 (up2 (up2 (up2 (up2 S4 8 (S4 0 9).toNatClampNeg a1) 9 ((up2 S4 8 (S4 0 9).toNatClampNeg a1) 0 9).toNatClampNeg a2) 10 ((up2 (up2 S4 8 (S4 0 9).toNatClampNeg a1) 9 ((up2 S4 8 (S4 0 9).toNatClampNeg a1) 0 9).toNatClampNeg a2) 0 9).toNatClampNeg a3) 11 ((up2 (up2 (up2 S4 8 (S4 0 9).toNatClampNeg a1) 9 ((up2 S4 8 (S4 0 9).toNatClampNeg a1) 0 9).toNatClampNeg a2) 10 ((up2 (up2 S4 8 (S4 0 9).toNatClampNeg a1) 9 ((up2 S4 8 (S4 0 9).toNatClampNeg a1) 0 9).toNatClampNeg a2) 0 9).toNatClampNeg a3) 0 9).toNatClampNeg a4) 0 9 (((up2 (up2 (up2 (up2 S4 8 (S4 0 9).toNatClampNeg a1) 9 ((up2 S4 8 (S4 0 9).toNatClampNeg a1) 0 9).toNatClampNeg a2) 10 ((up2 (up2 S4 8 (S4 0 9).toNatClampNeg a1) 9 ((up2 S4 8 (S4 0 9).toNatClampNeg a1) 0 9).toNatClampNeg a2) 0 9).toNatClampNeg a3) 11 ((up2 (up2 (up2 S4 8 (S4 0 9).toNatClampNeg a1) 9 ((up2 S4 8 (S4 0 9).toNatClampNeg a1) 0 9).toNatClampNeg a2) 10 ((up2 (up2 S4 8 (S4 0 9).toNatClampNeg a1) 9 ((up2 S4 8 (S4 0 9).toNatClampNeg a1) 0 9).toNatClampNeg a2) 0 9).toNatClampNeg a3) 0 9).toNatClampNeg a4) 0 9) + 1)) 0 29 0, some (some (.inl (((up2 (up2 (up2 (up2 (up2 (up2 S4 8 (S4 0 9).toNatClampNeg a1) 9 ((up2 S4 8 (S4 0 9).toNatClampNeg a1) 0 9).toNatClampNeg a2) 10 ((up2 (up2 S4 8 (S4 0 9).toNatClampNeg a1) 9 ((up2 S4 8 (S4 0 9).toNatClampNeg a1) 0 9).toNatClampNeg a2) 0 9).toNatClampNeg a3) 11 ((up2 (up2 (up2 S4 8 (S4 0 9).toNatClampNeg a1) 9 ((up2 S4 8 (S4 0 9).toNatClampNeg a1) 0 9).toNatClampNeg a2) 10 ((up2 (up2 S4 8 (S4 0 9).toNatClampNeg a1) 9 ((up2 S4 8 (S4 0 9).toNatClampNeg a1) 0 9).toNatClampNeg a2) 0 9).toNatClampNeg a3) 0 9).toNatClampNeg a4) 0 9 (((up2 (up2 (up2 (up2 S4 8 (S4 0 9).toNatClampNeg a1) 9 ((up2 S4 8 (S4 0 9).toNatClampNeg a1) 0 9).toNatClampNeg a2) 10 ((up2 (up2 S4 8 (S4 0 9).toNatClampNeg a1) 9 ((up2 S4 8 (S4 0 9).toNatClampNeg a1) 0 9).toNatClampNeg a2) 0 9).toNatClampNeg a3) 11 ((up2 (up2 (up2 S4 8 (S4 0 9).toNatClampNeg a1) 9 ((up2 S4 8 (S4 0 9).toNatClampNeg a1) 0 9).toNatClampNeg a2) 10 ((up2 (up2 S4 8 (S4 0 9).toNatClampNeg a1) 9 ((up2 S4 8 (S4 0 9).toNatClampNeg a1) 0 9).toNatClampNeg a2) 0 9).toNatClampNeg a3) 0 9).toNatClampNeg a4) 0 9) + 1)) 0 29 0) 0 9) - 1)))))))))))))))))) := rfl
set_option maxRecDepth 100000 in
theorem u_X6_drop (S : XS) (a1 : Int32) : m_X6_drop [.inr 0, .inl a1] S = (cli (m_X6_isMark [.inr 0, .inl a1] (up2 S 0 0 0)) (fun S1 r1 => if r1 = 0 then (some (S1, some (some (.inl (-100001))))) else (gA a1 80 (some (up2 (up2 S1 12 a1.toNatClampNeg (vp_nar .boolean 1)) 0 29 0, some (some (.inl 1))))))) := rfl
set_option maxRecDepth 100000 in
theorem u_X6_slur (S : XS) (a1 a2 a3 a4 : Int32) : m_X6_slur [.inr 0, .inl a1, .inl a2, .inl a3, .inl a4] S = (cli (m_X6_isItem [.inr 0, .inl a1] (up2 S 0 0 0)) (fun S1 r1 => if r1 = 0 then (some (S1, some (some (.inl (-100001))))) else (cli (m_X6_isItem [.inr 0, .inl a2] S1) (fun S2 r2 => if r2 = 0 then (some (S2, some (some (.inl (-100001))))) else (cli (m_X6_isSide [.inl a3] S2) (fun S3 r3 => if r3 = 0 then (some (S3, some (some (.inl (-100001))))) else (cli (m_X6_in [.inl a4, .inl 1, .inl 20] S3) (fun S4 r4 => if r4 = 0 then (some (S4, some (some (.inl (-100001))))) else (gA a2 40 (gA a1 40 (if S4 1 a1.toNatClampNeg < S4 1 a2.toNatClampNeg then (if S4 0 20 = 10 then (some (S4, some (some (.inl (-100002))))) else (gA (S4 0 20) 10 (gA ((up2 S4 17 (S4 0 20).toNatClampNeg a1) 0 20) 10 (gA ((up2 (up2 S4 17 (S4 0 20).toNatClampNeg a1) 18 ((up2 S4 17 (S4 0 20).toNatClampNeg a1) 0 20).toNatClampNeg a2) 0 20) 10 (gA ((up2 (up2 (up2 S4 17 (S4 0 20).toNatClampNeg a1) 18 ((up2 S4 17 (S4 0 20).toNatClampNeg a1) 0 20).toNatClampNeg a2) 19 ((up2 (up2 S4 17 (S4 0 20).toNatClampNeg a1) 18 ((up2 S4 17 (S4 0 20).toNatClampNeg a1) 0 20).toNatClampNeg a2) 0 20).toNatClampNeg a3) 0 20) 10 (some (up2 (up2 (up2 (up2 (up2 (up2 S4 17 (S4 0 20).toNatClampNeg a1) 18 ((up2 S4 17 (S4 0 20).toNatClampNeg a1) 0 20).toNatClampNeg a2) 19 ((up2 (up2 S4 17 (S4 0 20).toNatClampNeg a1) 18 ((up2 S4 17 (S4 0 20).toNatClampNeg a1) 0 20).toNatClampNeg a2) 0 20).toNatClampNeg a3) 20 ((up2 (up2 (up2 S4 17 (S4 0 20).toNatClampNeg a1) 18 ((up2 S4 17 (S4 0 20).toNatClampNeg a1) 0 20).toNatClampNeg a2) 19 ((up2 (up2 S4 17 (S4 0 20).toNatClampNeg a1) 18 ((up2 S4 17 (S4 0 20).toNatClampNeg a1) 0 20).toNatClampNeg a2) 0 20).toNatClampNeg a3) 0 20).toNatClampNeg a4) 0 20 (((up2 (up2 (up2 (up2 S4 17 (S4 0 20).toNatClampNeg a1) 18 ((up2 S4 17 (S4 0 20).toNatClampNeg a1) 0 20).toNatClampNeg a2) 19 ((up2 (up2 S4 17 (S4 0 20).toNatClampNeg a1) 18 ((up2 S4 17 (S4 0 20).toNatClampNeg a1) 0 20).toNatClampNeg a2) 0 20).toNatClampNeg a3) 20 ((up2 (up2 (up2 S4 17 (S4 0 20).toNatClampNeg a1) 18 ((up2 S4 17 (S4 0 20).toNatClampNeg a1) 0 20).toNatClampNeg a2) 19 ((up2 (up2 S4 17 (S4 0 20).toNatClampNeg a1) 18 ((up2 S4 17 (S4 0 20).toNatClampNeg a1) 0 20).toNatClampNeg a2) 0 20).toNatClampNeg a3) 0 20).toNatClampNeg a4) 0 20) + 1)) 0 29 0, some (some (.inl (((up2 (up2 (up2 (up2 (up2 (up2 S4 17 (S4 0 20).toNatClampNeg a1) 18 ((up2 S4 17 (S4 0 20).toNatClampNeg a1) 0 20).toNatClampNeg a2) 19 ((up2 (up2 S4 17 (S4 0 20).toNatClampNeg a1) 18 ((up2 S4 17 (S4 0 20).toNatClampNeg a1) 0 20).toNatClampNeg a2) 0 20).toNatClampNeg a3) 20 ((up2 (up2 (up2 S4 17 (S4 0 20).toNatClampNeg a1) 18 ((up2 S4 17 (S4 0 20).toNatClampNeg a1) 0 20).toNatClampNeg a2) 19 ((up2 (up2 S4 17 (S4 0 20).toNatClampNeg a1) 18 ((up2 S4 17 (S4 0 20).toNatClampNeg a1) 0 20).toNatClampNeg a2) 0 20).toNatClampNeg a3) 0 20).toNatClampNeg a4) 0 20 (((up2 (up2 (up2 (up2 S4 17 (S4 0 20).toNatClampNeg a1) 18 ((up2 S4 17 (S4 0 20).toNatClampNeg a1) 0 20).toNatClampNeg a2) 19 ((up2 (up2 S4 17 (S4 0 20).toNatClampNeg a1) 18 ((up2 S4 17 (S4 0 20).toNatClampNeg a1) 0 20).toNatClampNeg a2) 0 20).toNatClampNeg a3) 20 ((up2 (up2 (up2 S4 17 (S4 0 20).toNatClampNeg a1) 18 ((up2 S4 17 (S4 0 20).toNatClampNeg a1) 0 20).toNatClampNeg a2) 19 ((up2 (up2 S4 17 (S4 0 20).toNatClampNeg a1) 18 ((up2 S4 17 (S4 0 20).toNatClampNeg a1) 0 20).toNatClampNeg a2) 0 20).toNatClampNeg a3) 0 20).toNatClampNeg a4) 0 20) + 1)) 0 29 0) 0 20) - 1)))))))))) else (some (S4, some (some (.inl (-100001)))))))))))))))) := rfl
set_option maxRecDepth 100000 in
theorem v_X6_areBoth (f6 : BT) (S : XS) : brn mT cs_X6_areBoth L_X6_areBoth [6] (dsp [(6, [0, 1, 2, 3], f6)]) 45 [] 0 [(0, .inr 0)] [] S = (f6 [(0, .inr 0), (1, .inl 0), (2, .inl 0), (3, .inl 0)] [] S) := rfl
theorem u_X6_areBoth (S : XS) : m_X6_areBoth [.inr 0] S = (b_X6_areBoth_6 fu [(0, .inr 0), (1, .inl 0), (2, .inl 0), (3, .inl 0)] [] S) := v_X6_areBoth _ S
set_option maxRecDepth 100000 in
theorem v_X6_areBoth_6 (f6 : BT) (S : XS) (a1 a2 a3 : Int32) : brn mT cs_X6_areBoth L_X6_areBoth [6] (dsp [(6, [0, 1, 2, 3], f6)]) 45 [] 6 [(0, .inr 0), (1, .inl a1), (2, .inl a2), (3, .inl a3)] [] S = (if S 0 1 ≤ a3 then (if a1 = 0 then (some (S, some (some (.inl 0)))) else (if a2 = 0 then (some (S, some (some (.inl 0)))) else (some (S, some (some (.inl 1)))))) else (gA a3 40 (if S 4 a3.toNatClampNeg = 0 then (gA a3 40 (if S 4 a3.toNatClampNeg = 1 then (f6 [(0, .inr 0), (1, .inl (a1 ||| 1)), (2, .inl (a2 ||| 1)), (3, .inl (a3 + 1))] [] S) else (f6 [(0, .inr 0), (1, .inl (a1 ||| 1)), (2, .inl (a2 ||| 0)), (3, .inl (a3 + 1))] [] S))) else (gA a3 40 (if S 4 a3.toNatClampNeg = 1 then (f6 [(0, .inr 0), (1, .inl (a1 ||| 0)), (2, .inl (a2 ||| 1)), (3, .inl (a3 + 1))] [] S) else (f6 [(0, .inr 0), (1, .inl (a1 ||| 0)), (2, .inl (a2 ||| 0)), (3, .inl (a3 + 1))] [] S)))))) := rfl
theorem u_X6_areBoth_6 (n : Nat) (S : XS) (a1 a2 a3 : Int32) : b_X6_areBoth_6 (n + 1) [(0, .inr 0), (1, .inl a1), (2, .inl a2), (3, .inl a3)] [] S = (if S 0 1 ≤ a3 then (if a1 = 0 then (some (S, some (some (.inl 0)))) else (if a2 = 0 then (some (S, some (some (.inl 0)))) else (some (S, some (some (.inl 1)))))) else (gA a3 40 (if S 4 a3.toNatClampNeg = 0 then (gA a3 40 (if S 4 a3.toNatClampNeg = 1 then (b_X6_areBoth_6 n [(0, .inr 0), (1, .inl (a1 ||| 1)), (2, .inl (a2 ||| 1)), (3, .inl (a3 + 1))] [] S) else (b_X6_areBoth_6 n [(0, .inr 0), (1, .inl (a1 ||| 1)), (2, .inl (a2 ||| 0)), (3, .inl (a3 + 1))] [] S))) else (gA a3 40 (if S 4 a3.toNatClampNeg = 1 then (b_X6_areBoth_6 n [(0, .inr 0), (1, .inl (a1 ||| 0)), (2, .inl (a2 ||| 1)), (3, .inl (a3 + 1))] [] S) else (b_X6_areBoth_6 n [(0, .inr 0), (1, .inl (a1 ||| 0)), (2, .inl (a2 ||| 0)), (3, .inl (a3 + 1))] [] S)))))) := v_X6_areBoth_6 _ S a1 a2 a3
set_option maxRecDepth 100000 in
theorem v_X6_sideOf (f54 : BT) (S : XS) (a1 : Int32) : brn mT cs_X6_sideOf L_X6_sideOf [54] (dsp [(54, [0, 2, 3], f54)]) 62 [] 0 [(0, .inr 0), (1, .inl a1)] [] S = (gA a1 80 (gA ((6 * (S 9 a1.toNatClampNeg)) + 1) 60 (if S 7 ((6 * (S 9 a1.toNatClampNeg)) + 1).toNatClampNeg ≤ 1 then (gA a1 80 (gA (S 8 a1.toNatClampNeg) 40 (if S 4 (S 8 a1.toNatClampNeg).toNatClampNeg = 0 then (f54 [(0, .inr 0), (2, .inl (S 7 ((6 * (S 9 a1.toNatClampNeg)) + 1).toNatClampNeg)), (3, .inl (S 8 a1.toNatClampNeg))] [.inl 1] S) else (f54 [(0, .inr 0), (2, .inl (S 7 ((6 * (S 9 a1.toNatClampNeg)) + 1).toNatClampNeg)), (3, .inl (S 8 a1.toNatClampNeg))] [.inl (-1)] S)))) else (if S 7 ((6 * (S 9 a1.toNatClampNeg)) + 1).toNatClampNeg = 2 then (some (S, some (some (.inl 1)))) else (some (S, some (some (.inl (-1))))))))) := rfl
theorem u_X6_sideOf (S : XS) (a1 : Int32) : m_X6_sideOf [.inr 0, .inl a1] S = (gA a1 80 (gA ((6 * (S 9 a1.toNatClampNeg)) + 1) 60 (if S 7 ((6 * (S 9 a1.toNatClampNeg)) + 1).toNatClampNeg ≤ 1 then (gA a1 80 (gA (S 8 a1.toNatClampNeg) 40 (if S 4 (S 8 a1.toNatClampNeg).toNatClampNeg = 0 then (b_X6_sideOf_54 [(0, .inr 0), (2, .inl (S 7 ((6 * (S 9 a1.toNatClampNeg)) + 1).toNatClampNeg)), (3, .inl (S 8 a1.toNatClampNeg))] [.inl 1] S) else (b_X6_sideOf_54 [(0, .inr 0), (2, .inl (S 7 ((6 * (S 9 a1.toNatClampNeg)) + 1).toNatClampNeg)), (3, .inl (S 8 a1.toNatClampNeg))] [.inl (-1)] S)))) else (if S 7 ((6 * (S 9 a1.toNatClampNeg)) + 1).toNatClampNeg = 2 then (some (S, some (some (.inl 1)))) else (some (S, some (some (.inl (-1))))))))) := v_X6_sideOf _ S a1
set_option maxRecDepth 100000 in
theorem u_X6_sideOf_54 (S : XS) (a2 a3 t0 : Int32) : b_X6_sideOf_54 [(0, .inr 0), (2, .inl a2), (3, .inl a3)] [.inl t0] S = (cli (m_X6_areBoth [.inr 0] S) (fun S1 r1 => if r1 = 0 then (gA a3 40 (if S1 5 a3.toNatClampNeg = 0 then (if a2 = 0 then (some (S1, some (some (.inl t0)))) else (some (S1, some (some (.inl (-t0)))))) else (gA a3 40 (if a2 = 0 then (some (S1, some (some (.inl (S1 5 a3.toNatClampNeg))))) else (some (S1, some (some (.inl (-(S1 5 a3.toNatClampNeg)))))))))) else (some (S1, some (some (.inl t0)))))) := rfl
set_option maxRecDepth 100000 in
theorem u_X6_left (S : XS) (a1 : Int32) : m_X6_left [.inr 0, .inl a1] S = (gA a1 80 (gA (S 8 a1.toNatClampNeg) 40 (gA a1 80 (gA ((6 * (S 9 a1.toNatClampNeg)) + 2) 60 (if S 7 ((6 * (S 9 a1.toNatClampNeg)) + 2).toNatClampNeg = 1 then (some (S, some (some (.inl (S 1 (S 8 a1.toNatClampNeg).toNatClampNeg))))) else (gA a1 80 (some (S, some (some (.inl ((S 1 (S 8 a1.toNatClampNeg).toNatClampNeg) - ((S 10 a1.toNatClampNeg) / 2)))))))))))) := rfl
set_option maxRecDepth 100000 in
theorem u_X6_above (S : XS) (a0 a1 a2 a3 a4 a5 : Int32) : m_X6_above [.inl a0, .inl a1, .inl a2, .inl a3, .inl a4, .inl a5] S = (if a4 < a1 then (some (S, some (some (.inl a0)))) else (if a2 < a3 then (some (S, some (some (.inl a0)))) else (if a5 ≤ a0 then (some (S, some (some (.inl a0)))) else (some (S, some (some (.inl a5))))))) := rfl
set_option maxRecDepth 100000 in
theorem v_X6_greatest (f7 : BT) (S : XS) (a1 a2 a3 : Int32) : brn mT cs_X6_greatest L_X6_greatest [7, 38, 100, 158, 237] (dsp [(7, [0, 1, 2, 3, 4, 5], f7)]) 183 [] 0 [(0, .inr 0), (1, .inl a1), (2, .inl a2), (3, .inl a3)] [] S = (f7 [(0, .inr 0), (1, .inl a1), (2, .inl a2), (3, .inl a3), (4, .inl 18), (5, .inl 0)] [] S) := rfl
theorem u_X6_greatest (S : XS) (a1 a2 a3 : Int32) : m_X6_greatest [.inr 0, .inl a1, .inl a2, .inl a3] S = (b_X6_greatest_7 fu [(0, .inr 0), (1, .inl a1), (2, .inl a2), (3, .inl a3), (4, .inl 18), (5, .inl 0)] [] S) := v_X6_greatest _ S a1 a2 a3
set_option maxRecDepth 100000 in
theorem v_X6_greatest_7 (f38 f158 : BT) (S : XS) (a1 a2 a3 a4 a5 : Int32) : brn mT cs_X6_greatest L_X6_greatest [7, 38, 100, 158, 237] (dsp [(38, [0, 1, 2, 3, 4, 5], f38), (158, [0, 1, 2, 3, 4, 5], f158)]) 183 [] 7 [(0, .inr 0), (1, .inl a1), (2, .inl a2), (3, .inl a3), (4, .inl a4), (5, .inl a5)] [] S = (if S 0 1 ≤ a5 then (f158 [(0, .inr 0), (1, .inl a1), (2, .inl a2), (3, .inl a3), (4, .inl a4), (5, .inl 0)] [] S) else (if a1 ≤ 0 then (gA a5 40 (f38 [(0, .inr 0), (1, .inl a1), (2, .inl a2), (3, .inl a3), (4, .inl a4), (5, .inl a5)] [.inl (-(S 2 a5.toNatClampNeg))] S)) else (gA a5 40 (f38 [(0, .inr 0), (1, .inl a1), (2, .inl a2), (3, .inl a3), (4, .inl a4), (5, .inl a5)] [.inl (S 3 a5.toNatClampNeg)] S)))) := rfl
theorem u_X6_greatest_7 (n : Nat) (S : XS) (a1 a2 a3 a4 a5 : Int32) : b_X6_greatest_7 (n + 1) [(0, .inr 0), (1, .inl a1), (2, .inl a2), (3, .inl a3), (4, .inl a4), (5, .inl a5)] [] S = (if S 0 1 ≤ a5 then (b_X6_greatest_158 fu [(0, .inr 0), (1, .inl a1), (2, .inl a2), (3, .inl a3), (4, .inl a4), (5, .inl 0)] [] S) else (if a1 ≤ 0 then (gA a5 40 (b_X6_greatest_38 (b_X6_greatest_7 n) [(0, .inr 0), (1, .inl a1), (2, .inl a2), (3, .inl a3), (4, .inl a4), (5, .inl a5)] [.inl (-(S 2 a5.toNatClampNeg))] S)) else (gA a5 40 (b_X6_greatest_38 (b_X6_greatest_7 n) [(0, .inr 0), (1, .inl a1), (2, .inl a2), (3, .inl a3), (4, .inl a4), (5, .inl a5)] [.inl (S 3 a5.toNatClampNeg)] S)))) := v_X6_greatest_7 _ _ S a1 a2 a3 a4 a5
set_option maxRecDepth 100000 in
theorem v_X6_greatest_38 (f100 : BT) (S : XS) (a1 a2 a3 a4 a5 t0 : Int32) : brn mT cs_X6_greatest L_X6_greatest [7, 38, 100, 158, 237] (dsp [(100, [0, 1, 2, 3, 5, 6], f100)]) 183 [] 38 [(0, .inr 0), (1, .inl a1), (2, .inl a2), (3, .inl a3), (4, .inl a4), (5, .inl a5)] [.inl t0] S = (gA a5 40 (if S 6 a5.toNatClampNeg = 0 then (gA a5 40 (gA a5 40 (gA a5 40 (if S 6 a5.toNatClampNeg = 0 then (f100 [(0, .inr 0), (1, .inl a1), (2, .inl a2), (3, .inl a3), (5, .inl a5), (6, .inl t0)] [.inl 4, .inl t0, .inl a3, .inl a2, .inl ((S 1 a5.toNatClampNeg) + 6), .inl ((S 1 a5.toNatClampNeg) - 6), .inl a4] S) else (f100 [(0, .inr 0), (1, .inl a1), (2, .inl a2), (3, .inl a3), (5, .inl a5), (6, .inl t0)] [.inl 8, .inl t0, .inl a3, .inl a2, .inl ((S 1 a5.toNatClampNeg) + 6), .inl ((S 1 a5.toNatClampNeg) - 6), .inl a4] S))))) else (gA a5 40 (gA a5 40 (gA a5 40 (if S 6 a5.toNatClampNeg = 0 then (f100 [(0, .inr 0), (1, .inl a1), (2, .inl a2), (3, .inl a3), (5, .inl a5), (6, .inl t0)] [.inl 4, .inl t0, .inl a3, .inl a2, .inl ((S 1 a5.toNatClampNeg) + 5), .inl ((S 1 a5.toNatClampNeg) - 5), .inl a4] S) else (f100 [(0, .inr 0), (1, .inl a1), (2, .inl a2), (3, .inl a3), (5, .inl a5), (6, .inl t0)] [.inl 8, .inl t0, .inl a3, .inl a2, .inl ((S 1 a5.toNatClampNeg) + 5), .inl ((S 1 a5.toNatClampNeg) - 5), .inl a4] S))))))) := rfl
theorem u_X6_greatest_38 (k7 : BT) (S : XS) (a1 a2 a3 a4 a5 t0 : Int32) : b_X6_greatest_38 k7 [(0, .inr 0), (1, .inl a1), (2, .inl a2), (3, .inl a3), (4, .inl a4), (5, .inl a5)] [.inl t0] S = (gA a5 40 (if S 6 a5.toNatClampNeg = 0 then (gA a5 40 (gA a5 40 (gA a5 40 (if S 6 a5.toNatClampNeg = 0 then (b_X6_greatest_100 k7 [(0, .inr 0), (1, .inl a1), (2, .inl a2), (3, .inl a3), (5, .inl a5), (6, .inl t0)] [.inl 4, .inl t0, .inl a3, .inl a2, .inl ((S 1 a5.toNatClampNeg) + 6), .inl ((S 1 a5.toNatClampNeg) - 6), .inl a4] S) else (b_X6_greatest_100 k7 [(0, .inr 0), (1, .inl a1), (2, .inl a2), (3, .inl a3), (5, .inl a5), (6, .inl t0)] [.inl 8, .inl t0, .inl a3, .inl a2, .inl ((S 1 a5.toNatClampNeg) + 6), .inl ((S 1 a5.toNatClampNeg) - 6), .inl a4] S))))) else (gA a5 40 (gA a5 40 (gA a5 40 (if S 6 a5.toNatClampNeg = 0 then (b_X6_greatest_100 k7 [(0, .inr 0), (1, .inl a1), (2, .inl a2), (3, .inl a3), (5, .inl a5), (6, .inl t0)] [.inl 4, .inl t0, .inl a3, .inl a2, .inl ((S 1 a5.toNatClampNeg) + 5), .inl ((S 1 a5.toNatClampNeg) - 5), .inl a4] S) else (b_X6_greatest_100 k7 [(0, .inr 0), (1, .inl a1), (2, .inl a2), (3, .inl a3), (5, .inl a5), (6, .inl t0)] [.inl 8, .inl t0, .inl a3, .inl a2, .inl ((S 1 a5.toNatClampNeg) + 5), .inl ((S 1 a5.toNatClampNeg) - 5), .inl a4] S))))))) := v_X6_greatest_38 _ S a1 a2 a3 a4 a5 t0
set_option maxRecDepth 100000 in
theorem v_X6_greatest_100 (f7 : BT) (S : XS) (a1 a2 a3 a5 a6 t0 t1 t2 t3 t4 t5 t6 : Int32) : brn mT cs_X6_greatest L_X6_greatest [7, 38, 100, 158, 237] (dsp [(7, [0, 1, 2, 3, 4, 5], f7)]) 183 [] 100 [(0, .inr 0), (1, .inl a1), (2, .inl a2), (3, .inl a3), (5, .inl a5), (6, .inl a6)] [.inl t0, .inl t1, .inl t2, .inl t3, .inl t4, .inl t5, .inl t6] S = (cli (m_X6_above [.inl t6, .inl t5, .inl t4, .inl t3, .inl t2, .inl (t1 + t0)] S) (fun S1 r1 => gA a5 40 (if S1 5 a5.toNatClampNeg = a1 then (gA a5 40 (gA a5 40 (cli (m_X6_above [.inl r1, .inl ((S1 1 a5.toNatClampNeg) - 1), .inl ((S1 1 a5.toNatClampNeg) + 1), .inl a2, .inl a3, .inl (a6 + 28)] S1) (fun S2 r2 => f7 [(0, .inr 0), (1, .inl a1), (2, .inl a2), (3, .inl a3), (4, .inl r2), (5, .inl (a5 + 1))] [] S2)))) else (f7 [(0, .inr 0), (1, .inl a1), (2, .inl a2), (3, .inl a3), (4, .inl r1), (5, .inl (a5 + 1))] [] S1)))) := rfl
theorem u_X6_greatest_100 (k7 : BT) (S : XS) (a1 a2 a3 a5 a6 t0 t1 t2 t3 t4 t5 t6 : Int32) : b_X6_greatest_100 k7 [(0, .inr 0), (1, .inl a1), (2, .inl a2), (3, .inl a3), (5, .inl a5), (6, .inl a6)] [.inl t0, .inl t1, .inl t2, .inl t3, .inl t4, .inl t5, .inl t6] S = (cli (m_X6_above [.inl t6, .inl t5, .inl t4, .inl t3, .inl t2, .inl (t1 + t0)] S) (fun S1 r1 => gA a5 40 (if S1 5 a5.toNatClampNeg = a1 then (gA a5 40 (gA a5 40 (cli (m_X6_above [.inl r1, .inl ((S1 1 a5.toNatClampNeg) - 1), .inl ((S1 1 a5.toNatClampNeg) + 1), .inl a2, .inl a3, .inl (a6 + 28)] S1) (fun S2 r2 => k7 [(0, .inr 0), (1, .inl a1), (2, .inl a2), (3, .inl a3), (4, .inl r2), (5, .inl (a5 + 1))] [] S2)))) else (k7 [(0, .inr 0), (1, .inl a1), (2, .inl a2), (3, .inl a3), (4, .inl r1), (5, .inl (a5 + 1))] [] S1)))) := v_X6_greatest_100 _ S a1 a2 a3 a5 a6 t0 t1 t2 t3 t4 t5 t6
set_option maxRecDepth 100000 in
theorem v_X6_greatest_158 (f158 f237 : BT) (S : XS) (a1 a2 a3 a4 a5 : Int32) : brn mT cs_X6_greatest L_X6_greatest [7, 38, 100, 158, 237] (dsp [(158, [0, 1, 2, 3, 4, 5], f158), (237, [0, 1, 2, 3, 4, 5], f237)]) 183 [] 158 [(0, .inr 0), (1, .inl a1), (2, .inl a2), (3, .inl a3), (4, .inl a4), (5, .inl a5)] [] S = (if S 0 26 ≤ a5 then (f237 [(0, .inr 0), (1, .inl a1), (2, .inl a2), (3, .inl a3), (4, .inl a4), (5, .inl 0)] [] S) else (gA a5 10 (if S 19 a5.toNatClampNeg = a1 then (gA a5 10 (gA (S 17 a5.toNatClampNeg) 40 (gA a5 10 (gA (S 18 a5.toNatClampNeg) 40 (gA a5 10 (gA a5 10 (cli (m_X6_above [.inl a4, .inl (S 1 (S 17 a5.toNatClampNeg).toNatClampNeg), .inl (S 1 (S 18 a5.toNatClampNeg).toNatClampNeg), .inl a2, .inl a3, .inl (((S 21 a5.toNatClampNeg) + (S 20 a5.toNatClampNeg)) + 3)] S) (fun S1 r1 => f158 [(0, .inr 0), (1, .inl a1), (2, .inl a2), (3, .inl a3), (4, .inl r1), (5, .inl (a5 + 1))] [] S1)))))))) else (f158 [(0, .inr 0), (1, .inl a1), (2, .inl a2), (3, .inl a3), (4, .inl a4), (5, .inl (a5 + 1))] [] S)))) := rfl
theorem u_X6_greatest_158 (n : Nat) (S : XS) (a1 a2 a3 a4 a5 : Int32) : b_X6_greatest_158 (n + 1) [(0, .inr 0), (1, .inl a1), (2, .inl a2), (3, .inl a3), (4, .inl a4), (5, .inl a5)] [] S = (if S 0 26 ≤ a5 then (b_X6_greatest_237 fu [(0, .inr 0), (1, .inl a1), (2, .inl a2), (3, .inl a3), (4, .inl a4), (5, .inl 0)] [] S) else (gA a5 10 (if S 19 a5.toNatClampNeg = a1 then (gA a5 10 (gA (S 17 a5.toNatClampNeg) 40 (gA a5 10 (gA (S 18 a5.toNatClampNeg) 40 (gA a5 10 (gA a5 10 (cli (m_X6_above [.inl a4, .inl (S 1 (S 17 a5.toNatClampNeg).toNatClampNeg), .inl (S 1 (S 18 a5.toNatClampNeg).toNatClampNeg), .inl a2, .inl a3, .inl (((S 21 a5.toNatClampNeg) + (S 20 a5.toNatClampNeg)) + 3)] S) (fun S1 r1 => b_X6_greatest_158 n [(0, .inr 0), (1, .inl a1), (2, .inl a2), (3, .inl a3), (4, .inl r1), (5, .inl (a5 + 1))] [] S1)))))))) else (b_X6_greatest_158 n [(0, .inr 0), (1, .inl a1), (2, .inl a2), (3, .inl a3), (4, .inl a4), (5, .inl (a5 + 1))] [] S)))) := v_X6_greatest_158 _ _ S a1 a2 a3 a4 a5
set_option maxRecDepth 100000 in
theorem v_X6_greatest_237 (f237 : BT) (S : XS) (a1 a2 a3 a4 a5 : Int32) : brn mT cs_X6_greatest L_X6_greatest [7, 38, 100, 158, 237] (dsp [(237, [0, 1, 2, 3, 4, 5], f237)]) 183 [] 237 [(0, .inr 0), (1, .inl a1), (2, .inl a2), (3, .inl a3), (4, .inl a4), (5, .inl a5)] [] S = (if S 0 9 ≤ a5 then (some (S, some (some (.inl a4)))) else (gA a5 80 (if S 12 a5.toNatClampNeg = 0 then (gA a5 80 (if S 13 a5.toNatClampNeg = 0 then (f237 [(0, .inr 0), (1, .inl a1), (2, .inl a2), (3, .inl a3), (4, .inl a4), (5, .inl (a5 + 1))] [] S) else (cli (m_X6_sideOf [.inr 0, .inl a5] S) (fun S1 r1 => if r1 = a1 then (cli (m_X6_left [.inr 0, .inl a5] S1) (fun S2 r2 => cli (m_X6_left [.inr 0, .inl a5] S2) (fun S3 r3 => gA a5 80 (gA a5 80 (gA a5 80 (cli (m_X6_above [.inl a4, .inl r2, .inl ((r3 + (S3 10 a5.toNatClampNeg)) - 1), .inl a2, .inl a3, .inl ((S3 14 a5.toNatClampNeg) + (S3 11 a5.toNatClampNeg))] S3) (fun S4 r4 => f237 [(0, .inr 0), (1, .inl a1), (2, .inl a2), (3, .inl a3), (4, .inl r4), (5, .inl (a5 + 1))] [] S4))))))) else (f237 [(0, .inr 0), (1, .inl a1), (2, .inl a2), (3, .inl a3), (4, .inl a4), (5, .inl (a5 + 1))] [] S1))))) else (f237 [(0, .inr 0), (1, .inl a1), (2, .inl a2), (3, .inl a3), (4, .inl a4), (5, .inl (a5 + 1))] [] S)))) := rfl
theorem u_X6_greatest_237 (n : Nat) (S : XS) (a1 a2 a3 a4 a5 : Int32) : b_X6_greatest_237 (n + 1) [(0, .inr 0), (1, .inl a1), (2, .inl a2), (3, .inl a3), (4, .inl a4), (5, .inl a5)] [] S = (if S 0 9 ≤ a5 then (some (S, some (some (.inl a4)))) else (gA a5 80 (if S 12 a5.toNatClampNeg = 0 then (gA a5 80 (if S 13 a5.toNatClampNeg = 0 then (b_X6_greatest_237 n [(0, .inr 0), (1, .inl a1), (2, .inl a2), (3, .inl a3), (4, .inl a4), (5, .inl (a5 + 1))] [] S) else (cli (m_X6_sideOf [.inr 0, .inl a5] S) (fun S1 r1 => if r1 = a1 then (cli (m_X6_left [.inr 0, .inl a5] S1) (fun S2 r2 => cli (m_X6_left [.inr 0, .inl a5] S2) (fun S3 r3 => gA a5 80 (gA a5 80 (gA a5 80 (cli (m_X6_above [.inl a4, .inl r2, .inl ((r3 + (S3 10 a5.toNatClampNeg)) - 1), .inl a2, .inl a3, .inl ((S3 14 a5.toNatClampNeg) + (S3 11 a5.toNatClampNeg))] S3) (fun S4 r4 => b_X6_greatest_237 n [(0, .inr 0), (1, .inl a1), (2, .inl a2), (3, .inl a3), (4, .inl r4), (5, .inl (a5 + 1))] [] S4))))))) else (b_X6_greatest_237 n [(0, .inr 0), (1, .inl a1), (2, .inl a2), (3, .inl a3), (4, .inl a4), (5, .inl (a5 + 1))] [] S1))))) else (b_X6_greatest_237 n [(0, .inr 0), (1, .inl a1), (2, .inl a2), (3, .inl a3), (4, .inl a4), (5, .inl (a5 + 1))] [] S)))) := v_X6_greatest_237 _ S a1 a2 a3 a4 a5
set_option maxRecDepth 100000 in
theorem u_X6_own (S : XS) (a1 : Int32) : m_X6_own [.inr 0, .inl a1] S = (gA a1 80 (gA ((6 * (S 9 a1.toNatClampNeg)) + 3) 60 (cli (m_X6_sideOf [.inr 0, .inl a1] S) (fun S1 r1 => cli (m_X6_left [.inr 0, .inl a1] S1) (fun S2 r2 => cli (m_X6_left [.inr 0, .inl a1] S2) (fun S3 r3 => gA a1 80 (cli (m_X6_greatest [.inr 0, .inl r1, .inl (r2 - 1), .inl (r3 + (S3 10 a1.toNatClampNeg))] S3) (fun S4 r4 => some (S4, some (some (.inl ((S 7 ((6 * (S 9 a1.toNatClampNeg)) + 3).toNatClampNeg) + r4)))))))))))) := rfl
set_option maxRecDepth 100000 in
theorem u_X6_lie (S : XS) (a1 a2 a3 : Int32) : m_X6_lie [.inr 0, .inl a1, .inl a2, .inl a3] S = (gA a1 80 (gA a1 80 (gA a1 80 (gA a1 80 (some (up2 (up2 (up2 (up2 (up2 S 14 a1.toNatClampNeg a2) 15 a1.toNatClampNeg (vp_nar .boolean a3)) 13 a1.toNatClampNeg (vp_nar .boolean 1)) 16 a1.toNatClampNeg ((up2 (up2 (up2 S 14 a1.toNatClampNeg a2) 15 a1.toNatClampNeg (vp_nar .boolean a3)) 13 a1.toNatClampNeg (vp_nar .boolean 1)) 0 19)) 0 19 (((up2 (up2 (up2 (up2 S 14 a1.toNatClampNeg a2) 15 a1.toNatClampNeg (vp_nar .boolean a3)) 13 a1.toNatClampNeg (vp_nar .boolean 1)) 16 a1.toNatClampNeg ((up2 (up2 (up2 S 14 a1.toNatClampNeg a2) 15 a1.toNatClampNeg (vp_nar .boolean a3)) 13 a1.toNatClampNeg (vp_nar .boolean 1)) 0 19)) 0 19) + 1), some none)))))) := rfl
set_option maxRecDepth 100000 in
theorem u_X6_isAhead (S : XS) (a1 a2 : Int32) : m_X6_isAhead [.inr 0, .inl a1, .inl a2] S = (gA a1 80 (gA a2 80 (gA ((6 * (S 9 a1.toNatClampNeg)) + 5) 60 (gA ((6 * (S 9 a2.toNatClampNeg)) + 5) 60 (if S 7 ((6 * (S 9 a1.toNatClampNeg)) + 5).toNatClampNeg = S 7 ((6 * (S 9 a2.toNatClampNeg)) + 5).toNatClampNeg then (gA (6 * (S 9 a1.toNatClampNeg)) 60 (gA (6 * (S 9 a2.toNatClampNeg)) 60 (if S 7 (6 * (S 9 a1.toNatClampNeg)).toNatClampNeg = S 7 (6 * (S 9 a2.toNatClampNeg)).toNatClampNeg then (gA a1 80 (gA (S 8 a1.toNatClampNeg) 40 (gA a2 80 (gA (S 8 a2.toNatClampNeg) 40 (if S 1 (S 8 a1.toNatClampNeg).toNatClampNeg = S 1 (S 8 a2.toNatClampNeg).toNatClampNeg then (if a2 ≤ a1 then (some (S, some (some (.inl 0)))) else (some (S, some (some (.inl 1))))) else (if S 1 (S 8 a2.toNatClampNeg).toNatClampNeg ≤ S 1 (S 8 a1.toNatClampNeg).toNatClampNeg then (some (S, some (some (.inl 0)))) else (some (S, some (some (.inl 1)))))))))) else (gA (6 * (S 9 a1.toNatClampNeg)) 60 (gA (6 * (S 9 a2.toNatClampNeg)) 60 (if S 7 (6 * (S 9 a2.toNatClampNeg)).toNatClampNeg ≤ S 7 (6 * (S 9 a1.toNatClampNeg)).toNatClampNeg then (some (S, some (some (.inl 0)))) else (some (S, some (some (.inl 1)))))))))) else (gA ((6 * (S 9 a1.toNatClampNeg)) + 5) 60 (gA ((6 * (S 9 a2.toNatClampNeg)) + 5) 60 (if S 7 ((6 * (S 9 a2.toNatClampNeg)) + 5).toNatClampNeg ≤ S 7 ((6 * (S 9 a1.toNatClampNeg)) + 5).toNatClampNeg then (some (S, some (some (.inl 0)))) else (some (S, some (some (.inl 1)))))))))))) := rfl
set_option maxRecDepth 100000 in
theorem u_X6_cover (S : XS) (a1 a2 : Int32) : m_X6_cover [.inr 0, .inl a1, .inl a2] S = (cli (m_X6_left [.inr 0, .inl a1] S) (fun S1 r1 => cli (m_X6_left [.inr 0, .inl a2] S1) (fun S2 r2 => gA a2 80 (if r2 + (S2 10 a2.toNatClampNeg) ≤ r1 then (some (S2, some (some (.inl 0)))) else (cli (m_X6_left [.inr 0, .inl a2] S2) (fun S3 r3 => cli (m_X6_left [.inr 0, .inl a1] S3) (fun S4 r4 => gA a1 80 (if r4 + (S4 10 a1.toNatClampNeg) ≤ r3 then (some (S4, some (some (.inl 0)))) else (some (S4, some (some (.inl 1)))))))))))) := rfl
set_option maxRecDepth 100000 in
theorem v_X6_gather (f5 : BT) (S : XS) (a1 a2 : Int32) : brn mT cs_X6_gather L_X6_gather [5, 48] (dsp [(5, [0, 1, 2, 3, 4], f5)]) 62 [] 0 [(0, .inr 0), (1, .inl a1), (2, .inl a2)] [] S = (f5 [(0, .inr 0), (1, .inl a1), (2, .inl a2), (3, .inl 0), (4, .inl 0)] [] S) := rfl
theorem u_X6_gather (S : XS) (a1 a2 : Int32) : m_X6_gather [.inr 0, .inl a1, .inl a2] S = (b_X6_gather_5 fu [(0, .inr 0), (1, .inl a1), (2, .inl a2), (3, .inl 0), (4, .inl 0)] [] S) := v_X6_gather _ S a1 a2
set_option maxRecDepth 100000 in
theorem v_X6_gather_5 (f5 f48 : BT) (S : XS) (a1 a2 a3 a4 : Int32) : brn mT cs_X6_gather L_X6_gather [5, 48] (dsp [(5, [0, 1, 2, 3, 4], f5), (48, [0, 1, 2, 3, 4, 5], f48)]) 62 [] 5 [(0, .inr 0), (1, .inl a1), (2, .inl a2), (3, .inl a3), (4, .inl a4)] [] S = (if S 0 9 ≤ a4 then (some (S, some (some (.inl a3)))) else (gA a4 80 (if S 12 a4.toNatClampNeg = 0 then (gA a4 80 (if S 9 a4.toNatClampNeg = a1 then (cli (m_X6_sideOf [.inr 0, .inl a4] S) (fun S1 r1 => if r1 = a2 then (f48 [(0, .inr 0), (1, .inl a1), (2, .inl a2), (3, .inl a3), (4, .inl a4), (5, .inl a3)] [] S1) else (f5 [(0, .inr 0), (1, .inl a1), (2, .inl a2), (3, .inl a3), (4, .inl (a4 + 1))] [] S1))) else (f5 [(0, .inr 0), (1, .inl a1), (2, .inl a2), (3, .inl a3), (4, .inl (a4 + 1))] [] S))) else (f5 [(0, .inr 0), (1, .inl a1), (2, .inl a2), (3, .inl a3), (4, .inl (a4 + 1))] [] S)))) := rfl
theorem u_X6_gather_5 (n : Nat) (S : XS) (a1 a2 a3 a4 : Int32) : b_X6_gather_5 (n + 1) [(0, .inr 0), (1, .inl a1), (2, .inl a2), (3, .inl a3), (4, .inl a4)] [] S = (if S 0 9 ≤ a4 then (some (S, some (some (.inl a3)))) else (gA a4 80 (if S 12 a4.toNatClampNeg = 0 then (gA a4 80 (if S 9 a4.toNatClampNeg = a1 then (cli (m_X6_sideOf [.inr 0, .inl a4] S) (fun S1 r1 => if r1 = a2 then (b_X6_gather_48 (b_X6_gather_5 n) fu [(0, .inr 0), (1, .inl a1), (2, .inl a2), (3, .inl a3), (4, .inl a4), (5, .inl a3)] [] S1) else (b_X6_gather_5 n [(0, .inr 0), (1, .inl a1), (2, .inl a2), (3, .inl a3), (4, .inl (a4 + 1))] [] S1))) else (b_X6_gather_5 n [(0, .inr 0), (1, .inl a1), (2, .inl a2), (3, .inl a3), (4, .inl (a4 + 1))] [] S))) else (b_X6_gather_5 n [(0, .inr 0), (1, .inl a1), (2, .inl a2), (3, .inl a3), (4, .inl (a4 + 1))] [] S)))) := v_X6_gather_5 _ _ S a1 a2 a3 a4
set_option maxRecDepth 100000 in
theorem v_X6_gather_48 (f5 f48 : BT) (S : XS) (a1 a2 a3 a4 a5 : Int32) : brn mT cs_X6_gather L_X6_gather [5, 48] (dsp [(5, [0, 1, 2, 3, 4], f5), (48, [0, 1, 2, 3, 4, 5], f48)]) 62 [] 48 [(0, .inr 0), (1, .inl a1), (2, .inl a2), (3, .inl a3), (4, .inl a4), (5, .inl a5)] [] S = (if a5 ≤ 0 then (gA a5 80 (f5 [(0, .inr 0), (1, .inl a1), (2, .inl a2), (3, .inl (a3 + 1)), (4, .inl (a4 + 1))] [] (up2 S 24 a5.toNatClampNeg a4))) else (gA (a5 - 1) 80 (cli (m_X6_isAhead [.inr 0, .inl a4, .inl (S 24 (a5 - 1).toNatClampNeg)] S) (fun S1 r1 => if r1 = 0 then (gA a5 80 (f5 [(0, .inr 0), (1, .inl a1), (2, .inl a2), (3, .inl (a3 + 1)), (4, .inl (a4 + 1))] [] (up2 S1 24 a5.toNatClampNeg a4))) else (gA (a5 - 1) 80 (gA a5 80 (f48 [(0, .inr 0), (1, .inl a1), (2, .inl a2), (3, .inl a3), (4, .inl a4), (5, .inl (a5 + (-1)))] [] (up2 S1 24 a5.toNatClampNeg (S1 24 (a5 - 1).toNatClampNeg))))))))) := rfl
theorem u_X6_gather_48 (k5 : BT) (n : Nat) (S : XS) (a1 a2 a3 a4 a5 : Int32) : b_X6_gather_48 k5 (n + 1) [(0, .inr 0), (1, .inl a1), (2, .inl a2), (3, .inl a3), (4, .inl a4), (5, .inl a5)] [] S = (if a5 ≤ 0 then (gA a5 80 (k5 [(0, .inr 0), (1, .inl a1), (2, .inl a2), (3, .inl (a3 + 1)), (4, .inl (a4 + 1))] [] (up2 S 24 a5.toNatClampNeg a4))) else (gA (a5 - 1) 80 (cli (m_X6_isAhead [.inr 0, .inl a4, .inl (S 24 (a5 - 1).toNatClampNeg)] S) (fun S1 r1 => if r1 = 0 then (gA a5 80 (k5 [(0, .inr 0), (1, .inl a1), (2, .inl a2), (3, .inl (a3 + 1)), (4, .inl (a4 + 1))] [] (up2 S1 24 a5.toNatClampNeg a4))) else (gA (a5 - 1) 80 (gA a5 80 (b_X6_gather_48 k5 n [(0, .inr 0), (1, .inl a1), (2, .inl a2), (3, .inl a3), (4, .inl a4), (5, .inl (a5 + (-1)))] [] (up2 S1 24 a5.toNatClampNeg (S1 24 (a5 - 1).toNatClampNeg))))))))) := v_X6_gather_48 _ _ S a1 a2 a3 a4 a5
set_option maxRecDepth 100000 in
theorem v_X6_lieRow (f19 : BT) (S : XS) (a1 a2 : Int32) : brn mT cs_X6_lieRow L_X6_lieRow [19, 31, 151, 230] (dsp [(19, [0, 1, 2, 3, 4, 5], f19)]) 156 [] 0 [(0, .inr 0), (1, .inl a1), (2, .inl a2)] [] S = (cli (m_X6_gather [.inr 0, .inl a1, .inl a2] S) (fun S1 r1 => if r1 = 0 then (some (S1, some (some (.inl 0)))) else (f19 [(0, .inr 0), (1, .inl a1), (2, .inl a2), (3, .inl r1), (4, .inl 0), (5, .inl 0)] [] S1))) := rfl
theorem u_X6_lieRow (S : XS) (a1 a2 : Int32) : m_X6_lieRow [.inr 0, .inl a1, .inl a2] S = (cli (m_X6_gather [.inr 0, .inl a1, .inl a2] S) (fun S1 r1 => if r1 = 0 then (some (S1, some (some (.inl 0)))) else (b_X6_lieRow_19 fu [(0, .inr 0), (1, .inl a1), (2, .inl a2), (3, .inl r1), (4, .inl 0), (5, .inl 0)] [] S1))) := v_X6_lieRow _ S a1 a2
set_option maxRecDepth 100000 in
theorem v_X6_lieRow_19 (f31 f151 : BT) (S : XS) (a1 a2 a3 a4 a5 : Int32) : brn mT cs_X6_lieRow L_X6_lieRow [19, 31, 151, 230] (dsp [(31, [0, 1, 2, 3, 4, 5, 6, 7], f31), (151, [0, 1, 2, 3, 4, 5], f151)]) 156 [] 19 [(0, .inr 0), (1, .inl a1), (2, .inl a2), (3, .inl a3), (4, .inl a4), (5, .inl a5)] [] S = (if a3 ≤ a5 then (f151 [(0, .inr 0), (1, .inl a1), (2, .inl a2), (3, .inl a3), (4, .inl a4), (5, .inl 0)] [] S) else (f31 [(0, .inr 0), (1, .inl a1), (2, .inl a2), (3, .inl a3), (4, .inl a4), (5, .inl a5), (6, .inl 1), (7, .inl 0)] [] S)) := rfl
theorem u_X6_lieRow_19 (n : Nat) (S : XS) (a1 a2 a3 a4 a5 : Int32) : b_X6_lieRow_19 (n + 1) [(0, .inr 0), (1, .inl a1), (2, .inl a2), (3, .inl a3), (4, .inl a4), (5, .inl a5)] [] S = (if a3 ≤ a5 then (b_X6_lieRow_151 fu [(0, .inr 0), (1, .inl a1), (2, .inl a2), (3, .inl a3), (4, .inl a4), (5, .inl 0)] [] S) else (b_X6_lieRow_31 (b_X6_lieRow_19 n) fu [(0, .inr 0), (1, .inl a1), (2, .inl a2), (3, .inl a3), (4, .inl a4), (5, .inl a5), (6, .inl 1), (7, .inl 0)] [] S)) := v_X6_lieRow_19 _ _ S a1 a2 a3 a4 a5
set_option maxRecDepth 100000 in
theorem v_X6_lieRow_31 (f19 f31 : BT) (S : XS) (a1 a2 a3 a4 a5 a6 a7 : Int32) : brn mT cs_X6_lieRow L_X6_lieRow [19, 31, 151, 230] (dsp [(19, [0, 1, 2, 3, 4, 5], f19), (31, [0, 1, 2, 3, 4, 5, 6, 7], f31)]) 156 [] 31 [(0, .inr 0), (1, .inl a1), (2, .inl a2), (3, .inl a3), (4, .inl a4), (5, .inl a5), (6, .inl a6), (7, .inl a7)] [] S = (if a5 ≤ a7 then (gA a5 80 (gA (S 24 a5.toNatClampNeg) 80 (if a6 = 0 then (if 0 ≤ a4 then (f19 [(0, .inr 0), (1, .inl a1), (2, .inl a2), (3, .inl a3), (4, .inl a4), (5, .inl (a5 + 1))] [] (up2 S 15 (S 24 a5.toNatClampNeg).toNatClampNeg (vp_nar .boolean a6))) else (f19 [(0, .inr 0), (1, .inl a1), (2, .inl a2), (3, .inl a3), (4, .inl 0), (5, .inl (a5 + 1))] [] (up2 S 15 (S 24 a5.toNatClampNeg).toNatClampNeg (vp_nar .boolean a6)))) else (gA a5 80 (cli (m_X6_own [.inr 0, .inl ((up2 S 15 (S 24 a5.toNatClampNeg).toNatClampNeg (vp_nar .boolean a6)) 24 a5.toNatClampNeg)] (up2 S 15 (S 24 a5.toNatClampNeg).toNatClampNeg (vp_nar .boolean a6))) (fun S1 r1 => if r1 ≤ a4 then (f19 [(0, .inr 0), (1, .inl a1), (2, .inl a2), (3, .inl a3), (4, .inl a4), (5, .inl (a5 + 1))] [] S1) else (f19 [(0, .inr 0), (1, .inl a1), (2, .inl a2), (3, .inl a3), (4, .inl r1), (5, .inl (a5 + 1))] [] S1))))))) else (gA a7 80 (gA (S 24 a7.toNatClampNeg) 80 (if S 15 (S 24 a7.toNatClampNeg).toNatClampNeg = 0 then (f31 [(0, .inr 0), (1, .inl a1), (2, .inl a2), (3, .inl a3), (4, .inl a4), (5, .inl a5), (6, .inl (a6 &&& 1)), (7, .inl (a7 + 1))] [] S) else (gA a5 80 (gA a7 80 (cli (m_X6_cover [.inr 0, .inl (S 24 a5.toNatClampNeg), .inl (S 24 a7.toNatClampNeg)] S) (fun S2 r2 => if r2 = 0 then (f31 [(0, .inr 0), (1, .inl a1), (2, .inl a2), (3, .inl a3), (4, .inl a4), (5, .inl a5), (6, .inl (a6 &&& 1)), (7, .inl (a7 + 1))] [] S2) else (f31 [(0, .inr 0), (1, .inl a1), (2, .inl a2), (3, .inl a3), (4, .inl a4), (5, .inl a5), (6, .inl (a6 &&& 0)), (7, .inl (a7 + 1))] [] S2))))))))) := rfl
theorem u_X6_lieRow_31 (k19 : BT) (n : Nat) (S : XS) (a1 a2 a3 a4 a5 a6 a7 : Int32) : b_X6_lieRow_31 k19 (n + 1) [(0, .inr 0), (1, .inl a1), (2, .inl a2), (3, .inl a3), (4, .inl a4), (5, .inl a5), (6, .inl a6), (7, .inl a7)] [] S = (if a5 ≤ a7 then (gA a5 80 (gA (S 24 a5.toNatClampNeg) 80 (if a6 = 0 then (if 0 ≤ a4 then (k19 [(0, .inr 0), (1, .inl a1), (2, .inl a2), (3, .inl a3), (4, .inl a4), (5, .inl (a5 + 1))] [] (up2 S 15 (S 24 a5.toNatClampNeg).toNatClampNeg (vp_nar .boolean a6))) else (k19 [(0, .inr 0), (1, .inl a1), (2, .inl a2), (3, .inl a3), (4, .inl 0), (5, .inl (a5 + 1))] [] (up2 S 15 (S 24 a5.toNatClampNeg).toNatClampNeg (vp_nar .boolean a6)))) else (gA a5 80 (cli (m_X6_own [.inr 0, .inl ((up2 S 15 (S 24 a5.toNatClampNeg).toNatClampNeg (vp_nar .boolean a6)) 24 a5.toNatClampNeg)] (up2 S 15 (S 24 a5.toNatClampNeg).toNatClampNeg (vp_nar .boolean a6))) (fun S1 r1 => if r1 ≤ a4 then (k19 [(0, .inr 0), (1, .inl a1), (2, .inl a2), (3, .inl a3), (4, .inl a4), (5, .inl (a5 + 1))] [] S1) else (k19 [(0, .inr 0), (1, .inl a1), (2, .inl a2), (3, .inl a3), (4, .inl r1), (5, .inl (a5 + 1))] [] S1))))))) else (gA a7 80 (gA (S 24 a7.toNatClampNeg) 80 (if S 15 (S 24 a7.toNatClampNeg).toNatClampNeg = 0 then (b_X6_lieRow_31 k19 n [(0, .inr 0), (1, .inl a1), (2, .inl a2), (3, .inl a3), (4, .inl a4), (5, .inl a5), (6, .inl (a6 &&& 1)), (7, .inl (a7 + 1))] [] S) else (gA a5 80 (gA a7 80 (cli (m_X6_cover [.inr 0, .inl (S 24 a5.toNatClampNeg), .inl (S 24 a7.toNatClampNeg)] S) (fun S2 r2 => if r2 = 0 then (b_X6_lieRow_31 k19 n [(0, .inr 0), (1, .inl a1), (2, .inl a2), (3, .inl a3), (4, .inl a4), (5, .inl a5), (6, .inl (a6 &&& 1)), (7, .inl (a7 + 1))] [] S2) else (b_X6_lieRow_31 k19 n [(0, .inr 0), (1, .inl a1), (2, .inl a2), (3, .inl a3), (4, .inl a4), (5, .inl a5), (6, .inl (a6 &&& 0)), (7, .inl (a7 + 1))] [] S2))))))))) := v_X6_lieRow_31 _ _ S a1 a2 a3 a4 a5 a6 a7
set_option maxRecDepth 100000 in
theorem v_X6_lieRow_151 (f151 f230 : BT) (S : XS) (a1 a2 a3 a4 a5 : Int32) : brn mT cs_X6_lieRow L_X6_lieRow [19, 31, 151, 230] (dsp [(151, [0, 1, 2, 3, 4, 5], f151), (230, [0, 3, 6, 7], f230)]) 156 [] 151 [(0, .inr 0), (1, .inl a1), (2, .inl a2), (3, .inl a3), (4, .inl a4), (5, .inl a5)] [] S = (if a3 ≤ a5 then (if a2 ≤ 0 then (gA ((2 * a1) + 1) 20 (gA ((2 * a1) + 1) 20 (f230 [(0, .inr 0), (3, .inl a3), (6, .inl 0), (7, .inl 0)] [] (up2 (up2 S 22 ((2 * a1) + 1).toNatClampNeg (vp_nar .boolean 1)) 23 ((2 * a1) + 1).toNatClampNeg a4)))) else (gA ((2 * a1) + 0) 20 (gA ((2 * a1) + 0) 20 (f230 [(0, .inr 0), (3, .inl a3), (6, .inl 0), (7, .inl 0)] [] (up2 (up2 S 22 ((2 * a1) + 0).toNatClampNeg (vp_nar .boolean 1)) 23 ((2 * a1) + 0).toNatClampNeg a4))))) else (gA a5 80 (gA (S 24 a5.toNatClampNeg) 80 (if S 15 (S 24 a5.toNatClampNeg).toNatClampNeg = 0 then (f151 [(0, .inr 0), (1, .inl a1), (2, .inl a2), (3, .inl a3), (4, .inl a4), (5, .inl (a5 + 1))] [] S) else (gA a5 80 (clv (m_X6_lie [.inr 0, .inl (S 24 a5.toNatClampNeg), .inl a4, .inl 1] S) (fun S1 => f151 [(0, .inr 0), (1, .inl a1), (2, .inl a2), (3, .inl a3), (4, .inl a4), (5, .inl (a5 + 1))] [] S1))))))) := rfl
theorem u_X6_lieRow_151 (n : Nat) (S : XS) (a1 a2 a3 a4 a5 : Int32) : b_X6_lieRow_151 (n + 1) [(0, .inr 0), (1, .inl a1), (2, .inl a2), (3, .inl a3), (4, .inl a4), (5, .inl a5)] [] S = (if a3 ≤ a5 then (if a2 ≤ 0 then (gA ((2 * a1) + 1) 20 (gA ((2 * a1) + 1) 20 (b_X6_lieRow_230 fu [(0, .inr 0), (3, .inl a3), (6, .inl 0), (7, .inl 0)] [] (up2 (up2 S 22 ((2 * a1) + 1).toNatClampNeg (vp_nar .boolean 1)) 23 ((2 * a1) + 1).toNatClampNeg a4)))) else (gA ((2 * a1) + 0) 20 (gA ((2 * a1) + 0) 20 (b_X6_lieRow_230 fu [(0, .inr 0), (3, .inl a3), (6, .inl 0), (7, .inl 0)] [] (up2 (up2 S 22 ((2 * a1) + 0).toNatClampNeg (vp_nar .boolean 1)) 23 ((2 * a1) + 0).toNatClampNeg a4))))) else (gA a5 80 (gA (S 24 a5.toNatClampNeg) 80 (if S 15 (S 24 a5.toNatClampNeg).toNatClampNeg = 0 then (b_X6_lieRow_151 n [(0, .inr 0), (1, .inl a1), (2, .inl a2), (3, .inl a3), (4, .inl a4), (5, .inl (a5 + 1))] [] S) else (gA a5 80 (clv (m_X6_lie [.inr 0, .inl (S 24 a5.toNatClampNeg), .inl a4, .inl 1] S) (fun S1 => b_X6_lieRow_151 n [(0, .inr 0), (1, .inl a1), (2, .inl a2), (3, .inl a3), (4, .inl a4), (5, .inl (a5 + 1))] [] S1))))))) := v_X6_lieRow_151 _ _ S a1 a2 a3 a4 a5
set_option maxRecDepth 100000 in
theorem v_X6_lieRow_230 (f230 : BT) (S : XS) (a3 a6 a7 : Int32) : brn mT cs_X6_lieRow L_X6_lieRow [19, 31, 151, 230] (dsp [(230, [0, 3, 6, 7], f230)]) 156 [] 230 [(0, .inr 0), (3, .inl a3), (6, .inl a6), (7, .inl a7)] [] S = (if a3 ≤ a7 then (some (S, some (some (.inl a6)))) else (gA a7 80 (gA (S 24 a7.toNatClampNeg) 80 (if S 15 (S 24 a7.toNatClampNeg).toNatClampNeg = 0 then (gA a7 80 (gA a7 80 (cli (m_X6_own [.inr 0, .inl (S 24 a7.toNatClampNeg)] S) (fun S1 r1 => clv (m_X6_lie [.inr 0, .inl (S 24 a7.toNatClampNeg), .inl r1, .inl 0] S1) (fun S2 => f230 [(0, .inr 0), (3, .inl a3), (6, .inl (a6 + 1)), (7, .inl (a7 + 1))] [] S2))))) else (f230 [(0, .inr 0), (3, .inl a3), (6, .inl a6), (7, .inl (a7 + 1))] [] S))))) := rfl
theorem u_X6_lieRow_230 (n : Nat) (S : XS) (a3 a6 a7 : Int32) : b_X6_lieRow_230 (n + 1) [(0, .inr 0), (3, .inl a3), (6, .inl a6), (7, .inl a7)] [] S = (if a3 ≤ a7 then (some (S, some (some (.inl a6)))) else (gA a7 80 (gA (S 24 a7.toNatClampNeg) 80 (if S 15 (S 24 a7.toNatClampNeg).toNatClampNeg = 0 then (gA a7 80 (gA a7 80 (cli (m_X6_own [.inr 0, .inl (S 24 a7.toNatClampNeg)] S) (fun S1 r1 => clv (m_X6_lie [.inr 0, .inl (S 24 a7.toNatClampNeg), .inl r1, .inl 0] S1) (fun S2 => b_X6_lieRow_230 n [(0, .inr 0), (3, .inl a3), (6, .inl (a6 + 1)), (7, .inl (a7 + 1))] [] S2))))) else (b_X6_lieRow_230 n [(0, .inr 0), (3, .inl a3), (6, .inl a6), (7, .inl (a7 + 1))] [] S))))) := v_X6_lieRow_230 _ S a3 a6 a7
set_option maxRecDepth 100000 in
theorem v_X6_place (f17 : BT) (S : XS) : brn mT cs_X6_place L_X6_place [17, 47, 66, 146, 156, 221] (dsp [(17, [0, 1], f17)]) 176 [] 0 [(0, .inr 0)] [] S = (f17 [(0, .inr 0), (1, .inl 0)] [] (up2 (up2 (up2 S 0 0 0) 0 26 0) 0 19 0)) := rfl
theorem u_X6_place (S : XS) : m_X6_place [.inr 0] S = (b_X6_place_17 fu [(0, .inr 0), (1, .inl 0)] [] (up2 (up2 (up2 S 0 0 0) 0 26 0) 0 19 0)) := v_X6_place _ S
set_option maxRecDepth 100000 in
theorem v_X6_place_17 (f17 f47 : BT) (S : XS) (a1 : Int32) : brn mT cs_X6_place L_X6_place [17, 47, 66, 146, 156, 221] (dsp [(17, [0, 1], f17), (47, [0, 1], f47)]) 176 [] 17 [(0, .inr 0), (1, .inl a1)] [] S = (if S 0 9 ≤ a1 then (f47 [(0, .inr 0), (1, .inl 0)] [] S) else (gA a1 80 (gA a1 80 (f17 [(0, .inr 0), (1, .inl (a1 + 1))] [] (up2 (up2 S 13 a1.toNatClampNeg (vp_nar .boolean 0)) 15 a1.toNatClampNeg (vp_nar .boolean 0)))))) := rfl
theorem u_X6_place_17 (n : Nat) (S : XS) (a1 : Int32) : b_X6_place_17 (n + 1) [(0, .inr 0), (1, .inl a1)] [] S = (if S 0 9 ≤ a1 then (b_X6_place_47 fu [(0, .inr 0), (1, .inl 0)] [] S) else (gA a1 80 (gA a1 80 (b_X6_place_17 n [(0, .inr 0), (1, .inl (a1 + 1))] [] (up2 (up2 S 13 a1.toNatClampNeg (vp_nar .boolean 0)) 15 a1.toNatClampNeg (vp_nar .boolean 0)))))) := v_X6_place_17 _ _ S a1
set_option maxRecDepth 100000 in
theorem v_X6_place_47 (f47 f66 : BT) (S : XS) (a1 : Int32) : brn mT cs_X6_place L_X6_place [17, 47, 66, 146, 156, 221] (dsp [(47, [0, 1], f47), (66, [0], f66)]) 176 [] 47 [(0, .inr 0), (1, .inl a1)] [] S = (if 20 ≤ a1 then (f66 [(0, .inr 0)] [] S) else (gA a1 20 (f47 [(0, .inr 0), (1, .inl (a1 + 1))] [] (up2 S 22 a1.toNatClampNeg (vp_nar .boolean 0))))) := rfl
theorem u_X6_place_47 (n : Nat) (S : XS) (a1 : Int32) : b_X6_place_47 (n + 1) [(0, .inr 0), (1, .inl a1)] [] S = (if 20 ≤ a1 then (b_X6_place_66 fu [(0, .inr 0)] [] S) else (gA a1 20 (b_X6_place_47 n [(0, .inr 0), (1, .inl (a1 + 1))] [] (up2 S 22 a1.toNatClampNeg (vp_nar .boolean 0))))) := v_X6_place_47 _ _ S a1
set_option maxRecDepth 100000 in
theorem v_X6_place_66 (f66 f146 : BT) (S : XS) : brn mT cs_X6_place L_X6_place [17, 47, 66, 146, 156, 221] (dsp [(66, [0], f66), (146, [0, 1, 2], f146)]) 176 [] 66 [(0, .inr 0)] [] S = (if S 0 20 ≤ S 0 26 then (f146 [(0, .inr 0), (1, .inl 0), (2, .inl 1)] [] S) else (gA (S 0 26) 10 (gA (S 0 26) 10 (gA (S 17 (S 0 26).toNatClampNeg) 40 (gA (S 0 26) 10 (gA (S 18 (S 0 26).toNatClampNeg) 40 (cli (m_X6_greatest [.inr 0, .inl (S 19 (S 0 26).toNatClampNeg), .inl (S 1 (S 17 (S 0 26).toNatClampNeg).toNatClampNeg), .inl (S 1 (S 18 (S 0 26).toNatClampNeg).toNatClampNeg)] S) (fun S1 r1 => gA (S 0 26) 10 (f66 [(0, .inr 0)] [] (up2 (up2 S1 21 (S 0 26).toNatClampNeg (3 + r1)) 0 26 (((up2 S1 21 (S 0 26).toNatClampNeg (3 + r1)) 0 26) + 1))))))))))) := rfl
theorem u_X6_place_66 (n : Nat) (S : XS) : b_X6_place_66 (n + 1) [(0, .inr 0)] [] S = (if S 0 20 ≤ S 0 26 then (b_X6_place_146 fu [(0, .inr 0), (1, .inl 0), (2, .inl 1)] [] S) else (gA (S 0 26) 10 (gA (S 0 26) 10 (gA (S 17 (S 0 26).toNatClampNeg) 40 (gA (S 0 26) 10 (gA (S 18 (S 0 26).toNatClampNeg) 40 (cli (m_X6_greatest [.inr 0, .inl (S 19 (S 0 26).toNatClampNeg), .inl (S 1 (S 17 (S 0 26).toNatClampNeg).toNatClampNeg), .inl (S 1 (S 18 (S 0 26).toNatClampNeg).toNatClampNeg)] S) (fun S1 r1 => gA (S 0 26) 10 (b_X6_place_66 n [(0, .inr 0)] [] (up2 (up2 S1 21 (S 0 26).toNatClampNeg (3 + r1)) 0 26 (((up2 S1 21 (S 0 26).toNatClampNeg (3 + r1)) 0 26) + 1))))))))))) := v_X6_place_66 _ _ S
set_option maxRecDepth 100000 in
theorem v_X6_place_146 (f156 : BT) (S : XS) (a1 a2 : Int32) : brn mT cs_X6_place L_X6_place [17, 47, 66, 146, 156, 221] (dsp [(156, [0, 1, 3, 4], f156)]) 176 [] 146 [(0, .inr 0), (1, .inl a1), (2, .inl a2)] [] S = (if a2 = 0 then (some (up2 S 0 29 1, some (some (.inl a1)))) else (f156 [(0, .inr 0), (1, .inl a1), (3, .inl (-100003)), (4, .inl 0)] [] S)) := rfl
theorem u_X6_place_146 (n : Nat) (S : XS) (a1 a2 : Int32) : b_X6_place_146 (n + 1) [(0, .inr 0), (1, .inl a1), (2, .inl a2)] [] S = (if a2 = 0 then (some (up2 S 0 29 1, some (some (.inl a1)))) else (b_X6_place_156 (b_X6_place_146 n) fu [(0, .inr 0), (1, .inl a1), (3, .inl (-100003)), (4, .inl 0)] [] S)) := v_X6_place_146 _ S a1 a2
set_option maxRecDepth 100000 in
theorem v_X6_place_156 (f156 f221 : BT) (S : XS) (a1 a3 a4 : Int32) : brn mT cs_X6_place L_X6_place [17, 47, 66, 146, 156, 221] (dsp [(156, [0, 1, 3, 4], f156), (221, [0, 1, 3], f221)]) 176 [] 156 [(0, .inr 0), (1, .inl a1), (3, .inl a3), (4, .inl a4)] [] S = (if S 0 9 ≤ a4 then (if a3 = (-100003) then (f221 [(0, .inr 0), (1, .inl a1), (3, .inl a3)] [.inl 0] S) else (f221 [(0, .inr 0), (1, .inl a1), (3, .inl a3)] [.inl 1] S)) else (gA a4 80 (if S 12 a4.toNatClampNeg = 0 then (gA a4 80 (if S 13 a4.toNatClampNeg = 0 then (if a3 = (-100003) then (f156 [(0, .inr 0), (1, .inl a1), (3, .inl a4), (4, .inl (a4 + 1))] [] S) else (cli (m_X6_isAhead [.inr 0, .inl a4, .inl a3] S) (fun S1 r1 => if r1 = 0 then (f156 [(0, .inr 0), (1, .inl a1), (3, .inl a3), (4, .inl (a4 + 1))] [] S1) else (f156 [(0, .inr 0), (1, .inl a1), (3, .inl a4), (4, .inl (a4 + 1))] [] S1)))) else (f156 [(0, .inr 0), (1, .inl a1), (3, .inl a3), (4, .inl (a4 + 1))] [] S))) else (f156 [(0, .inr 0), (1, .inl a1), (3, .inl a3), (4, .inl (a4 + 1))] [] S)))) := rfl
theorem u_X6_place_156 (k146 : BT) (n : Nat) (S : XS) (a1 a3 a4 : Int32) : b_X6_place_156 k146 (n + 1) [(0, .inr 0), (1, .inl a1), (3, .inl a3), (4, .inl a4)] [] S = (if S 0 9 ≤ a4 then (if a3 = (-100003) then (b_X6_place_221 k146 [(0, .inr 0), (1, .inl a1), (3, .inl a3)] [.inl 0] S) else (b_X6_place_221 k146 [(0, .inr 0), (1, .inl a1), (3, .inl a3)] [.inl 1] S)) else (gA a4 80 (if S 12 a4.toNatClampNeg = 0 then (gA a4 80 (if S 13 a4.toNatClampNeg = 0 then (if a3 = (-100003) then (b_X6_place_156 k146 n [(0, .inr 0), (1, .inl a1), (3, .inl a4), (4, .inl (a4 + 1))] [] S) else (cli (m_X6_isAhead [.inr 0, .inl a4, .inl a3] S) (fun S1 r1 => if r1 = 0 then (b_X6_place_156 k146 n [(0, .inr 0), (1, .inl a1), (3, .inl a3), (4, .inl (a4 + 1))] [] S1) else (b_X6_place_156 k146 n [(0, .inr 0), (1, .inl a1), (3, .inl a4), (4, .inl (a4 + 1))] [] S1)))) else (b_X6_place_156 k146 n [(0, .inr 0), (1, .inl a1), (3, .inl a3), (4, .inl (a4 + 1))] [] S))) else (b_X6_place_156 k146 n [(0, .inr 0), (1, .inl a1), (3, .inl a3), (4, .inl (a4 + 1))] [] S)))) := v_X6_place_156 _ _ S a1 a3 a4
set_option maxRecDepth 100000 in
theorem v_X6_place_221 (f146 : BT) (S : XS) (a1 a3 t0 : Int32) : brn mT cs_X6_place L_X6_place [17, 47, 66, 146, 156, 221] (dsp [(146, [0, 1, 2], f146)]) 176 [] 221 [(0, .inr 0), (1, .inl a1), (3, .inl a3)] [.inl t0] S = (if t0 = 0 then (if t0 = 0 then (f146 [(0, .inr 0), (1, .inl a1), (2, .inl t0)] [] S) else (cli (m_X6_own [.inr 0, .inl a3] S) (fun S1 r1 => clv (m_X6_lie [.inr 0, .inl a3, .inl r1, .inl 0] S1) (fun S2 => f146 [(0, .inr 0), (1, .inl a1), (2, .inl t0)] [] S2)))) else (gA a3 80 (gA ((6 * (S 9 a3.toNatClampNeg)) + 4) 60 (if S 7 ((6 * (S 9 a3.toNatClampNeg)) + 4).toNatClampNeg = 1 then (gA a3 80 (cli (m_X6_lieRow [.inr 0, .inl (S 9 a3.toNatClampNeg), .inl 1] S) (fun S5 r5 => cli (m_X6_lieRow [.inr 0, .inl (S 9 a3.toNatClampNeg), .inl (-1)] S5) (fun S6 r6 => f146 [(0, .inr 0), (1, .inl ((a1 + r5) + r6)), (2, .inl t0)] [] S6)))) else (if t0 = 0 then (f146 [(0, .inr 0), (1, .inl a1), (2, .inl t0)] [] S) else (cli (m_X6_own [.inr 0, .inl a3] S) (fun S3 r3 => clv (m_X6_lie [.inr 0, .inl a3, .inl r3, .inl 0] S3) (fun S4 => f146 [(0, .inr 0), (1, .inl a1), (2, .inl t0)] [] S4)))))))) := rfl
theorem u_X6_place_221 (k146 : BT) (S : XS) (a1 a3 t0 : Int32) : b_X6_place_221 k146 [(0, .inr 0), (1, .inl a1), (3, .inl a3)] [.inl t0] S = (if t0 = 0 then (if t0 = 0 then (k146 [(0, .inr 0), (1, .inl a1), (2, .inl t0)] [] S) else (cli (m_X6_own [.inr 0, .inl a3] S) (fun S1 r1 => clv (m_X6_lie [.inr 0, .inl a3, .inl r1, .inl 0] S1) (fun S2 => k146 [(0, .inr 0), (1, .inl a1), (2, .inl t0)] [] S2)))) else (gA a3 80 (gA ((6 * (S 9 a3.toNatClampNeg)) + 4) 60 (if S 7 ((6 * (S 9 a3.toNatClampNeg)) + 4).toNatClampNeg = 1 then (gA a3 80 (cli (m_X6_lieRow [.inr 0, .inl (S 9 a3.toNatClampNeg), .inl 1] S) (fun S5 r5 => cli (m_X6_lieRow [.inr 0, .inl (S 9 a3.toNatClampNeg), .inl (-1)] S5) (fun S6 r6 => k146 [(0, .inr 0), (1, .inl ((a1 + r5) + r6)), (2, .inl t0)] [] S6)))) else (if t0 = 0 then (k146 [(0, .inr 0), (1, .inl a1), (2, .inl t0)] [] S) else (cli (m_X6_own [.inr 0, .inl a3] S) (fun S3 r3 => clv (m_X6_lie [.inr 0, .inl a3, .inl r3, .inl 0] S3) (fun S4 => k146 [(0, .inr 0), (1, .inl a1), (2, .inl t0)] [] S4)))))))) := v_X6_place_221 _ S a1 a3 t0
set_option maxRecDepth 100000 in
theorem u_X6_throwsNow (S : XS) : m_X6_throwsNow [.inr 0] S = (if S 0 29 = 0 then (if (up2 S 0 0 1) 0 29 = 0 then (some (up2 S 0 0 1, some (some (.inl 1)))) else (some (up2 S 0 0 1, some (some (.inl 0))))) else (if (up2 S 0 0 0) 0 29 = 0 then (some (up2 S 0 0 0, some (some (.inl 1)))) else (some (up2 S 0 0 0, some (some (.inl 0)))))) := rfl
set_option maxRecDepth 100000 in
theorem u_X6_at (S : XS) (a1 a2 : Int32) : m_X6_at [.inr 0, .inl a1, .inl a2] S = (cli (m_X6_isMark [.inr 0, .inl a1] (up2 S 0 0 0)) (fun S1 r1 => if r1 = 0 then (some (S1, some (some (.inl (-100001))))) else (cli (m_X6_in [.inl a2, .inl 0, .inl 6] S1) (fun S2 r2 => if r2 = 0 then (some (S2, some (some (.inl (-100001))))) else (cli (m_X6_throwsNow [.inr 0] S2) (fun S3 r3 => if r3 = 0 then (if a2.toInt = 0 then (cli (m_X6_left [.inr 0, .inl a1] S3) (fun S6 r6 => some (S6, some (some (.inl r6))))) else (if a2.toInt = 1 then (cli (m_X6_left [.inr 0, .inl a1] S3) (fun S5 r5 => gA a1 80 (some (S5, some (some (.inl (r5 + (S5 10 a1.toNatClampNeg)))))))) else (if a2.toInt = 2 then (cli (m_X6_sideOf [.inr 0, .inl a1] S3) (fun S4 r4 => some (S4, some (some (.inl r4))))) else (if a2.toInt = 3 then (gA a1 80 (some (S3, some (some (.inl (S3 14 a1.toNatClampNeg)))))) else (if a2.toInt = 4 then (gA a1 80 (gA a1 80 (some (S3, some (some (.inl ((S3 14 a1.toNatClampNeg) + (S3 11 a1.toNatClampNeg)))))))) else (if a2.toInt = 5 then (gA a1 80 (if S3 15 a1.toNatClampNeg = 0 then (some (S3, some (some (.inl 0)))) else (some (S3, some (some (.inl 1)))))) else (gA a1 80 (some (S3, some (some (.inl (S3 16 a1.toNatClampNeg)))))))))))) else (some (S3, some (some (.inl 0)))))))))) := rfl
set_option maxRecDepth 100000 in
theorem u_X6_slurAt (S : XS) (a1 a2 : Int32) : m_X6_slurAt [.inr 0, .inl a1, .inl a2] S = (if a1 < 0 then (some (up2 S 0 0 0, some (some (.inl (-100001))))) else (if (up2 S 0 0 0) 0 20 ≤ a1 then (some (up2 S 0 0 0, some (some (.inl (-100001))))) else (cli (m_X6_in [.inl a2, .inl 0, .inl 1] (up2 S 0 0 0)) (fun S1 r1 => if r1 = 0 then (some (S1, some (some (.inl (-100001))))) else (cli (m_X6_throwsNow [.inr 0] S1) (fun S2 r2 => if r2 = 0 then (gA a1 10 (if a2 = 1 then (gA a1 10 (some (S2, some (some (.inl ((S2 21 a1.toNatClampNeg) + (S2 20 a1.toNatClampNeg))))))) else (some (S2, some (some (.inl ((S2 21 a1.toNatClampNeg) + 0))))))) else (some (S2, some (some (.inl 0)))))))))) := rfl
set_option maxRecDepth 100000 in
theorem u_X6_skyline (S : XS) (a1 a2 : Int32) : m_X6_skyline [.inr 0, .inl a1, .inl a2] S = (cli (m_X6_in [.inl a1, .inl 0, .inl 101000] (up2 S 0 0 0)) (fun S1 r1 => if r1 = 0 then (some (S1, some (some (.inl (-100001))))) else (cli (m_X6_isSide [.inl a2] S1) (fun S2 r2 => if r2 = 0 then (some (S2, some (some (.inl (-100001))))) else (cli (m_X6_throwsNow [.inr 0] S2) (fun S3 r3 => if r3 = 0 then (cli (m_X6_greatest [.inr 0, .inl a2, .inl a1, .inl a1] S3) (fun S4 r4 => some (S4, some (some (.inl r4))))) else (some (S3, some (some (.inl 0)))))))))) := rfl
set_option maxRecDepth 100000 in
theorem u_X6_row (S : XS) (a1 a2 : Int32) : m_X6_row [.inr 0, .inl a1, .inl a2] S = (cli (m_X6_in [.inl a1, .inl 0, .inl 9] (up2 S 0 0 0)) (fun S1 r1 => if r1 = 0 then (some (S1, some (some (.inl (-100001))))) else (cli (m_X6_isSide [.inl a2] S1) (fun S2 r2 => if r2 = 0 then (some (S2, some (some (.inl (-100001))))) else (cli (m_X6_throwsNow [.inr 0] S2) (fun S3 r3 => if r3 = 0 then (if a2 ≤ 0 then (gA ((2 * a1) + 1) 20 (if S3 22 ((2 * a1) + 1).toNatClampNeg = 0 then (some (S3, some (some (.inl (-100003))))) else (gA ((2 * a1) + 1) 20 (some (S3, some (some (.inl (S3 23 ((2 * a1) + 1).toNatClampNeg)))))))) else (gA ((2 * a1) + 0) 20 (if S3 22 ((2 * a1) + 0).toNatClampNeg = 0 then (some (S3, some (some (.inl (-100003))))) else (gA ((2 * a1) + 0) 20 (some (S3, some (some (.inl (S3 23 ((2 * a1) + 0).toNatClampNeg))))))))) else (some (S3, some (some (.inl 0)))))))))) := rfl
set_option maxRecDepth 100000 in
theorem v_X6_order (f35 : BT) (S : XS) (a1 a2 a3 : Int32) : brn mT cs_X6_order L_X6_order [35, 84, 129] (dsp [(35, [0, 1, 2, 3, 4], f35)]) 110 [] 0 [(0, .inr 0), (1, .inl a1), (2, .inl a2), (3, .inl a3)] [] S = (cli (m_X6_isItem [.inr 0, .inl a1] (up2 S 0 0 0)) (fun S1 r1 => if r1 = 0 then (some (S1, some (some (.inl (-100001))))) else (cli (m_X6_isSide [.inl a2] S1) (fun S2 r2 => if r2 = 0 then (some (S2, some (some (.inl (-100001))))) else (cli (m_X6_throwsNow [.inr 0] S2) (fun S3 r3 => if r3 = 0 then (f35 [(0, .inr 0), (1, .inl a1), (2, .inl a2), (3, .inl a3), (4, .inl 0)] [] S3) else (some (S3, some (some (.inl 0)))))))))) := rfl
theorem u_X6_order (S : XS) (a1 a2 a3 : Int32) : m_X6_order [.inr 0, .inl a1, .inl a2, .inl a3] S = (cli (m_X6_isItem [.inr 0, .inl a1] (up2 S 0 0 0)) (fun S1 r1 => if r1 = 0 then (some (S1, some (some (.inl (-100001))))) else (cli (m_X6_isSide [.inl a2] S1) (fun S2 r2 => if r2 = 0 then (some (S2, some (some (.inl (-100001))))) else (cli (m_X6_throwsNow [.inr 0] S2) (fun S3 r3 => if r3 = 0 then (b_X6_order_35 fu [(0, .inr 0), (1, .inl a1), (2, .inl a2), (3, .inl a3), (4, .inl 0)] [] S3) else (some (S3, some (some (.inl 0)))))))))) := v_X6_order _ S a1 a2 a3
set_option maxRecDepth 100000 in
theorem v_X6_order_35 (f35 f84 : BT) (S : XS) (a1 a2 a3 a4 : Int32) : brn mT cs_X6_order L_X6_order [35, 84, 129] (dsp [(35, [0, 1, 2, 3, 4], f35), (84, [0, 1, 2, 3, 4, 5, 6], f84)]) 110 [] 35 [(0, .inr 0), (1, .inl a1), (2, .inl a2), (3, .inl a3), (4, .inl a4)] [] S = (if S 0 9 ≤ a4 then (some (S, some (some (.inl (-100003))))) else (gA a4 80 (if S 12 a4.toNatClampNeg = 0 then (gA a4 80 (if S 8 a4.toNatClampNeg = a1 then (cli (m_X6_sideOf [.inr 0, .inl a4] S) (fun S1 r1 => if r1 = a2 then (f84 [(0, .inr 0), (1, .inl a1), (2, .inl a2), (3, .inl a3), (4, .inl a4), (5, .inl 0), (6, .inl 0)] [] S1) else (f35 [(0, .inr 0), (1, .inl a1), (2, .inl a2), (3, .inl a3), (4, .inl (a4 + 1))] [] S1))) else (f35 [(0, .inr 0), (1, .inl a1), (2, .inl a2), (3, .inl a3), (4, .inl (a4 + 1))] [] S))) else (f35 [(0, .inr 0), (1, .inl a1), (2, .inl a2), (3, .inl a3), (4, .inl (a4 + 1))] [] S)))) := rfl
theorem u_X6_order_35 (n : Nat) (S : XS) (a1 a2 a3 a4 : Int32) : b_X6_order_35 (n + 1) [(0, .inr 0), (1, .inl a1), (2, .inl a2), (3, .inl a3), (4, .inl a4)] [] S = (if S 0 9 ≤ a4 then (some (S, some (some (.inl (-100003))))) else (gA a4 80 (if S 12 a4.toNatClampNeg = 0 then (gA a4 80 (if S 8 a4.toNatClampNeg = a1 then (cli (m_X6_sideOf [.inr 0, .inl a4] S) (fun S1 r1 => if r1 = a2 then (b_X6_order_84 (b_X6_order_35 n) fu [(0, .inr 0), (1, .inl a1), (2, .inl a2), (3, .inl a3), (4, .inl a4), (5, .inl 0), (6, .inl 0)] [] S1) else (b_X6_order_35 n [(0, .inr 0), (1, .inl a1), (2, .inl a2), (3, .inl a3), (4, .inl (a4 + 1))] [] S1))) else (b_X6_order_35 n [(0, .inr 0), (1, .inl a1), (2, .inl a2), (3, .inl a3), (4, .inl (a4 + 1))] [] S))) else (b_X6_order_35 n [(0, .inr 0), (1, .inl a1), (2, .inl a2), (3, .inl a3), (4, .inl (a4 + 1))] [] S)))) := v_X6_order_35 _ _ S a1 a2 a3 a4
set_option maxRecDepth 100000 in
theorem v_X6_order_84 (f35 f129 : BT) (S : XS) (a1 a2 a3 a4 a5 a6 : Int32) : brn mT cs_X6_order L_X6_order [35, 84, 129] (dsp [(35, [0, 1, 2, 3, 4], f35), (129, [0, 1, 2, 3, 4, 5, 6], f129)]) 110 [] 84 [(0, .inr 0), (1, .inl a1), (2, .inl a2), (3, .inl a3), (4, .inl a4), (5, .inl a5), (6, .inl a6)] [] S = (if S 0 9 ≤ a6 then (if a5 = a3 then (some (S, some (some (.inl a4)))) else (f35 [(0, .inr 0), (1, .inl a1), (2, .inl a2), (3, .inl a3), (4, .inl (a4 + 1))] [] S)) else (gA a6 80 (if S 12 a6.toNatClampNeg = 0 then (gA a6 80 (if S 8 a6.toNatClampNeg = a1 then (cli (m_X6_sideOf [.inr 0, .inl a6] S) (fun S1 r1 => if r1 = a2 then (f129 [(0, .inr 0), (1, .inl a1), (2, .inl a2), (3, .inl a3), (4, .inl a4), (5, .inl a5), (6, .inl a6)] [.inl 1] S1) else (f129 [(0, .inr 0), (1, .inl a1), (2, .inl a2), (3, .inl a3), (4, .inl a4), (5, .inl a5), (6, .inl a6)] [.inl 0] S1))) else (f129 [(0, .inr 0), (1, .inl a1), (2, .inl a2), (3, .inl a3), (4, .inl a4), (5, .inl a5), (6, .inl a6)] [.inl 0] S))) else (f129 [(0, .inr 0), (1, .inl a1), (2, .inl a2), (3, .inl a3), (4, .inl a4), (5, .inl a5), (6, .inl a6)] [.inl 0] S)))) := rfl
theorem u_X6_order_84 (k35 : BT) (n : Nat) (S : XS) (a1 a2 a3 a4 a5 a6 : Int32) : b_X6_order_84 k35 (n + 1) [(0, .inr 0), (1, .inl a1), (2, .inl a2), (3, .inl a3), (4, .inl a4), (5, .inl a5), (6, .inl a6)] [] S = (if S 0 9 ≤ a6 then (if a5 = a3 then (some (S, some (some (.inl a4)))) else (k35 [(0, .inr 0), (1, .inl a1), (2, .inl a2), (3, .inl a3), (4, .inl (a4 + 1))] [] S)) else (gA a6 80 (if S 12 a6.toNatClampNeg = 0 then (gA a6 80 (if S 8 a6.toNatClampNeg = a1 then (cli (m_X6_sideOf [.inr 0, .inl a6] S) (fun S1 r1 => if r1 = a2 then (b_X6_order_129 k35 (b_X6_order_84 k35 n) [(0, .inr 0), (1, .inl a1), (2, .inl a2), (3, .inl a3), (4, .inl a4), (5, .inl a5), (6, .inl a6)] [.inl 1] S1) else (b_X6_order_129 k35 (b_X6_order_84 k35 n) [(0, .inr 0), (1, .inl a1), (2, .inl a2), (3, .inl a3), (4, .inl a4), (5, .inl a5), (6, .inl a6)] [.inl 0] S1))) else (b_X6_order_129 k35 (b_X6_order_84 k35 n) [(0, .inr 0), (1, .inl a1), (2, .inl a2), (3, .inl a3), (4, .inl a4), (5, .inl a5), (6, .inl a6)] [.inl 0] S))) else (b_X6_order_129 k35 (b_X6_order_84 k35 n) [(0, .inr 0), (1, .inl a1), (2, .inl a2), (3, .inl a3), (4, .inl a4), (5, .inl a5), (6, .inl a6)] [.inl 0] S)))) := v_X6_order_84 _ _ S a1 a2 a3 a4 a5 a6
set_option maxRecDepth 100000 in
theorem v_X6_order_129 (f84 : BT) (S : XS) (a1 a2 a3 a4 a5 a6 t0 : Int32) : brn mT cs_X6_order L_X6_order [35, 84, 129] (dsp [(84, [0, 1, 2, 3, 4, 5, 6], f84)]) 110 [] 129 [(0, .inr 0), (1, .inl a1), (2, .inl a2), (3, .inl a3), (4, .inl a4), (5, .inl a5), (6, .inl a6)] [.inl t0] S = (if t0 = 0 then (f84 [(0, .inr 0), (1, .inl a1), (2, .inl a2), (3, .inl a3), (4, .inl a4), (5, .inl (a5 + 0)), (6, .inl (a6 + 1))] [] S) else (gA a6 80 (gA a4 80 (if S 14 a6.toNatClampNeg < S 14 a4.toNatClampNeg then (f84 [(0, .inr 0), (1, .inl a1), (2, .inl a2), (3, .inl a3), (4, .inl a4), (5, .inl (a5 + 1)), (6, .inl (a6 + 1))] [] S) else (gA a6 80 (gA a4 80 (if S 14 a6.toNatClampNeg = S 14 a4.toNatClampNeg then (if a4 ≤ a6 then (f84 [(0, .inr 0), (1, .inl a1), (2, .inl a2), (3, .inl a3), (4, .inl a4), (5, .inl (a5 + 0)), (6, .inl (a6 + 1))] [] S) else (f84 [(0, .inr 0), (1, .inl a1), (2, .inl a2), (3, .inl a3), (4, .inl a4), (5, .inl (a5 + 1)), (6, .inl (a6 + 1))] [] S)) else (f84 [(0, .inr 0), (1, .inl a1), (2, .inl a2), (3, .inl a3), (4, .inl a4), (5, .inl (a5 + 0)), (6, .inl (a6 + 1))] [] S)))))))) := rfl
theorem u_X6_order_129 (k35 : BT) (k84 : BT) (S : XS) (a1 a2 a3 a4 a5 a6 t0 : Int32) : b_X6_order_129 k35 k84 [(0, .inr 0), (1, .inl a1), (2, .inl a2), (3, .inl a3), (4, .inl a4), (5, .inl a5), (6, .inl a6)] [.inl t0] S = (if t0 = 0 then (k84 [(0, .inr 0), (1, .inl a1), (2, .inl a2), (3, .inl a3), (4, .inl a4), (5, .inl (a5 + 0)), (6, .inl (a6 + 1))] [] S) else (gA a6 80 (gA a4 80 (if S 14 a6.toNatClampNeg < S 14 a4.toNatClampNeg then (k84 [(0, .inr 0), (1, .inl a1), (2, .inl a2), (3, .inl a3), (4, .inl a4), (5, .inl (a5 + 1)), (6, .inl (a6 + 1))] [] S) else (gA a6 80 (gA a4 80 (if S 14 a6.toNatClampNeg = S 14 a4.toNatClampNeg then (if a4 ≤ a6 then (k84 [(0, .inr 0), (1, .inl a1), (2, .inl a2), (3, .inl a3), (4, .inl a4), (5, .inl (a5 + 0)), (6, .inl (a6 + 1))] [] S) else (k84 [(0, .inr 0), (1, .inl a1), (2, .inl a2), (3, .inl a3), (4, .inl a4), (5, .inl (a5 + 1)), (6, .inl (a6 + 1))] [] S)) else (k84 [(0, .inr 0), (1, .inl a1), (2, .inl a2), (3, .inl a3), (4, .inl a4), (5, .inl (a5 + 0)), (6, .inl (a6 + 1))] [] S)))))))) := v_X6_order_129 _ S a1 a2 a3 a4 a5 a6 t0
set_option maxRecDepth 100000 in
theorem u_X6_meets (S : XS) (a1 a2 : Int32) : m_X6_meets [.inr 0, .inl a1, .inl a2] S = (cli (m_X6_isMark [.inr 0, .inl a1] (up2 S 0 0 0)) (fun S1 r1 => if r1 = 0 then (some (S1, some (some (.inl (-100001))))) else (cli (m_X6_isMark [.inr 0, .inl a2] S1) (fun S2 r2 => if r2 = 0 then (some (S2, some (some (.inl (-100001))))) else (if a1 = a2 then (some (S2, some (some (.inl (-100001))))) else (cli (m_X6_throwsNow [.inr 0] S2) (fun S3 r3 => if r3 = 0 then (gA a1 80 (gA a2 80 (gA a2 80 (if (S3 14 a2.toNatClampNeg) + (S3 11 a2.toNatClampNeg) ≤ S3 14 a1.toNatClampNeg then (cli (m_X6_sideOf [.inr 0, .inl a1] S3) (fun S4 r4 => cli (m_X6_sideOf [.inr 0, .inl a2] S4) (fun S5 r5 => if r4 = r5 then (cli (m_X6_cover [.inr 0, .inl a1, .inl a2] S5) (fun S6 r6 => if r6 = 0 then (some (S6, some (some (.inl 0)))) else (if 0 = 0 then (some (S6, some (some (.inl 0)))) else (some (S6, some (some (.inl 1))))))) else (some (S5, some (some (.inl 0))))))) else (gA a2 80 (gA a1 80 (gA a1 80 (if (S3 14 a1.toNatClampNeg) + (S3 11 a1.toNatClampNeg) ≤ S3 14 a2.toNatClampNeg then (cli (m_X6_sideOf [.inr 0, .inl a1] S3) (fun S7 r7 => cli (m_X6_sideOf [.inr 0, .inl a2] S7) (fun S8 r8 => if r7 = r8 then (cli (m_X6_cover [.inr 0, .inl a1, .inl a2] S8) (fun S9 r9 => if r9 = 0 then (some (S9, some (some (.inl 0)))) else (if 0 = 0 then (some (S9, some (some (.inl 0)))) else (some (S9, some (some (.inl 1))))))) else (some (S8, some (some (.inl 0))))))) else (cli (m_X6_sideOf [.inr 0, .inl a1] S3) (fun S10 r10 => cli (m_X6_sideOf [.inr 0, .inl a2] S10) (fun S11 r11 => if r10 = r11 then (cli (m_X6_cover [.inr 0, .inl a1, .inl a2] S11) (fun S12 r12 => if r12 = 0 then (some (S12, some (some (.inl 0)))) else (if 1 = 0 then (some (S12, some (some (.inl 0)))) else (some (S12, some (some (.inl 1))))))) else (some (S11, some (some (.inl 0))))))))))))))) else (some (S3, some (some (.inl 0))))))))))) := rfl
set_option maxRecDepth 100000 in
theorem v_X6_nextOf (f5 : BT) (S : XS) (a1 : Int32) : brn mT cs_X6_nextOf L_X6_nextOf [5] (dsp [(5, [0, 1, 2, 3], f5)]) 37 [] 0 [(0, .inr 0), (1, .inl a1)] [] S = (f5 [(0, .inr 0), (1, .inl a1), (2, .inl (-100003)), (3, .inl 0)] [] S) := rfl
theorem u_X6_nextOf (S : XS) (a1 : Int32) : m_X6_nextOf [.inr 0, .inl a1] S = (b_X6_nextOf_5 fu [(0, .inr 0), (1, .inl a1), (2, .inl (-100003)), (3, .inl 0)] [] S) := v_X6_nextOf _ S a1
set_option maxRecDepth 100000 in
theorem v_X6_nextOf_5 (f5 : BT) (S : XS) (a1 a2 a3 : Int32) : brn mT cs_X6_nextOf L_X6_nextOf [5] (dsp [(5, [0, 1, 2, 3], f5)]) 37 [] 5 [(0, .inr 0), (1, .inl a1), (2, .inl a2), (3, .inl a3)] [] S = (if S 0 1 ≤ a3 then (some (S, some (some (.inl a2)))) else (gA a3 40 (gA a1 40 (if S 1 a3.toNatClampNeg ≤ S 1 a1.toNatClampNeg then (f5 [(0, .inr 0), (1, .inl a1), (2, .inl a2), (3, .inl (a3 + 1))] [] S) else (if a2 = (-100003) then (f5 [(0, .inr 0), (1, .inl a1), (2, .inl a3), (3, .inl (a3 + 1))] [] S) else (gA a3 40 (gA a2 40 (if S 1 a2.toNatClampNeg ≤ S 1 a3.toNatClampNeg then (f5 [(0, .inr 0), (1, .inl a1), (2, .inl a2), (3, .inl (a3 + 1))] [] S) else (f5 [(0, .inr 0), (1, .inl a1), (2, .inl a3), (3, .inl (a3 + 1))] [] S))))))))) := rfl
theorem u_X6_nextOf_5 (n : Nat) (S : XS) (a1 a2 a3 : Int32) : b_X6_nextOf_5 (n + 1) [(0, .inr 0), (1, .inl a1), (2, .inl a2), (3, .inl a3)] [] S = (if S 0 1 ≤ a3 then (some (S, some (some (.inl a2)))) else (gA a3 40 (gA a1 40 (if S 1 a3.toNatClampNeg ≤ S 1 a1.toNatClampNeg then (b_X6_nextOf_5 n [(0, .inr 0), (1, .inl a1), (2, .inl a2), (3, .inl (a3 + 1))] [] S) else (if a2 = (-100003) then (b_X6_nextOf_5 n [(0, .inr 0), (1, .inl a1), (2, .inl a3), (3, .inl (a3 + 1))] [] S) else (gA a3 40 (gA a2 40 (if S 1 a2.toNatClampNeg ≤ S 1 a3.toNatClampNeg then (b_X6_nextOf_5 n [(0, .inr 0), (1, .inl a1), (2, .inl a2), (3, .inl (a3 + 1))] [] S) else (b_X6_nextOf_5 n [(0, .inr 0), (1, .inl a1), (2, .inl a3), (3, .inl (a3 + 1))] [] S))))))))) := v_X6_nextOf_5 _ S a1 a2 a3
set_option maxRecDepth 100000 in
theorem u_X6_lacks (S : XS) (a1 : Int32) : m_X6_lacks [.inr 0, .inl a1] S = (gA a1 80 (cli (m_X6_nextOf [.inr 0, .inl (S 8 a1.toNatClampNeg)] S) (fun S1 r1 => gA a1 80 (gA ((6 * (S1 9 a1.toNatClampNeg)) + 2) 60 (if S1 7 ((6 * (S1 9 a1.toNatClampNeg)) + 2).toNatClampNeg = 0 then (some (S1, some (some (.inl 0)))) else (if r1 = (-100003) then (some (S1, some (some (.inl 0)))) else (cli (m_X6_left [.inr 0, .inl a1] S1) (fun S2 r2 => gA a1 80 (gA r1 40 (if ((r2 + (S2 10 a1.toNatClampNeg)) + 4) - (S2 1 r1.toNatClampNeg) ≤ 0 then (some (S2, some (some (.inl 0)))) else (some (S2, some (some (.inl (((r2 + (S2 10 a1.toNatClampNeg)) + 4) - (S2 1 r1.toNatClampNeg)))))))))))))))) := rfl
set_option maxRecDepth 100000 in
theorem u_X6_wide (S : XS) (a1 : Int32) : m_X6_wide [.inr 0, .inl a1] S = (cli (m_X6_isMark [.inr 0, .inl a1] (up2 S 0 0 0)) (fun S1 r1 => if r1 = 0 then (some (S1, some (some (.inl (-100001))))) else (cli (m_X6_lacks [.inr 0, .inl a1] S1) (fun S2 r2 => some (S2, some (some (.inl r2))))))) := rfl
set_option maxRecDepth 100000 in
theorem v_X6_push (f43 : BT) (S : XS) (a1 : Int32) : brn mT cs_X6_push L_X6_push [43, 89] (dsp [(43, [0, 2, 3, 4], f43)]) 80 [] 0 [(0, .inr 0), (1, .inl a1)] [] S = (cli (m_X6_isMark [.inr 0, .inl a1] (up2 S 0 0 0)) (fun S1 r1 => if r1 = 0 then (some (S1, some (some (.inl (-100001))))) else (cli (m_X6_lacks [.inr 0, .inl a1] S1) (fun S2 r2 => if r2 = 0 then (some (S2, some (some (.inl 0)))) else (gA a1 80 (gA (S2 8 a1.toNatClampNeg) 40 (f43 [(0, .inr 0), (2, .inl r2), (3, .inl (S2 1 (S2 8 a1.toNatClampNeg).toNatClampNeg)), (4, .inl 0)] [] S2))))))) := rfl
theorem u_X6_push (S : XS) (a1 : Int32) : m_X6_push [.inr 0, .inl a1] S = (cli (m_X6_isMark [.inr 0, .inl a1] (up2 S 0 0 0)) (fun S1 r1 => if r1 = 0 then (some (S1, some (some (.inl (-100001))))) else (cli (m_X6_lacks [.inr 0, .inl a1] S1) (fun S2 r2 => if r2 = 0 then (some (S2, some (some (.inl 0)))) else (gA a1 80 (gA (S2 8 a1.toNatClampNeg) 40 (b_X6_push_43 fu [(0, .inr 0), (2, .inl r2), (3, .inl (S2 1 (S2 8 a1.toNatClampNeg).toNatClampNeg)), (4, .inl 0)] [] S2))))))) := v_X6_push _ S a1
set_option maxRecDepth 100000 in
theorem v_X6_push_43 (f43 f89 : BT) (S : XS) (a2 a3 a4 : Int32) : brn mT cs_X6_push L_X6_push [43, 89] (dsp [(43, [0, 2, 3, 4], f43), (89, [0, 2, 3, 4], f89)]) 80 [] 43 [(0, .inr 0), (2, .inl a2), (3, .inl a3), (4, .inl a4)] [] S = (if S 0 1 ≤ a4 then (f89 [(0, .inr 0), (2, .inl a2), (3, .inl a3), (4, .inl 0)] [] S) else (gA a4 40 (if S 1 a4.toNatClampNeg ≤ a3 then (f43 [(0, .inr 0), (2, .inl a2), (3, .inl a3), (4, .inl (a4 + 1))] [] S) else (gA a4 40 (if (S 1 a4.toNatClampNeg) + a2 ≤ 100000 then (f43 [(0, .inr 0), (2, .inl a2), (3, .inl a3), (4, .inl (a4 + 1))] [] S) else (some (S, some (some (.inl (-100002)))))))))) := rfl
theorem u_X6_push_43 (n : Nat) (S : XS) (a2 a3 a4 : Int32) : b_X6_push_43 (n + 1) [(0, .inr 0), (2, .inl a2), (3, .inl a3), (4, .inl a4)] [] S = (if S 0 1 ≤ a4 then (b_X6_push_89 fu [(0, .inr 0), (2, .inl a2), (3, .inl a3), (4, .inl 0)] [] S) else (gA a4 40 (if S 1 a4.toNatClampNeg ≤ a3 then (b_X6_push_43 n [(0, .inr 0), (2, .inl a2), (3, .inl a3), (4, .inl (a4 + 1))] [] S) else (gA a4 40 (if (S 1 a4.toNatClampNeg) + a2 ≤ 100000 then (b_X6_push_43 n [(0, .inr 0), (2, .inl a2), (3, .inl a3), (4, .inl (a4 + 1))] [] S) else (some (S, some (some (.inl (-100002)))))))))) := v_X6_push_43 _ _ S a2 a3 a4
set_option maxRecDepth 100000 in
theorem v_X6_push_89 (f89 : BT) (S : XS) (a2 a3 a4 : Int32) : brn mT cs_X6_push L_X6_push [43, 89] (dsp [(89, [0, 2, 3, 4], f89)]) 80 [] 89 [(0, .inr 0), (2, .inl a2), (3, .inl a3), (4, .inl a4)] [] S = (if S 0 1 ≤ a4 then (some (up2 S 0 29 0, some (some (.inl a2)))) else (gA a4 40 (gA a4 40 (if S 1 a4.toNatClampNeg ≤ a3 then (gA a4 40 (f89 [(0, .inr 0), (2, .inl a2), (3, .inl a3), (4, .inl (a4 + 1))] [] (up2 S 1 a4.toNatClampNeg ((S 1 a4.toNatClampNeg) + 0)))) else (gA a4 40 (f89 [(0, .inr 0), (2, .inl a2), (3, .inl a3), (4, .inl (a4 + 1))] [] (up2 S 1 a4.toNatClampNeg ((S 1 a4.toNatClampNeg) + a2)))))))) := rfl
theorem u_X6_push_89 (n : Nat) (S : XS) (a2 a3 a4 : Int32) : b_X6_push_89 (n + 1) [(0, .inr 0), (2, .inl a2), (3, .inl a3), (4, .inl a4)] [] S = (if S 0 1 ≤ a4 then (some (up2 S 0 29 0, some (some (.inl a2)))) else (gA a4 40 (gA a4 40 (if S 1 a4.toNatClampNeg ≤ a3 then (gA a4 40 (b_X6_push_89 n [(0, .inr 0), (2, .inl a2), (3, .inl a3), (4, .inl (a4 + 1))] [] (up2 S 1 a4.toNatClampNeg ((S 1 a4.toNatClampNeg) + 0)))) else (gA a4 40 (b_X6_push_89 n [(0, .inr 0), (2, .inl a2), (3, .inl a3), (4, .inl (a4 + 1))] [] (up2 S 1 a4.toNatClampNeg ((S 1 a4.toNatClampNeg) + a2)))))))) := v_X6_push_89 _ S a2 a3 a4
set_option maxRecDepth 100000 in
theorem v_X6_marksOf (f4 : BT) (S : XS) (a1 : Int32) : brn mT cs_X6_marksOf L_X6_marksOf [4] (dsp [(4, [0, 1, 2, 3], f4)]) 34 [] 0 [(0, .inr 0), (1, .inl a1)] [] S = (f4 [(0, .inr 0), (1, .inl a1), (2, .inl 0), (3, .inl 0)] [] S) := rfl
theorem u_X6_marksOf (S : XS) (a1 : Int32) : m_X6_marksOf [.inr 0, .inl a1] S = (b_X6_marksOf_4 fu [(0, .inr 0), (1, .inl a1), (2, .inl 0), (3, .inl 0)] [] S) := v_X6_marksOf _ S a1
set_option maxRecDepth 100000 in
theorem v_X6_marksOf_4 (f4 : BT) (S : XS) (a1 a2 a3 : Int32) : brn mT cs_X6_marksOf L_X6_marksOf [4] (dsp [(4, [0, 1, 2, 3], f4)]) 34 [] 4 [(0, .inr 0), (1, .inl a1), (2, .inl a2), (3, .inl a3)] [] S = (if S 0 9 ≤ a3 then (some (S, some (some (.inl a2)))) else (gA a3 80 (if S 12 a3.toNatClampNeg = 0 then (if a1 = (-100003) then (f4 [(0, .inr 0), (1, .inl a1), (2, .inl (a2 + 1)), (3, .inl (a3 + 1))] [] S) else (gA a3 80 (if S 8 a3.toNatClampNeg = a1 then (f4 [(0, .inr 0), (1, .inl a1), (2, .inl (a2 + 1)), (3, .inl (a3 + 1))] [] S) else (f4 [(0, .inr 0), (1, .inl a1), (2, .inl (a2 + 0)), (3, .inl (a3 + 1))] [] S)))) else (f4 [(0, .inr 0), (1, .inl a1), (2, .inl (a2 + 0)), (3, .inl (a3 + 1))] [] S)))) := rfl
theorem u_X6_marksOf_4 (n : Nat) (S : XS) (a1 a2 a3 : Int32) : b_X6_marksOf_4 (n + 1) [(0, .inr 0), (1, .inl a1), (2, .inl a2), (3, .inl a3)] [] S = (if S 0 9 ≤ a3 then (some (S, some (some (.inl a2)))) else (gA a3 80 (if S 12 a3.toNatClampNeg = 0 then (if a1 = (-100003) then (b_X6_marksOf_4 n [(0, .inr 0), (1, .inl a1), (2, .inl (a2 + 1)), (3, .inl (a3 + 1))] [] S) else (gA a3 80 (if S 8 a3.toNatClampNeg = a1 then (b_X6_marksOf_4 n [(0, .inr 0), (1, .inl a1), (2, .inl (a2 + 1)), (3, .inl (a3 + 1))] [] S) else (b_X6_marksOf_4 n [(0, .inr 0), (1, .inl a1), (2, .inl (a2 + 0)), (3, .inl (a3 + 1))] [] S)))) else (b_X6_marksOf_4 n [(0, .inr 0), (1, .inl a1), (2, .inl (a2 + 0)), (3, .inl (a3 + 1))] [] S)))) := v_X6_marksOf_4 _ S a1 a2 a3
set_option maxRecDepth 100000 in
theorem u_X6_item (S : XS) (a1 a2 : Int32) : m_X6_item [.inr 0, .inl a1, .inl a2] S = (cli (m_X6_isItem [.inr 0, .inl a1] (up2 S 0 0 0)) (fun S1 r1 => if r1 = 0 then (some (S1, some (some (.inl (-100001))))) else (if a2.toInt = 0 then (gA a1 40 (some (S1, some (some (.inl (S1 1 a1.toNatClampNeg)))))) else (if a2.toInt = 1 then (gA a1 40 (some (S1, some (some (.inl (S1 2 a1.toNatClampNeg)))))) else (if a2.toInt = 2 then (gA a1 40 (some (S1, some (some (.inl (S1 3 a1.toNatClampNeg)))))) else (if a2.toInt = 3 then (gA a1 40 (some (S1, some (some (.inl (S1 4 a1.toNatClampNeg)))))) else (if a2.toInt = 4 then (gA a1 40 (some (S1, some (some (.inl (S1 5 a1.toNatClampNeg)))))) else (if a2.toInt = 5 then (gA a1 40 (if S1 6 a1.toNatClampNeg = 0 then (some (S1, some (some (.inl 0)))) else (some (S1, some (some (.inl 1)))))) else (if a2.toInt = 6 then (cli (m_X6_marksOf [.inr 0, .inl a1] S1) (fun S2 r2 => some (S2, some (some (.inl r2))))) else (some (S1, some (some (.inl (-100001)))))))))))))) := rfl
set_option maxRecDepth 100000 in
theorem v_X6_outermost (f4 : BT) (S : XS) (a1 : Int32) : brn mT cs_X6_outermost L_X6_outermost [4, 58] (dsp [(4, [0, 1, 2, 3], f4)]) 72 [] 0 [(0, .inr 0), (1, .inl a1)] [] S = (f4 [(0, .inr 0), (1, .inl a1), (2, .inl 0), (3, .inl 0)] [] S) := rfl
theorem u_X6_outermost (S : XS) (a1 : Int32) : m_X6_outermost [.inr 0, .inl a1] S = (b_X6_outermost_4 fu [(0, .inr 0), (1, .inl a1), (2, .inl 0), (3, .inl 0)] [] S) := v_X6_outermost _ S a1
set_option maxRecDepth 100000 in
theorem v_X6_outermost_4 (f4 f58 : BT) (S : XS) (a1 a2 a3 : Int32) : brn mT cs_X6_outermost L_X6_outermost [4, 58] (dsp [(4, [0, 1, 2, 3], f4), (58, [0, 1, 2, 3], f58)]) 72 [] 4 [(0, .inr 0), (1, .inl a1), (2, .inl a2), (3, .inl a3)] [] S = (if S 0 20 ≤ a3 then (f58 [(0, .inr 0), (1, .inl a1), (2, .inl a2), (3, .inl 0)] [] S) else (gA a3 10 (gA a3 10 (gA a3 10 (if S 19 a3.toNatClampNeg = a1 then (if (S 21 a3.toNatClampNeg) + (S 20 a3.toNatClampNeg) ≤ a2 then (f4 [(0, .inr 0), (1, .inl a1), (2, .inl a2), (3, .inl (a3 + 1))] [] S) else (f4 [(0, .inr 0), (1, .inl a1), (2, .inl ((S 21 a3.toNatClampNeg) + (S 20 a3.toNatClampNeg))), (3, .inl (a3 + 1))] [] S)) else (f4 [(0, .inr 0), (1, .inl a1), (2, .inl a2), (3, .inl (a3 + 1))] [] S)))))) := rfl
theorem u_X6_outermost_4 (n : Nat) (S : XS) (a1 a2 a3 : Int32) : b_X6_outermost_4 (n + 1) [(0, .inr 0), (1, .inl a1), (2, .inl a2), (3, .inl a3)] [] S = (if S 0 20 ≤ a3 then (b_X6_outermost_58 fu [(0, .inr 0), (1, .inl a1), (2, .inl a2), (3, .inl 0)] [] S) else (gA a3 10 (gA a3 10 (gA a3 10 (if S 19 a3.toNatClampNeg = a1 then (if (S 21 a3.toNatClampNeg) + (S 20 a3.toNatClampNeg) ≤ a2 then (b_X6_outermost_4 n [(0, .inr 0), (1, .inl a1), (2, .inl a2), (3, .inl (a3 + 1))] [] S) else (b_X6_outermost_4 n [(0, .inr 0), (1, .inl a1), (2, .inl ((S 21 a3.toNatClampNeg) + (S 20 a3.toNatClampNeg))), (3, .inl (a3 + 1))] [] S)) else (b_X6_outermost_4 n [(0, .inr 0), (1, .inl a1), (2, .inl a2), (3, .inl (a3 + 1))] [] S)))))) := v_X6_outermost_4 _ _ S a1 a2 a3
set_option maxRecDepth 100000 in
theorem v_X6_outermost_58 (f58 : BT) (S : XS) (a1 a2 a3 : Int32) : brn mT cs_X6_outermost L_X6_outermost [4, 58] (dsp [(58, [0, 1, 2, 3], f58)]) 72 [] 58 [(0, .inr 0), (1, .inl a1), (2, .inl a2), (3, .inl a3)] [] S = (if S 0 9 ≤ a3 then (some (S, some (some (.inl a2)))) else (gA a3 80 (gA a3 80 (gA a3 80 (if S 12 a3.toNatClampNeg = 0 then (cli (m_X6_sideOf [.inr 0, .inl a3] S) (fun S1 r1 => if r1 = a1 then (if (S 14 a3.toNatClampNeg) + (S 11 a3.toNatClampNeg) ≤ a2 then (f58 [(0, .inr 0), (1, .inl a1), (2, .inl a2), (3, .inl (a3 + 1))] [] S1) else (f58 [(0, .inr 0), (1, .inl a1), (2, .inl ((S 14 a3.toNatClampNeg) + (S 11 a3.toNatClampNeg))), (3, .inl (a3 + 1))] [] S1)) else (f58 [(0, .inr 0), (1, .inl a1), (2, .inl a2), (3, .inl (a3 + 1))] [] S1))) else (f58 [(0, .inr 0), (1, .inl a1), (2, .inl a2), (3, .inl (a3 + 1))] [] S)))))) := rfl
theorem u_X6_outermost_58 (n : Nat) (S : XS) (a1 a2 a3 : Int32) : b_X6_outermost_58 (n + 1) [(0, .inr 0), (1, .inl a1), (2, .inl a2), (3, .inl a3)] [] S = (if S 0 9 ≤ a3 then (some (S, some (some (.inl a2)))) else (gA a3 80 (gA a3 80 (gA a3 80 (if S 12 a3.toNatClampNeg = 0 then (cli (m_X6_sideOf [.inr 0, .inl a3] S) (fun S1 r1 => if r1 = a1 then (if (S 14 a3.toNatClampNeg) + (S 11 a3.toNatClampNeg) ≤ a2 then (b_X6_outermost_58 n [(0, .inr 0), (1, .inl a1), (2, .inl a2), (3, .inl (a3 + 1))] [] S1) else (b_X6_outermost_58 n [(0, .inr 0), (1, .inl a1), (2, .inl ((S 14 a3.toNatClampNeg) + (S 11 a3.toNatClampNeg))), (3, .inl (a3 + 1))] [] S1)) else (b_X6_outermost_58 n [(0, .inr 0), (1, .inl a1), (2, .inl a2), (3, .inl (a3 + 1))] [] S1))) else (b_X6_outermost_58 n [(0, .inr 0), (1, .inl a1), (2, .inl a2), (3, .inl (a3 + 1))] [] S)))))) := v_X6_outermost_58 _ S a1 a2 a3
set_option maxRecDepth 100000 in
theorem u_X6_count (S : XS) (a1 : Int32) : m_X6_count [.inr 0, .inl a1] S = (if a1.toInt = 0 then (some (up2 S 0 0 0, some (some (.inl ((up2 S 0 0 0) 0 1))))) else (if a1.toInt = 1 then (cli (m_X6_marksOf [.inr 0, .inl (-100003)] (up2 S 0 0 0)) (fun S7 r7 => some (S7, some (some (.inl r7))))) else (if a1.toInt = 2 then (some (up2 S 0 0 0, some (some (.inl ((up2 S 0 0 0) 0 20))))) else (if a1.toInt = 3 then (if (up2 S 0 0 0) 0 29 = 0 then (some (up2 S 0 0 0, some (some (.inl 0)))) else (some (up2 S 0 0 0, some (some (.inl 1))))) else (if a1.toInt = 4 then (cli (m_X6_throwsNow [.inr 0] (up2 S 0 0 0)) (fun S4 r4 => if r4 = 0 then (if a1 = 4 then (cli (m_X6_outermost [.inr 0, .inl 1] S4) (fun S6 r6 => some (S6, some (some (.inl r6))))) else (cli (m_X6_outermost [.inr 0, .inl (-1)] S4) (fun S5 r5 => some (S5, some (some (.inl r5)))))) else (some (S4, some (some (.inl 0)))))) else (if a1.toInt = 5 then (cli (m_X6_throwsNow [.inr 0] (up2 S 0 0 0)) (fun S1 r1 => if r1 = 0 then (if a1 = 4 then (cli (m_X6_outermost [.inr 0, .inl 1] S1) (fun S3 r3 => some (S3, some (some (.inl r3))))) else (cli (m_X6_outermost [.inr 0, .inl (-1)] S1) (fun S2 r2 => some (S2, some (some (.inl r2)))))) else (some (S1, some (some (.inl 0)))))) else (some (up2 S 0 0 0, some (some (.inl (-100001))))))))))) := rfl
end
section
def xISE : String := "java/lang/IllegalStateException"
def xNms : List String := ["java/lang/RuntimeException", "java/lang/Exception"]
set_option maxRecDepth 20000 in
theorem th_in : ∀ w ∈ (vx_atS RX5 211 xISE xNms).filter goodWord, w ∈ wA := fun w h => List.mem_filter.mpr ⟨(by decide +kernel : ∀ w ∈ (vx_atS RX5 211 xISE xNms).filter goodWord, w ∈ lw_tbl) w h, (List.mem_filter.mp h).2⟩
theorem th_nw : ∀ w ∈ (vx_atS RX5 211 xISE xNms).filter (fun w => !goodWord w), w ∈ nwl := by decide +kernel
theorem th_ot : ∀ w ∈ Cond.classLink RX5 207 xISE :: Cond.initialized xISE :: vx_atS RX5 211 xISE xNms, vx_ot w = true := by decide +kernel
theorem th_cl : Cond.classLink RX5 207 xISE ∈ wA := by decide +kernel
theorem th_ini : Cond.initialized xISE ∈ wA := by decide +kernel
theorem th_words {s : State} {args : Array Value} (hts : ∀ w ∈ wA, w.before args s = true) (hN : xNw s) : ∀ w ∈ vx_atS RX5 211 xISE xNms, w.before args s = true := by
  intro w hw
  by_cases g : goodWord w = true
  · exact hts w (th_in w (List.mem_filter.mpr ⟨hw, g⟩))
  · have h1 : w ∈ (vx_atS RX5 211 xISE xNms).filter (fun w => !goodWord w) := List.mem_filter.mpr ⟨hw, by simp [g]⟩
    exact va_Nw.use (nest_tabs (nwl_nest w (th_nw w h1))) (hN w (th_nw w h1))
/-- what holds where a method has thrown -/
def xXC (D : va_G) (T : List WE) (g : Nat → Nat) (cI cZ : ClassId) (A : Nat → Prop) (R0 : RS) : String → State → State → Prop := fun E st t => E = xISE ∧ R0.2 = none ∧ va_P D vwCl (ww T g cI cZ R0.1) t.heap ∧ va_F A st t
/-- the two contracts of a method that may throw: it returns; it throws -/
def xMetR (l : Launch) (D : va_G) (T : List WE) (g : Nat → Nat) (cI cZ : ClassId) (A : Nat → Prop) (y : MethodName) (ws : List Jvm.Cond) (rm : Room) (n : Nat) (sem : MT) : Prop := ∀ (As : List AV) (S : XS) (R0 : RS), As.length = n → sem As S = some R0 → R0.2 ≠ none → Met l y ws rm (va_Pc (As.map (cv g)) (xPre D T g cI cZ A S)) (xQ D T g cI cZ A R0) 0 0 A
def xMetT (l : Launch) (D : va_G) (T : List WE) (g : Nat → Nat) (cI cZ : ClassId) (A : Nat → Prop) (y : MethodName) (ws : List Jvm.Cond) (rm : Room) (n : Nat) (sem : MT) : Prop := ∀ (As : List AV) (S : XS) (R0 : RS), As.length = n → sem As S = some R0 → R0.2 = none → vx_Met l y ws rm (va_Pc (As.map (cv g)) (xPre D T g cI cZ A S)) (xQ D T g cI cZ A R0) (xXC D T g cI cZ A R0) 1 6 A
section XCT
variable {p : Program} {l : Launch} {e : Env} {R : Room} {s : State} {m : MethodId} {args : Array Value} {below : List Frame} {meth : Method} {c : Code} {cells slots : Nat} {Q : State → Prop} {D : va_G} {T : List WE} {g : Nat → Nat} {cI cZ : ClassId} {A : Nat → Prop} {nL : Nat} {cc : ByteArray} {own : String} {R0 : RS} {Ts ws ws' : List Jvm.Cond} {y : MethodName} {bytes : ByteArray} {maxL idx n rk ci : Nat} {ret : Option FieldType} {rm rmT : Room} {sem : MT} {C : String} {Tf : u_T} {N : Nat} {host : String}
/-- a callee that may throw, where the method itself returns -/
theorem xcf_R (C0 : xC p s m c D T g cI cZ A nL cc own) (hts : ∀ w ∈ Ts, w.before args s = true) (hN : xNw s) (hM : xMetR l D T g cI cZ A y ws rm (n + 1) sem) (hR0 : R0.2 ≠ none) (hG : GoodIn Ts (wsV own idx C y ws)) (hw : ws = Jvm.Cond.code y bytes maxL ret :: ws') (hrm : rm.cells = 0 ∧ rm.slots = 0) (hc : vwCl[ci]? = some (C, Tf, N))
    (hd : y.cls = C ∧ y.cls ≠ "java/lang/invoke/MethodHandle" ∧ y.cls ≠ "java/lang/invoke/VarHandle" ∧ (parseMethodDescriptor y.desc).map (fun d => d.parameters.length) = some n) (hR : rm.frames + 1 ≤ R.frames ∧ 8 + (maxL + 11) + rm.locals ≤ R.locals) (hf : cells ≤ R.cells ∧ slots ≤ R.slots) :
    xCF p l e R s m args below meth c cells slots Q D T g cI cZ A nL cc R0 (false, idx, n + 1, rk, ci, sem) := by
  intro pc lv As rest S o hlen hrest hdg hrc hsem hk
  have ho : o.2 ≠ none := by
    intro e0
    rw [e0] at hk
    exact hR0 (by rw [hk])
  exact xcf_V1 C0 hts hN (hM As S o hlen hsem ho) hG hw hrm hc hd hR hf pc lv hlen hrest hdg (hrc.resolve_left Bool.false_ne_true) hk
/-- .. and where it may throw -/
theorem xcf_T (C0 : xC p s m c D T g cI cZ A nL cc own) (hts : ∀ w ∈ Ts, w.before args s = true) (hN : xNw s) (hM : xMetR l D T g cI cZ A y ws rm (n + 1) sem) (hMT : xMetT l D T g cI cZ A y ws rmT (n + 1) sem) (hout : ∀ x ∈ c.exceptionTable.toList, False) (hlocks : meth.locks = false) (hG : GoodIn Ts (wsV own idx C y ws)) (hw : ws = Jvm.Cond.code y bytes maxL ret :: ws') (hrm : rm.cells = 0 ∧ rm.slots = 0) (hrmT : rmT.cells = 1 ∧ rmT.slots = 6) (hc : vwCl[ci]? = some (C, Tf, N))
    (hd : y.cls = C ∧ y.cls ≠ "java/lang/invoke/MethodHandle" ∧ y.cls ≠ "java/lang/invoke/VarHandle" ∧ (parseMethodDescriptor y.desc).map (fun d => d.parameters.length) = some n) (hR : rm.frames + 1 ≤ R.frames ∧ 8 + (maxL + 11) + rm.locals ≤ R.locals) (hRT : rmT.frames + 1 ≤ R.frames ∧ 8 + (maxL + 11) + rmT.locals ≤ R.locals) (hf : 1 ≤ R.cells ∧ 6 ≤ R.slots) :
    xCF p l e R s m args below meth c 0 0 (vx_MQ below (xQ D T g cI cZ A R0) (xXC D T g cI cZ A R0) args s 1 6 A) D T g cI cZ A nL cc R0 (false, idx, n + 1, rk, ci, sem) := by
  intro pc lv As rest S o hlen hrest hdg hrc hsem hk
  cases ho : o.2 with
  | some v => exact xcf_V1 C0 hts hN (hM As S o hlen hsem (by rw [ho]; exact fun h => by cases h)) hG hw hrm hc hd hR ⟨Nat.zero_le _, Nat.zero_le _⟩ pc lv hlen hrest hdg (hrc.resolve_left Bool.false_ne_true) hk
  | none =>
    rw [ho] at hk
    have hR0 : R0 = (o.1, none) := hk
    obtain ⟨hx, hb, hml, hown, hKK, hDD, hst⟩ := C0
    intro H locs ls hP hS hl
    obtain ⟨k0, fds, t, rfl, hT⟩ := rcv_some (hrc.resolve_left Bool.false_ne_true)
    have e0 : ((Sum.inr k0 :: t).reverse ++ rest).map (cv g) = (t.map (cv g)).reverse ++ Value.ref (g k0) :: rest.map (cv g) := by
      simp [cv]
    rw [e0]
    have hr := vx_runV (l := l) (locs := locs) (cells := 0) (slots := 0) (below := below) (meth := meth) (e := e) (R := R) (g := F0 m pc ls ((t.map (cv g)).reverse ++ Value.ref (g k0) :: rest.map (cv g))) (As := t.map (cv g)) (rest := rest.map (cv g)) ⟨hx, hb, hml, hown, hts⟩ (hMT _ S o hlen hsem ho) (cwV n hts hG hw hrmT.1 hrmT.2 hd hRT) ⟨xPre_blind, va_recv hKK hP hc (ww_get hT), fun U hU hW => ⟨rfl, by rw [hU]; exact hP, va_K.moved hW.alike hKK, hN.warm hW, hst.on hS hU hW⟩⟩ rfl (by rw [List.length_map]; exact Nat.succ.inj hlen) hl.1 rfl (lv_room (by rw [map_cat]; exact hrest)) hdg ⟨by simpa using hf.1, by simpa using hf.2⟩
    intro T0 hT0 X
    rcases hr T0 hT0 X with ⟨v, st₀, t1, T', L, h0, X', hL, e1, e2, ⟨⟨v0, hv0, hv1, hP1⟩, hF⟩, st⟩ | ⟨q, st₀, t1, T', L, E, ce, h0, X', hL, e1, e2, ⟨hE, -, hP1, hF⟩, hce, hcv, hcl, st⟩
    · rw [ho] at hv0; cases hv0
    · have hz := hF.1
      have hkk := hF.2
      rw [h0] at hz hkk
      have hS' : va_S A s.heap T'.heap (locs ++ L) := by
        refine ⟨Nat.le_trans hS.1 (by rw [e1]; exact hz), fun q h1 h2 => ?_, fun q hq => ?_⟩
        · rw [e1, hkk q (Nat.lt_of_lt_of_le h1 hS.1) h2]
          exact hS.2.1 q h1 h2
        · rcases List.mem_append.mp hq with h | h
          · exact hS.2.2 q h
          · exact hL q h
      have K := vx_out (p := p) (l := l) (e := e) (R := R) (s := s) (m := m) (args := args) (below := below) (meth := meth) (c := c) (H := T'.heap) (locs := locs ++ L) (cells := 0 + 1) (slots := 0 + 6) (pc := pc) (ls := ls) (rest := rest.map (cv g)) (E := E) (ce := ce) (q := q) (mc := 1) (ms := 6) (free := A) (Qc := xQ D T g cI cZ A R0) (XC := xXC D T g cI cZ A R0) (fun x hx => (hout x hx).elim) hlocks (by rw [e1]; exact hce) hcv hcl
        (fun t2 ht2 hal => ⟨hE, by rw [hR0], by rw [ht2, e1, hR0]; exact hP1, hS'.F ht2⟩) hS'.2.2 (Nat.le_refl _) (Nat.le_refl _)
      obtain ⟨t2, a1, b1⟩ := K T' rfl X'
      exact ⟨t2, st.trans a1, b1⟩
end XCT
set_option maxHeartbeats 1000000 in
/-- a method that throws -/
theorem xa_metT1 {l : Launch} {D : va_G} {T : List WE} {g : Nat → Nat} {cI cZ : ClassId} {A : Nat → Prop} {y : MethodName} {rm : Room} {n nL zb : Nat} {cc : ByteArray} {cs : List CT} {L : List CE} {As : List AV} {S : XS} {R0 : RS} {ft : List (Nat × Nat × Nat)} {pt : List (Nat × Nat × Nat × Nat)} {kt : List (Nat × Int32)}
    (hD : ∀ S, va_D A (ww T g cI cZ S)) (hy : plainName y.cls = true) (hn : n ≤ nL) (hlen : As.length = n) (hR0 : R0.2 = none) (hL : ∀ q ∈ L, rok cc nL zb q = true) (hF : ∀ q ∈ L, fck ft pt kt q = true)
    (hfacts : ∀ (s : State) (args : Array Value), (∀ w ∈ wA, w.before args s = true) → xNw s → (∀ q ∈ ft, xFt s args y.cls q) ∧ (∀ q ∈ pt, xPt s args y.cls q) ∧ ∀ q ∈ kt, (Jvm.Cond.constant y.cls q.1 q.2).before args s = true)
    (hcs : ∀ (p : Program) (e : Env) (s : State) (m : MethodId) (args : Array Value) (below : List Frame) (meth : Method) (c : Code), xC p s m c D T g cI cZ A nL cc y.cls → (∀ w ∈ wm y cc nL zb, w.before args s = true) → xNw s → (∀ x ∈ c.exceptionTable.toList, False) → meth.locks = false → ∀ (j : Nat) (q : CT), cs[j]? = some q → xCF p l e rm s m args below meth c 0 0 (vx_MQ below (xQ D T g cI cZ A R0) (xXC D T g cI cZ A R0) args s 1 6 A) D T g cI cZ A nL cc R0 q)
    (hb : ∀ (p : Program) (e : Env) (s : State) (m : MethodId) (args : Array Value) (below : List Frame) (meth : Method) (c : Code), (∀ w ∈ wA, w.before args s = true) → xNw s → (∀ x ∈ c.exceptionTable.toList, False) → meth.locks = false → xM p l e rm s m args below meth c 0 0 (vx_MQ below (xQ D T g cI cZ A R0) (xXC D T g cI cZ A R0) args s 1 6 A) D T g cI cZ A nL cc y.cls zb cs L R0 → xG p l e rm s m args below meth c 0 0 (vx_MQ below (xQ D T g cI cZ A R0) (xXC D T g cI cZ A R0) args s 1 6 A) D T g cI cZ A nL 0 (zipN 0 As) [] S) :
    vx_Met l y (wm y cc nL zb) rm (va_Pc (As.map (cv g)) (xPre D T g cI cZ A S)) (xQ D T g cI cZ A R0) (xXC D T g cI cZ A R0) 1 6 A := by
  refine vx_ofW (cc := cc) (maxL := nL) (ret := rety zb) hy rfl ?_
  intro p e s m args below meth c s₁ B hml hout hv
  obtain ⟨rfl, hP, hK, hN, hst⟩ := hv
  have hx := B.exec
  have hbb := B.bytes
  have hts := atoms_spec (ws := wm y cc nL zb) B.pre
  have hts2 : ∀ w ∈ wA, w.before (As.map (cv g)).toArray s = true := fun w hw => hts w (List.mem_cons_of_mem _ hw)
  have hown : s.vm.findClass y.cls = some m.cls := findClass_of_methodNamed B.named
  have hlocks : meth.locks = false := B.notSynchronized
  have C0 : xC p s m c D T g cI cZ A nL cc y.cls := ⟨hx, hbb, hml, hown, hK, hD, hst⟩
  obtain ⟨f1, f2, f3⟩ := hfacts s _ hts2 hN
  have hl := lv_entry (As.map (cv g)) (n := nL) (by rw [sl_len, hlen]; exact hn)
  rw [lg_entry_eq]
  generalize (lg_sl (As.map (cv g)) ++ List.replicate (nL - (lg_sl (As.map (cv g))).length) Slot.unset).toArray = ls at hl ⊢
  rw [zip_args] at hl
  exact hb p e s m _ below meth c hts2 hN hout hlocks ⟨C0, hcs p e s m _ below meth c C0 hts hN hout hlocks, fun pc S v H locs ls e0 _ _ _ => absurd hR0 (by rw [e0]; exact fun h => by cases h), hL, fun q hq => xF_of f1 f2 f3 (hF q hq)⟩ s.heap [] ls hP va_S.rf hl
end
section
def thr : BT := fun _ st S => match st with
  | [] => some (S, none)
  | _ => none
def L_X5_demandPlaces : List CE := [(0, .aload_n 0, 1, [], 0), (1, .getfield 73, 4, [5, 9], 0), (4, .ifCond .ne 13, 7, [17], 0), (17, .return_, 18, [], 0)]
theorem ok_X5_demandPlaces : ∀ q ∈ L_X5_demandPlaces, rok cX5_demandPlaces 1 2 q = true := by decide +kernel
theorem fk_X5_demandPlaces : ∀ q ∈ L_X5_demandPlaces, fck FT_X5 PT_X5 KT_X5 q = true := by decide +kernel
def m_X5_demandPlaces : MT := fun As S => brn xT [] L_X5_demandPlaces [7] (dsp [(7, [], thr)]) 8 [] 0 (zipN 0 As) [] S
theorem thr_some {lv : LV} {st : List AV} {S : XS} {R0 : RS} (h : thr lv st S = some R0) : st = [] ∧ R0 = (S, none) := by
  unfold thr at h
  split at h
  · exact ⟨rfl, (Option.some.inj h).symm⟩
  · cases h
theorem dp_7 : decode cX5_demandPlaces 7 = .ok (.new 207, 3) := by decide +kernel
theorem dp_10 : decode cX5_demandPlaces 10 = .ok (.dup, 1) := by decide +kernel
theorem dp_11 : decode cX5_demandPlaces 11 = .ok (.ldc 209, 2) := by decide +kernel
theorem dp_13 : decode cX5_demandPlaces 13 = .ok (.invokespecial 211, 3) := by decide +kernel
theorem dp_16 : decode cX5_demandPlaces 16 = .ok (.athrow, 1) := by decide +kernel
theorem cR_X5_demandPlaces {l : Launch} {D : va_G} {g : Nat → Nat} {cI cZ : ClassId} {A : Nat → Prop} (hD : ∀ S, va_D A (ww xT g cI cZ S)) : xMetR l D xT g cI cZ A yX5_demandPlaces (wm yX5_demandPlaces cX5_demandPlaces 1 2) { frames := 0, cells := 0, slots := 0, locals := 0 } 1 m_X5_demandPlaces :=
  fun As S R0 hlen h hr => xa_met1 (ft := FT_X5) (pt := PT_X5) (kt := KT_X5) (cs := []) (L := L_X5_demandPlaces) hD (by decide) (by decide) hlen ok_X5_demandPlaces fk_X5_demandPlaces fa_X5 (fun p e s m args below meth c Q C0 hts hN => all_get (fun _ q => absurd q List.not_mem_nil)) (fun p e s m args below meth c Q M => xa_blk M (List.forall_mem_cons.mpr ⟨fun lv st S h => absurd (show R0.2 = none by rw [(thr_some (lv := lv) (st := st) (S := S) (R0 := R0) h).2]) hr, fun _ q => absurd q List.not_mem_nil⟩) h)
theorem cT_X5_demandPlaces {l : Launch} {D : va_G} {g : Nat → Nat} {cI cZ : ClassId} {A : Nat → Prop} (hD : ∀ S, va_D A (ww xT g cI cZ S)) (hl : l.stackTraces = false) : xMetT l D xT g cI cZ A yX5_demandPlaces (wm yX5_demandPlaces cX5_demandPlaces 1 2) { frames := 6, cells := 1, slots := 6, locals := 100 } 1 m_X5_demandPlaces :=
  fun As S R0 hlen h hr => xa_metT1 (ft := FT_X5) (pt := PT_X5) (kt := KT_X5) (cs := []) (L := L_X5_demandPlaces) hD (by decide) (by decide) hlen hr ok_X5_demandPlaces fk_X5_demandPlaces fa_X5 (fun p e s m args below meth c C0 hts hN hout hlk => all_get (fun _ q => absurd q List.not_mem_nil)) (fun p e s m args below meth c hts hN hout hlk M => by
    refine xa_blk M (List.forall_mem_cons.mpr ⟨fun lv st S1 h1 => ?_, fun _ q => absurd q List.not_mem_nil⟩) h
    obtain ⟨rfl, hR⟩ := thr_some (lv := lv) h1
    obtain ⟨⟨hx, hb, hml, hown, hKK, hDD, hst⟩, -, -, -, -⟩ := M
    intro H locs ls hP hS hls
    exact vx_throwS (own := RX5) (cls := xISE) (text := xTxt) (names := xNms) (ik := 207) (is := 209) (ic := 211) (sa := g 42) (A := A) hx hb hl hown (by decide +kernel) (by decide +kernel) (hts _ th_cl) (hts _ th_ini) hst.2.2 (th_words hts hN) th_ot hst.2.1.1 hst.2.1.2 hS (by rw [hml]; exact hls.1) dp_7 dp_10 dp_11 dp_13 dp_16 (fun x hx => (hout x hx).elim) (by decide) (Nat.le_of_ble_eq_true rfl) (by decide) (by decide) hlk
      (fun t hal hz hq => ⟨rfl, hr, by rw [hR]; exact hP.kept (fun k x hx => hq x.1 ((hP k x hx).lt)), ⟨Nat.le_trans hS.1 hz, fun q h1 h2 => (hq q (Nat.lt_of_lt_of_le h1 hS.1)).trans (hS.2.1 q h1 h2)⟩⟩) hS.2.2 (Nat.le_refl _) (Nat.le_refl _))
section
variable {p : Program} {l : Launch} {e : Env} {R : Room} {s : State} {m : MethodId} {args : Array Value} {below : List Frame} {meth : Method} {c : Code} {cells slots : Nat} {Q : State → Prop} {D : va_G} {g : Nat → Nat} {cI cZ : ClassId} {A : Nat → Prop} {R0 : RS}
def L_X5_outermost : List CE := [(0, .aload_n 0, 1, [], 0), (1, .invokevirtual 124, 4, [0], 0), (4, .aload_n 0, 5, [], 0), (5, .iload_n 1, 6, [], 0), (6, .invokevirtual 153, 9, [1], 0), (9, .getfield 219, 12, [3, 5], 0), (12, .ireturn, 13, [0], 0)]
theorem ok_X5_outermost : ∀ q ∈ L_X5_outermost, rok cX5_outermost 2 0 q = true := by decide +kernel
theorem fk_X5_outermost : ∀ q ∈ L_X5_outermost, fck FT_X5 PT_X5 KT_X5 q = true := by decide +kernel
noncomputable def cs_X5_outermost : List CT := [(false, 124, 1, 0, 5, m_X5_demandPlaces), (false, 153, 2, 2, 5, m_X5_outline)]
noncomputable def m_X5_outermost : MT := fun As S => brn xT cs_X5_outermost L_X5_outermost [] (dsp []) 9 [] 0 (zipN 0 As) [] S
theorem s_X5_outermost (M : xM p l e R s m args below meth c cells slots Q D xT g cI cZ A 2 cX5_outermost RX5 0 cs_X5_outermost L_X5_outermost R0) {As : List AV} {S : XS} (h : m_X5_outermost As S = some R0) : xG p l e R s m args below meth c cells slots Q D xT g cI cZ A 2 0 (zipN 0 As) [] S := xa_blk M (fun _ q => absurd q List.not_mem_nil) h
set_option maxRecDepth 20000 in
theorem cR_X5_outermost {l : Launch} {D : va_G} {g : Nat → Nat} {cI cZ : ClassId} {A : Nat → Prop} (hD : ∀ S, va_D A (ww xT g cI cZ S)) : xMetR l D xT g cI cZ A yX5_outermost (wm yX5_outermost cX5_outermost 2 0) { frames := 1, cells := 0, slots := 0, locals := 21 } 2 m_X5_outermost :=
  fun As S R0 hlen h hr => xa_met1 (ft := FT_X5) (pt := PT_X5) (kt := KT_X5) (cs := cs_X5_outermost) (L := L_X5_outermost) hD (by decide) (by decide) hlen ok_X5_outermost fk_X5_outermost fa_X5 (fun p e s m args below meth c Q C0 hts hN => all_get (List.forall_mem_cons.mpr ⟨xcf_R (C := RX5) C0 hts hN (cR_X5_demandPlaces hD) hr (good_V kl_X5_124 ki_X5_demandPlaces ks_X5_demandPlaces kn_X5 kc_X5_demandPlaces) rfl ⟨rfl, rfl⟩ rfl (by decide +kernel) ⟨by decide, by decide⟩ ⟨Nat.zero_le _, Nat.zero_le _⟩, List.forall_mem_cons.mpr ⟨xcf_V (C := RX5) C0 hts hN (c_X5_outline hD) (good_V kl_X5_153 ki_X5_outline ks_X5_outline kn_X5 kc_X5_outline) rfl ⟨rfl, rfl⟩ rfl (by decide +kernel) ⟨by decide, by decide⟩ ⟨Nat.zero_le _, Nat.zero_le _⟩, fun _ q => absurd q List.not_mem_nil⟩⟩)) (fun p e s m args below meth c Q M => s_X5_outermost M h)
set_option maxRecDepth 20000 in
theorem cT_X5_outermost {l : Launch} {D : va_G} {g : Nat → Nat} {cI cZ : ClassId} {A : Nat → Prop} (hD : ∀ S, va_D A (ww xT g cI cZ S)) (hl : l.stackTraces = false) : xMetT l D xT g cI cZ A yX5_outermost (wm yX5_outermost cX5_outermost 2 0) { frames := 7, cells := 1, slots := 6, locals := 120 } 2 m_X5_outermost :=
  fun As S R0 hlen h hr => xa_metT1 (ft := FT_X5) (pt := PT_X5) (kt := KT_X5) (cs := cs_X5_outermost) (L := L_X5_outermost) hD (by decide) (by decide) hlen hr ok_X5_outermost fk_X5_outermost fa_X5 (fun p e s m args below meth c C0 hts hN hout hlk => all_get (List.forall_mem_cons.mpr ⟨xcf_T (C := RX5) C0 hts hN (cR_X5_demandPlaces hD) (cT_X5_demandPlaces hD hl) hout hlk (good_V kl_X5_124 ki_X5_demandPlaces ks_X5_demandPlaces kn_X5 kc_X5_demandPlaces) rfl ⟨rfl, rfl⟩ ⟨rfl, rfl⟩ rfl (by decide +kernel) ⟨by decide, by decide⟩ ⟨by decide, by decide⟩ ⟨by decide, by decide⟩, List.forall_mem_cons.mpr ⟨xcf_V (C := RX5) C0 hts hN (c_X5_outline hD) (good_V kl_X5_153 ki_X5_outline ks_X5_outline kn_X5 kc_X5_outline) rfl ⟨rfl, rfl⟩ rfl (by decide +kernel) ⟨by decide, by decide⟩ ⟨Nat.zero_le _, Nat.zero_le _⟩, fun _ q => absurd q List.not_mem_nil⟩⟩)) (fun p e s m args below meth c hts hN hout hlk M => s_X5_outermost M h)
def L_X5_at : List CE := [(0, .aload_n 0, 1, [], 0), (1, .getfield 26, 4, [5, 2], 0), (4, .iload_n 1, 5, [], 0), (5, .invokevirtual 95, 8, [0], 0), (8, .ifCond .eq 13, 11, [21], 0), (11, .iload_n 2, 12, [], 0), (12, .iconst 0, 13, [], 0), (13, .bipush 6, 15, [], 6), (15, .invokestatic 55, 18, [1], 0), (18, .ifCond .ne 6, 21, [24], 0), (21, .ldc 59, 23, [], (-100001)), (23, .ireturn, 24, [0], 0), (24, .aload_n 0, 25, [], 0), (25, .invokevirtual 124, 28, [2], 0), (28, .iload_n 2, 29, [], 0), (29, .tableswitch 106 0 5 #[39, 49, 58, 68, 78, 88], 68, [135, 68, 78, 87, 97, 107, 117], 0), (68, .aload_n 0, 69, [], 0), (69, .getfield 26, 72, [5, 2], 0), (72, .getfield 127, 75, [2, 5], 0), (75, .iload_n 1, 76, [], 0), (76, .iaload, 77, [], 0), (77, .ireturn, 78, [0], 0), (78, .aload_n 0, 79, [], 0), (79, .getfield 26, 82, [5, 2], 0), (82, .iload_n 1, 83, [], 0), (83, .invokevirtual 130, 86, [3], 0), (86, .ireturn, 87, [0], 0), (87, .aload_n 0, 88, [], 0), (88, .getfield 26, 91, [5, 2], 0), (91, .getfield 134, 94, [2, 6], 0), (94, .iload_n 1, 95, [], 0), (95, .iaload, 96, [], 0), (96, .ireturn, 97, [0], 0), (97, .aload_n 0, 98, [], 0), (98, .getfield 26, 101, [5, 2], 0), (101, .getfield 137, 104, [2, 7], 0), (104, .iload_n 1, 105, [], 0), (105, .iaload, 106, [], 0), (106, .ireturn, 107, [0], 0), (107, .aload_n 0, 108, [], 0), (108, .getfield 26, 111, [5, 2], 0), (111, .getfield 140, 114, [2, 8], 0), (114, .iload_n 1, 115, [], 0), (115, .iaload, 116, [], 0), (116, .ireturn, 117, [0], 0), (117, .aload_n 0, 118, [], 0), (118, .getfield 26, 121, [5, 2], 0), (121, .getfield 143, 124, [2, 9], 0), (124, .iload_n 1, 125, [], 0), (125, .baload, 126, [], 0), (126, .ifCond .eq 7, 129, [133], 0), (129, .iconst 1, 130, [], 1), (130, .goto 4, 133, [134], 0), (133, .iconst 0, 134, [], 0), (134, .ireturn, 135, [0], 0), (135, .aload_n 0, 136, [], 0), (136, .getfield 26, 139, [5, 2], 0), (139, .getfield 146, 142, [2, 10], 0), (142, .iload_n 1, 143, [], 0), (143, .iaload, 144, [], 0), (144, .ireturn, 145, [0], 0)]
theorem ok_X5_at : ∀ q ∈ L_X5_at, rok cX5_at 3 0 q = true := by decide +kernel
theorem fk_X5_at : ∀ q ∈ L_X5_at, fck FT_X5 PT_X5 KT_X5 q = true := by decide +kernel
noncomputable def cs_X5_at : List CT := [(false, 95, 2, 1, 2, m_X2_has), (true, 55, 3, 1, 5, m_X5_isWithin), (false, 124, 1, 0, 5, m_X5_demandPlaces), (false, 130, 2, 1, 2, m_X2_behind)]
noncomputable def m_X5_at : MT := fun As S => brn xT cs_X5_at L_X5_at [] (dsp []) 63 [] 0 (zipN 0 As) [] S
theorem s_X5_at (M : xM p l e R s m args below meth c cells slots Q D xT g cI cZ A 3 cX5_at RX5 0 cs_X5_at L_X5_at R0) {As : List AV} {S : XS} (h : m_X5_at As S = some R0) : xG p l e R s m args below meth c cells slots Q D xT g cI cZ A 3 0 (zipN 0 As) [] S := xa_blk M (fun _ q => absurd q List.not_mem_nil) h
set_option maxRecDepth 20000 in
theorem cR_X5_at {l : Launch} {D : va_G} {g : Nat → Nat} {cI cZ : ClassId} {A : Nat → Prop} (hD : ∀ S, va_D A (ww xT g cI cZ S)) : xMetR l D xT g cI cZ A yX5_at (wm yX5_at cX5_at 3 0) { frames := 1, cells := 0, slots := 0, locals := 22 } 3 m_X5_at :=
  fun As S R0 hlen h hr => xa_met1 (ft := FT_X5) (pt := PT_X5) (kt := KT_X5) (cs := cs_X5_at) (L := L_X5_at) hD (by decide) (by decide) hlen ok_X5_at fk_X5_at fa_X5 (fun p e s m args below meth c Q C0 hts hN => all_get (List.forall_mem_cons.mpr ⟨xcf_VN (C := RX2) (host := "StackMarks") C0 hts hN (c_X2_has hD) (good_N kc_X2_has) (by decide +kernel) (List.mem_cons_of_mem _ kn_X2) (List.mem_cons_of_mem _ ki_X2_has) (List.mem_cons_of_mem _ ks_X2_has) rfl ⟨rfl, rfl⟩ rfl (by decide +kernel) ⟨by decide, by decide⟩ ⟨Nat.zero_le _, Nat.zero_le _⟩, List.forall_mem_cons.mpr ⟨xcf_S C0 hts hN (c_X5_isWithin hD) (good_S kl_X5_55 kt_X5_isWithin kn_X5 kc_X5_isWithin) rfl ⟨rfl, rfl⟩ (by decide +kernel) ⟨by decide, by decide⟩ ⟨Nat.zero_le _, Nat.zero_le _⟩, List.forall_mem_cons.mpr ⟨xcf_R (C := RX5) C0 hts hN (cR_X5_demandPlaces hD) hr (good_V kl_X5_124 ki_X5_demandPlaces ks_X5_demandPlaces kn_X5 kc_X5_demandPlaces) rfl ⟨rfl, rfl⟩ rfl (by decide +kernel) ⟨by decide, by decide⟩ ⟨Nat.zero_le _, Nat.zero_le _⟩, List.forall_mem_cons.mpr ⟨xcf_VN (C := RX2) (host := "StackMarks") C0 hts hN (c_X2_behind hD) (good_N kc_X2_behind) (by decide +kernel) (List.mem_cons_of_mem _ kn_X2) (List.mem_cons_of_mem _ ki_X2_behind) (List.mem_cons_of_mem _ ks_X2_behind) rfl ⟨rfl, rfl⟩ rfl (by decide +kernel) ⟨by decide, by decide⟩ ⟨Nat.zero_le _, Nat.zero_le _⟩, fun _ q => absurd q List.not_mem_nil⟩⟩⟩⟩)) (fun p e s m args below meth c Q M => s_X5_at M h)
set_option maxRecDepth 20000 in
theorem cT_X5_at {l : Launch} {D : va_G} {g : Nat → Nat} {cI cZ : ClassId} {A : Nat → Prop} (hD : ∀ S, va_D A (ww xT g cI cZ S)) (hl : l.stackTraces = false) : xMetT l D xT g cI cZ A yX5_at (wm yX5_at cX5_at 3 0) { frames := 7, cells := 1, slots := 6, locals := 120 } 3 m_X5_at :=
  fun As S R0 hlen h hr => xa_metT1 (ft := FT_X5) (pt := PT_X5) (kt := KT_X5) (cs := cs_X5_at) (L := L_X5_at) hD (by decide) (by decide) hlen hr ok_X5_at fk_X5_at fa_X5 (fun p e s m args below meth c C0 hts hN hout hlk => all_get (List.forall_mem_cons.mpr ⟨xcf_VN (C := RX2) (host := "StackMarks") C0 hts hN (c_X2_has hD) (good_N kc_X2_has) (by decide +kernel) (List.mem_cons_of_mem _ kn_X2) (List.mem_cons_of_mem _ ki_X2_has) (List.mem_cons_of_mem _ ks_X2_has) rfl ⟨rfl, rfl⟩ rfl (by decide +kernel) ⟨by decide, by decide⟩ ⟨Nat.zero_le _, Nat.zero_le _⟩, List.forall_mem_cons.mpr ⟨xcf_S C0 hts hN (c_X5_isWithin hD) (good_S kl_X5_55 kt_X5_isWithin kn_X5 kc_X5_isWithin) rfl ⟨rfl, rfl⟩ (by decide +kernel) ⟨by decide, by decide⟩ ⟨Nat.zero_le _, Nat.zero_le _⟩, List.forall_mem_cons.mpr ⟨xcf_T (C := RX5) C0 hts hN (cR_X5_demandPlaces hD) (cT_X5_demandPlaces hD hl) hout hlk (good_V kl_X5_124 ki_X5_demandPlaces ks_X5_demandPlaces kn_X5 kc_X5_demandPlaces) rfl ⟨rfl, rfl⟩ ⟨rfl, rfl⟩ rfl (by decide +kernel) ⟨by decide, by decide⟩ ⟨by decide, by decide⟩ ⟨by decide, by decide⟩, List.forall_mem_cons.mpr ⟨xcf_VN (C := RX2) (host := "StackMarks") C0 hts hN (c_X2_behind hD) (good_N kc_X2_behind) (by decide +kernel) (List.mem_cons_of_mem _ kn_X2) (List.mem_cons_of_mem _ ki_X2_behind) (List.mem_cons_of_mem _ ks_X2_behind) rfl ⟨rfl, rfl⟩ rfl (by decide +kernel) ⟨by decide, by decide⟩ ⟨Nat.zero_le _, Nat.zero_le _⟩, fun _ q => absurd q List.not_mem_nil⟩⟩⟩⟩)) (fun p e s m args below meth c hts hN hout hlk M => s_X5_at M h)
def L_X5_slurAt : List CE := [(0, .aload_n 0, 1, [], 0), (1, .getfield 33, 4, [5, 3], 0), (4, .iload_n 1, 5, [], 0), (5, .invokevirtual 149, 8, [0], 0), (8, .ifCond .eq 12, 11, [20], 0), (11, .iload_n 2, 12, [], 0), (12, .iconst 0, 13, [], 0), (13, .iconst 1, 14, [], 1), (14, .invokestatic 55, 17, [1], 0), (17, .ifCond .ne 6, 20, [23], 0), (20, .ldc 59, 22, [], (-100001)), (22, .ireturn, 23, [0], 0), (23, .aload_n 0, 24, [], 0), (24, .invokevirtual 124, 27, [2], 0), (27, .iload_n 2, 28, [], 0), (28, .ifCond .ne 15, 31, [43], 0), (31, .aload_n 0, 32, [], 0), (32, .getfield 33, 35, [5, 3], 0), (35, .getfield 150, 38, [4, 4], 0), (38, .iload_n 1, 39, [], 0), (39, .iaload, 40, [], 0), (40, .goto 12, 43, [52], 0), (43, .aload_n 0, 44, [], 0), (44, .getfield 33, 47, [5, 3], 0), (47, .getfield 151, 50, [4, 5], 0), (50, .iload_n 1, 51, [], 0), (51, .iaload, 52, [], 0), (52, .ireturn, 53, [0], 0)]
theorem ok_X5_slurAt : ∀ q ∈ L_X5_slurAt, rok cX5_slurAt 3 0 q = true := by decide +kernel
theorem fk_X5_slurAt : ∀ q ∈ L_X5_slurAt, fck FT_X5 PT_X5 KT_X5 q = true := by decide +kernel
noncomputable def cs_X5_slurAt : List CT := [(false, 149, 2, 1, 4, m_X4_has), (true, 55, 3, 1, 5, m_X5_isWithin), (false, 124, 1, 0, 5, m_X5_demandPlaces)]
noncomputable def m_X5_slurAt : MT := fun As S => brn xT cs_X5_slurAt L_X5_slurAt [] (dsp []) 30 [] 0 (zipN 0 As) [] S
theorem s_X5_slurAt (M : xM p l e R s m args below meth c cells slots Q D xT g cI cZ A 3 cX5_slurAt RX5 0 cs_X5_slurAt L_X5_slurAt R0) {As : List AV} {S : XS} (h : m_X5_slurAt As S = some R0) : xG p l e R s m args below meth c cells slots Q D xT g cI cZ A 3 0 (zipN 0 As) [] S := xa_blk M (fun _ q => absurd q List.not_mem_nil) h
set_option maxRecDepth 20000 in
theorem cR_X5_slurAt {l : Launch} {D : va_G} {g : Nat → Nat} {cI cZ : ClassId} {A : Nat → Prop} (hD : ∀ S, va_D A (ww xT g cI cZ S)) : xMetR l D xT g cI cZ A yX5_slurAt (wm yX5_slurAt cX5_slurAt 3 0) { frames := 1, cells := 0, slots := 0, locals := 22 } 3 m_X5_slurAt :=
  fun As S R0 hlen h hr => xa_met1 (ft := FT_X5) (pt := PT_X5) (kt := KT_X5) (cs := cs_X5_slurAt) (L := L_X5_slurAt) hD (by decide) (by decide) hlen ok_X5_slurAt fk_X5_slurAt fa_X5 (fun p e s m args below meth c Q C0 hts hN => all_get (List.forall_mem_cons.mpr ⟨xcf_VN (C := RX4) (host := "StackMarks") C0 hts hN (c_X4_has hD) (good_N kc_X4_has) (by decide +kernel) (List.mem_cons_of_mem _ kn_X4) (List.mem_cons_of_mem _ ki_X4_has) (List.mem_cons_of_mem _ ks_X4_has) rfl ⟨rfl, rfl⟩ rfl (by decide +kernel) ⟨by decide, by decide⟩ ⟨Nat.zero_le _, Nat.zero_le _⟩, List.forall_mem_cons.mpr ⟨xcf_S C0 hts hN (c_X5_isWithin hD) (good_S kl_X5_55 kt_X5_isWithin kn_X5 kc_X5_isWithin) rfl ⟨rfl, rfl⟩ (by decide +kernel) ⟨by decide, by decide⟩ ⟨Nat.zero_le _, Nat.zero_le _⟩, List.forall_mem_cons.mpr ⟨xcf_R (C := RX5) C0 hts hN (cR_X5_demandPlaces hD) hr (good_V kl_X5_124 ki_X5_demandPlaces ks_X5_demandPlaces kn_X5 kc_X5_demandPlaces) rfl ⟨rfl, rfl⟩ rfl (by decide +kernel) ⟨by decide, by decide⟩ ⟨Nat.zero_le _, Nat.zero_le _⟩, fun _ q => absurd q List.not_mem_nil⟩⟩⟩)) (fun p e s m args below meth c Q M => s_X5_slurAt M h)
set_option maxRecDepth 20000 in
theorem cT_X5_slurAt {l : Launch} {D : va_G} {g : Nat → Nat} {cI cZ : ClassId} {A : Nat → Prop} (hD : ∀ S, va_D A (ww xT g cI cZ S)) (hl : l.stackTraces = false) : xMetT l D xT g cI cZ A yX5_slurAt (wm yX5_slurAt cX5_slurAt 3 0) { frames := 7, cells := 1, slots := 6, locals := 120 } 3 m_X5_slurAt :=
  fun As S R0 hlen h hr => xa_metT1 (ft := FT_X5) (pt := PT_X5) (kt := KT_X5) (cs := cs_X5_slurAt) (L := L_X5_slurAt) hD (by decide) (by decide) hlen hr ok_X5_slurAt fk_X5_slurAt fa_X5 (fun p e s m args below meth c C0 hts hN hout hlk => all_get (List.forall_mem_cons.mpr ⟨xcf_VN (C := RX4) (host := "StackMarks") C0 hts hN (c_X4_has hD) (good_N kc_X4_has) (by decide +kernel) (List.mem_cons_of_mem _ kn_X4) (List.mem_cons_of_mem _ ki_X4_has) (List.mem_cons_of_mem _ ks_X4_has) rfl ⟨rfl, rfl⟩ rfl (by decide +kernel) ⟨by decide, by decide⟩ ⟨Nat.zero_le _, Nat.zero_le _⟩, List.forall_mem_cons.mpr ⟨xcf_S C0 hts hN (c_X5_isWithin hD) (good_S kl_X5_55 kt_X5_isWithin kn_X5 kc_X5_isWithin) rfl ⟨rfl, rfl⟩ (by decide +kernel) ⟨by decide, by decide⟩ ⟨Nat.zero_le _, Nat.zero_le _⟩, List.forall_mem_cons.mpr ⟨xcf_T (C := RX5) C0 hts hN (cR_X5_demandPlaces hD) (cT_X5_demandPlaces hD hl) hout hlk (good_V kl_X5_124 ki_X5_demandPlaces ks_X5_demandPlaces kn_X5 kc_X5_demandPlaces) rfl ⟨rfl, rfl⟩ ⟨rfl, rfl⟩ rfl (by decide +kernel) ⟨by decide, by decide⟩ ⟨by decide, by decide⟩ ⟨by decide, by decide⟩, fun _ q => absurd q List.not_mem_nil⟩⟩⟩)) (fun p e s m args below meth c hts hN hout hlk M => s_X5_slurAt M h)
def L_X5_skyline : List CE := [(0, .iload_n 1, 1, [], 0), (1, .iconst 0, 2, [], 0), (2, .ldc 152, 4, [], 101000), (4, .invokestatic 55, 7, [0], 0), (7, .ifCond .eq 10, 10, [17], 0), (10, .iload_n 2, 11, [], 0), (11, .invokestatic 103, 14, [1], 0), (14, .ifCond .ne 6, 17, [20], 0), (17, .ldc 59, 19, [], (-100001)), (19, .ireturn, 20, [0], 0), (20, .aload_n 0, 21, [], 0), (21, .invokevirtual 124, 24, [2], 0), (24, .aload_n 0, 25, [], 0), (25, .iload_n 2, 26, [], 0), (26, .invokevirtual 153, 29, [3], 0), (29, .iload_n 1, 30, [], 0), (30, .iload_n 1, 31, [], 0), (31, .invokevirtual 157, 34, [4], 0), (34, .ireturn, 35, [0], 0)]
theorem ok_X5_skyline : ∀ q ∈ L_X5_skyline, rok cX5_skyline 3 0 q = true := by decide +kernel
theorem fk_X5_skyline : ∀ q ∈ L_X5_skyline, fck FT_X5 PT_X5 KT_X5 q = true := by decide +kernel
noncomputable def cs_X5_skyline : List CT := [(true, 55, 3, 1, 5, m_X5_isWithin), (true, 103, 1, 1, 5, m_X5_isSide), (false, 124, 1, 0, 5, m_X5_demandPlaces), (false, 153, 2, 2, 5, m_X5_outline), (false, 157, 3, 1, 3, m_X3_greatest)]
noncomputable def m_X5_skyline : MT := fun As S => brn xT cs_X5_skyline L_X5_skyline [] (dsp []) 21 [] 0 (zipN 0 As) [] S
theorem s_X5_skyline (M : xM p l e R s m args below meth c cells slots Q D xT g cI cZ A 3 cX5_skyline RX5 0 cs_X5_skyline L_X5_skyline R0) {As : List AV} {S : XS} (h : m_X5_skyline As S = some R0) : xG p l e R s m args below meth c cells slots Q D xT g cI cZ A 3 0 (zipN 0 As) [] S := xa_blk M (fun _ q => absurd q List.not_mem_nil) h
set_option maxRecDepth 20000 in
theorem cR_X5_skyline {l : Launch} {D : va_G} {g : Nat → Nat} {cI cZ : ClassId} {A : Nat → Prop} (hD : ∀ S, va_D A (ww xT g cI cZ S)) : xMetR l D xT g cI cZ A yX5_skyline (wm yX5_skyline cX5_skyline 3 0) { frames := 2, cells := 0, slots := 0, locals := 45 } 3 m_X5_skyline :=
  fun As S R0 hlen h hr => xa_met1 (ft := FT_X5) (pt := PT_X5) (kt := KT_X5) (cs := cs_X5_skyline) (L := L_X5_skyline) hD (by decide) (by decide) hlen ok_X5_skyline fk_X5_skyline fa_X5 (fun p e s m args below meth c Q C0 hts hN => all_get (List.forall_mem_cons.mpr ⟨xcf_S C0 hts hN (c_X5_isWithin hD) (good_S kl_X5_55 kt_X5_isWithin kn_X5 kc_X5_isWithin) rfl ⟨rfl, rfl⟩ (by decide +kernel) ⟨by decide, by decide⟩ ⟨Nat.zero_le _, Nat.zero_le _⟩, List.forall_mem_cons.mpr ⟨xcf_S C0 hts hN (c_X5_isSide hD) (good_S kl_X5_103 kt_X5_isSide kn_X5 kc_X5_isSide) rfl ⟨rfl, rfl⟩ (by decide +kernel) ⟨by decide, by decide⟩ ⟨Nat.zero_le _, Nat.zero_le _⟩, List.forall_mem_cons.mpr ⟨xcf_R (C := RX5) C0 hts hN (cR_X5_demandPlaces hD) hr (good_V kl_X5_124 ki_X5_demandPlaces ks_X5_demandPlaces kn_X5 kc_X5_demandPlaces) rfl ⟨rfl, rfl⟩ rfl (by decide +kernel) ⟨by decide, by decide⟩ ⟨Nat.zero_le _, Nat.zero_le _⟩, List.forall_mem_cons.mpr ⟨xcf_V (C := RX5) C0 hts hN (c_X5_outline hD) (good_V kl_X5_153 ki_X5_outline ks_X5_outline kn_X5 kc_X5_outline) rfl ⟨rfl, rfl⟩ rfl (by decide +kernel) ⟨by decide, by decide⟩ ⟨Nat.zero_le _, Nat.zero_le _⟩, List.forall_mem_cons.mpr ⟨xcf_VN (C := RX3) (host := "StackMarks") C0 hts hN (c_X3_greatest hD) (good_N kc_X3_greatest) (by decide +kernel) (List.mem_cons_of_mem _ kn_X3) (List.mem_cons_of_mem _ ki_X3_greatest) (List.mem_cons_of_mem _ ks_X3_greatest) rfl ⟨rfl, rfl⟩ rfl (by decide +kernel) ⟨by decide, by decide⟩ ⟨Nat.zero_le _, Nat.zero_le _⟩, fun _ q => absurd q List.not_mem_nil⟩⟩⟩⟩⟩)) (fun p e s m args below meth c Q M => s_X5_skyline M h)
set_option maxRecDepth 20000 in
theorem cT_X5_skyline {l : Launch} {D : va_G} {g : Nat → Nat} {cI cZ : ClassId} {A : Nat → Prop} (hD : ∀ S, va_D A (ww xT g cI cZ S)) (hl : l.stackTraces = false) : xMetT l D xT g cI cZ A yX5_skyline (wm yX5_skyline cX5_skyline 3 0) { frames := 7, cells := 1, slots := 6, locals := 120 } 3 m_X5_skyline :=
  fun As S R0 hlen h hr => xa_metT1 (ft := FT_X5) (pt := PT_X5) (kt := KT_X5) (cs := cs_X5_skyline) (L := L_X5_skyline) hD (by decide) (by decide) hlen hr ok_X5_skyline fk_X5_skyline fa_X5 (fun p e s m args below meth c C0 hts hN hout hlk => all_get (List.forall_mem_cons.mpr ⟨xcf_S C0 hts hN (c_X5_isWithin hD) (good_S kl_X5_55 kt_X5_isWithin kn_X5 kc_X5_isWithin) rfl ⟨rfl, rfl⟩ (by decide +kernel) ⟨by decide, by decide⟩ ⟨Nat.zero_le _, Nat.zero_le _⟩, List.forall_mem_cons.mpr ⟨xcf_S C0 hts hN (c_X5_isSide hD) (good_S kl_X5_103 kt_X5_isSide kn_X5 kc_X5_isSide) rfl ⟨rfl, rfl⟩ (by decide +kernel) ⟨by decide, by decide⟩ ⟨Nat.zero_le _, Nat.zero_le _⟩, List.forall_mem_cons.mpr ⟨xcf_T (C := RX5) C0 hts hN (cR_X5_demandPlaces hD) (cT_X5_demandPlaces hD hl) hout hlk (good_V kl_X5_124 ki_X5_demandPlaces ks_X5_demandPlaces kn_X5 kc_X5_demandPlaces) rfl ⟨rfl, rfl⟩ ⟨rfl, rfl⟩ rfl (by decide +kernel) ⟨by decide, by decide⟩ ⟨by decide, by decide⟩ ⟨by decide, by decide⟩, List.forall_mem_cons.mpr ⟨xcf_V (C := RX5) C0 hts hN (c_X5_outline hD) (good_V kl_X5_153 ki_X5_outline ks_X5_outline kn_X5 kc_X5_outline) rfl ⟨rfl, rfl⟩ rfl (by decide +kernel) ⟨by decide, by decide⟩ ⟨Nat.zero_le _, Nat.zero_le _⟩, List.forall_mem_cons.mpr ⟨xcf_VN (C := RX3) (host := "StackMarks") C0 hts hN (c_X3_greatest hD) (good_N kc_X3_greatest) (by decide +kernel) (List.mem_cons_of_mem _ kn_X3) (List.mem_cons_of_mem _ ki_X3_greatest) (List.mem_cons_of_mem _ ks_X3_greatest) rfl ⟨rfl, rfl⟩ rfl (by decide +kernel) ⟨by decide, by decide⟩ ⟨Nat.zero_le _, Nat.zero_le _⟩, fun _ q => absurd q List.not_mem_nil⟩⟩⟩⟩⟩)) (fun p e s m args below meth c hts hN hout hlk M => s_X5_skyline M h)
def L_X5_row : List CE := [(0, .aload_n 0, 1, [], 0), (1, .getfield 19, 4, [5, 1], 0), (4, .iload_n 1, 5, [], 0), (5, .invokevirtual 77, 8, [0], 0), (8, .ifCond .eq 10, 11, [18], 0), (11, .iload_n 2, 12, [], 0), (12, .invokestatic 103, 15, [1], 0), (15, .ifCond .ne 6, 18, [21], 0), (18, .ldc 59, 20, [], (-100001)), (20, .ireturn, 21, [0], 0), (21, .aload_n 0, 22, [], 0), (22, .invokevirtual 124, 25, [2], 0), (25, .aload_n 0, 26, [], 0), (26, .iload_n 2, 27, [], 0), (27, .invokevirtual 153, 30, [3], 0), (30, .getfield 161, 33, [3, 3], 0), (33, .iload_n 1, 34, [], 0), (34, .iaload, 35, [], 0), (35, .ireturn, 36, [0], 0)]
theorem ok_X5_row : ∀ q ∈ L_X5_row, rok cX5_row 3 0 q = true := by decide +kernel
theorem fk_X5_row : ∀ q ∈ L_X5_row, fck FT_X5 PT_X5 KT_X5 q = true := by decide +kernel
noncomputable def cs_X5_row : List CT := [(false, 77, 2, 1, 1, m_X1_has), (true, 103, 1, 1, 5, m_X5_isSide), (false, 124, 1, 0, 5, m_X5_demandPlaces), (false, 153, 2, 2, 5, m_X5_outline)]
noncomputable def m_X5_row : MT := fun As S => brn xT cs_X5_row L_X5_row [] (dsp []) 21 [] 0 (zipN 0 As) [] S
theorem s_X5_row (M : xM p l e R s m args below meth c cells slots Q D xT g cI cZ A 3 cX5_row RX5 0 cs_X5_row L_X5_row R0) {As : List AV} {S : XS} (h : m_X5_row As S = some R0) : xG p l e R s m args below meth c cells slots Q D xT g cI cZ A 3 0 (zipN 0 As) [] S := xa_blk M (fun _ q => absurd q List.not_mem_nil) h
set_option maxRecDepth 20000 in
theorem cR_X5_row {l : Launch} {D : va_G} {g : Nat → Nat} {cI cZ : ClassId} {A : Nat → Prop} (hD : ∀ S, va_D A (ww xT g cI cZ S)) : xMetR l D xT g cI cZ A yX5_row (wm yX5_row cX5_row 3 0) { frames := 1, cells := 0, slots := 0, locals := 21 } 3 m_X5_row :=
  fun As S R0 hlen h hr => xa_met1 (ft := FT_X5) (pt := PT_X5) (kt := KT_X5) (cs := cs_X5_row) (L := L_X5_row) hD (by decide) (by decide) hlen ok_X5_row fk_X5_row fa_X5 (fun p e s m args below meth c Q C0 hts hN => all_get (List.forall_mem_cons.mpr ⟨xcf_VN (C := RX1) (host := "StackMarks") C0 hts hN (c_X1_has hD) (good_N kc_X1_has) (by decide +kernel) (List.mem_cons_of_mem _ kn_X1) (List.mem_cons_of_mem _ ki_X1_has) (List.mem_cons_of_mem _ ks_X1_has) rfl ⟨rfl, rfl⟩ rfl (by decide +kernel) ⟨by decide, by decide⟩ ⟨Nat.zero_le _, Nat.zero_le _⟩, List.forall_mem_cons.mpr ⟨xcf_S C0 hts hN (c_X5_isSide hD) (good_S kl_X5_103 kt_X5_isSide kn_X5 kc_X5_isSide) rfl ⟨rfl, rfl⟩ (by decide +kernel) ⟨by decide, by decide⟩ ⟨Nat.zero_le _, Nat.zero_le _⟩, List.forall_mem_cons.mpr ⟨xcf_R (C := RX5) C0 hts hN (cR_X5_demandPlaces hD) hr (good_V kl_X5_124 ki_X5_demandPlaces ks_X5_demandPlaces kn_X5 kc_X5_demandPlaces) rfl ⟨rfl, rfl⟩ rfl (by decide +kernel) ⟨by decide, by decide⟩ ⟨Nat.zero_le _, Nat.zero_le _⟩, List.forall_mem_cons.mpr ⟨xcf_V (C := RX5) C0 hts hN (c_X5_outline hD) (good_V kl_X5_153 ki_X5_outline ks_X5_outline kn_X5 kc_X5_outline) rfl ⟨rfl, rfl⟩ rfl (by decide +kernel) ⟨by decide, by decide⟩ ⟨Nat.zero_le _, Nat.zero_le _⟩, fun _ q => absurd q List.not_mem_nil⟩⟩⟩⟩)) (fun p e s m args below meth c Q M => s_X5_row M h)
set_option maxRecDepth 20000 in
theorem cT_X5_row {l : Launch} {D : va_G} {g : Nat → Nat} {cI cZ : ClassId} {A : Nat → Prop} (hD : ∀ S, va_D A (ww xT g cI cZ S)) (hl : l.stackTraces = false) : xMetT l D xT g cI cZ A yX5_row (wm yX5_row cX5_row 3 0) { frames := 7, cells := 1, slots := 6, locals := 120 } 3 m_X5_row :=
  fun As S R0 hlen h hr => xa_metT1 (ft := FT_X5) (pt := PT_X5) (kt := KT_X5) (cs := cs_X5_row) (L := L_X5_row) hD (by decide) (by decide) hlen hr ok_X5_row fk_X5_row fa_X5 (fun p e s m args below meth c C0 hts hN hout hlk => all_get (List.forall_mem_cons.mpr ⟨xcf_VN (C := RX1) (host := "StackMarks") C0 hts hN (c_X1_has hD) (good_N kc_X1_has) (by decide +kernel) (List.mem_cons_of_mem _ kn_X1) (List.mem_cons_of_mem _ ki_X1_has) (List.mem_cons_of_mem _ ks_X1_has) rfl ⟨rfl, rfl⟩ rfl (by decide +kernel) ⟨by decide, by decide⟩ ⟨Nat.zero_le _, Nat.zero_le _⟩, List.forall_mem_cons.mpr ⟨xcf_S C0 hts hN (c_X5_isSide hD) (good_S kl_X5_103 kt_X5_isSide kn_X5 kc_X5_isSide) rfl ⟨rfl, rfl⟩ (by decide +kernel) ⟨by decide, by decide⟩ ⟨Nat.zero_le _, Nat.zero_le _⟩, List.forall_mem_cons.mpr ⟨xcf_T (C := RX5) C0 hts hN (cR_X5_demandPlaces hD) (cT_X5_demandPlaces hD hl) hout hlk (good_V kl_X5_124 ki_X5_demandPlaces ks_X5_demandPlaces kn_X5 kc_X5_demandPlaces) rfl ⟨rfl, rfl⟩ ⟨rfl, rfl⟩ rfl (by decide +kernel) ⟨by decide, by decide⟩ ⟨by decide, by decide⟩ ⟨by decide, by decide⟩, List.forall_mem_cons.mpr ⟨xcf_V (C := RX5) C0 hts hN (c_X5_outline hD) (good_V kl_X5_153 ki_X5_outline ks_X5_outline kn_X5 kc_X5_outline) rfl ⟨rfl, rfl⟩ rfl (by decide +kernel) ⟨by decide, by decide⟩ ⟨Nat.zero_le _, Nat.zero_le _⟩, fun _ q => absurd q List.not_mem_nil⟩⟩⟩⟩)) (fun p e s m args below meth c hts hN hout hlk M => s_X5_row M h)
def L_X5_order : List CE := [(0, .aload_n 0, 1, [], 0), (1, .getfield 10, 4, [5, 0], 0), (4, .iload_n 1, 5, [], 0), (5, .invokevirtual 64, 8, [0], 0), (8, .ifCond .eq 10, 11, [18], 0), (11, .iload_n 2, 12, [], 0), (12, .invokestatic 103, 15, [1], 0), (15, .ifCond .ne 6, 18, [21], 0), (18, .ldc 59, 20, [], (-100001)), (20, .ireturn, 21, [0], 0), (21, .aload_n 0, 22, [], 0), (22, .invokevirtual 124, 25, [2], 0), (25, .iconst 0, 26, [], 0), (26, .istore 4, 28, [], 0), (28, .iload 4, 30, [], 0), (30, .aload_n 0, 31, [], 0), (31, .getfield 26, 34, [5, 2], 0), (34, .getfield 86, 37, [2, 11], 0), (37, .if_icmp .ge 39, 40, [76], 0), (40, .aload_n 0, 41, [], 0), (41, .getfield 26, 44, [5, 2], 0), (44, .iload 4, 46, [], 0), (46, .iload_n 1, 47, [], 0), (47, .iload_n 2, 48, [], 0), (48, .invokevirtual 164, 51, [3], 0), (51, .ifCond .eq 19, 54, [70], 0), (54, .aload_n 0, 55, [], 0), (55, .getfield 26, 58, [5, 2], 0), (58, .iload 4, 60, [], 0), (60, .invokevirtual 167, 63, [4], 0), (63, .iload_n 3, 64, [], 0), (64, .if_icmp .ne 6, 67, [70], 0), (67, .iload 4, 69, [], 0), (69, .ireturn, 70, [0], 0), (70, .iinc 4 1, 73, [], 1), (73, .goto (-45), 76, [28], 0), (76, .ldc 170, 78, [], (-100003)), (78, .ireturn, 79, [0], 0)]
theorem ok_X5_order : ∀ q ∈ L_X5_order, rok cX5_order 5 0 q = true := by decide +kernel
theorem fk_X5_order : ∀ q ∈ L_X5_order, fck FT_X5 PT_X5 KT_X5 q = true := by decide +kernel
noncomputable def cs_X5_order : List CT := [(false, 64, 2, 1, 0, m_X0_has), (true, 103, 1, 1, 5, m_X5_isSide), (false, 124, 1, 0, 5, m_X5_demandPlaces), (false, 164, 4, 1, 2, m_X2_isOn), (false, 167, 2, 1, 2, m_X2_countNearer)]
noncomputable def b_X5_order_28 : Nat → BT
  | 0 => fun _ _ _ => none
  | n + 1 => fun lv st S => brn xT cs_X5_order L_X5_order [28] (dsp [(28, [0, 1, 2, 3, 4], b_X5_order_28 n)]) 40 [] 28 lv st S
theorem s_X5_order_28 (M : xM p l e R s m args below meth c cells slots Q D xT g cI cZ A 5 cX5_order RX5 0 cs_X5_order L_X5_order R0) : ∀ n lv st S, b_X5_order_28 n lv st S = some R0 → xG p l e R s m args below meth c cells slots Q D xT g cI cZ A 5 28 lv st S := by
  intro n
  induction n with
  | zero => intro lv st S h; cases h
  | succ n ih => intro lv st S h; exact xa_blk M (List.forall_mem_cons.mpr ⟨fun lv st S h => (ih) lv st S h, fun _ q => absurd q List.not_mem_nil⟩) h
noncomputable def m_X5_order : MT := fun As S => brn xT cs_X5_order L_X5_order [28] (dsp [(28, [0, 1, 2, 3, 4], b_X5_order_28 fu)]) 40 [] 0 (zipN 0 As) [] S
theorem s_X5_order (M : xM p l e R s m args below meth c cells slots Q D xT g cI cZ A 5 cX5_order RX5 0 cs_X5_order L_X5_order R0) {As : List AV} {S : XS} (h : m_X5_order As S = some R0) : xG p l e R s m args below meth c cells slots Q D xT g cI cZ A 5 0 (zipN 0 As) [] S := xa_blk M (List.forall_mem_cons.mpr ⟨fun lv st S h => (s_X5_order_28 M fu) lv st S h, fun _ q => absurd q List.not_mem_nil⟩) h
set_option maxRecDepth 20000 in
theorem cR_X5_order {l : Launch} {D : va_G} {g : Nat → Nat} {cI cZ : ClassId} {A : Nat → Prop} (hD : ∀ S, va_D A (ww xT g cI cZ S)) : xMetR l D xT g cI cZ A yX5_order (wm yX5_order cX5_order 5 0) { frames := 2, cells := 0, slots := 0, locals := 47 } 4 m_X5_order :=
  fun As S R0 hlen h hr => xa_met1 (ft := FT_X5) (pt := PT_X5) (kt := KT_X5) (cs := cs_X5_order) (L := L_X5_order) hD (by decide) (by decide) hlen ok_X5_order fk_X5_order fa_X5 (fun p e s m args below meth c Q C0 hts hN => all_get (List.forall_mem_cons.mpr ⟨xcf_VN (C := RX0) (host := "StackMarks") C0 hts hN (c_X0_has hD) (good_N kc_X0_has) (by decide +kernel) (List.mem_cons_of_mem _ kn_X0) (List.mem_cons_of_mem _ ki_X0_has) (List.mem_cons_of_mem _ ks_X0_has) rfl ⟨rfl, rfl⟩ rfl (by decide +kernel) ⟨by decide, by decide⟩ ⟨Nat.zero_le _, Nat.zero_le _⟩, List.forall_mem_cons.mpr ⟨xcf_S C0 hts hN (c_X5_isSide hD) (good_S kl_X5_103 kt_X5_isSide kn_X5 kc_X5_isSide) rfl ⟨rfl, rfl⟩ (by decide +kernel) ⟨by decide, by decide⟩ ⟨Nat.zero_le _, Nat.zero_le _⟩, List.forall_mem_cons.mpr ⟨xcf_R (C := RX5) C0 hts hN (cR_X5_demandPlaces hD) hr (good_V kl_X5_124 ki_X5_demandPlaces ks_X5_demandPlaces kn_X5 kc_X5_demandPlaces) rfl ⟨rfl, rfl⟩ rfl (by decide +kernel) ⟨by decide, by decide⟩ ⟨Nat.zero_le _, Nat.zero_le _⟩, List.forall_mem_cons.mpr ⟨xcf_VN (C := RX2) (host := "StackMarks") C0 hts hN (c_X2_isOn hD) (good_N kc_X2_isOn) (by decide +kernel) (List.mem_cons_of_mem _ kn_X2) (List.mem_cons_of_mem _ ki_X2_isOn) (List.mem_cons_of_mem _ ks_X2_isOn) rfl ⟨rfl, rfl⟩ rfl (by decide +kernel) ⟨by decide, by decide⟩ ⟨Nat.zero_le _, Nat.zero_le _⟩, List.forall_mem_cons.mpr ⟨xcf_VN (C := RX2) (host := "StackMarks") C0 hts hN (c_X2_countNearer hD) (good_N kc_X2_countNearer) (by decide +kernel) (List.mem_cons_of_mem _ kn_X2) (List.mem_cons_of_mem _ ki_X2_countNearer) (List.mem_cons_of_mem _ ks_X2_countNearer) rfl ⟨rfl, rfl⟩ rfl (by decide +kernel) ⟨by decide, by decide⟩ ⟨Nat.zero_le _, Nat.zero_le _⟩, fun _ q => absurd q List.not_mem_nil⟩⟩⟩⟩⟩)) (fun p e s m args below meth c Q M => s_X5_order M h)
set_option maxRecDepth 20000 in
theorem cT_X5_order {l : Launch} {D : va_G} {g : Nat → Nat} {cI cZ : ClassId} {A : Nat → Prop} (hD : ∀ S, va_D A (ww xT g cI cZ S)) (hl : l.stackTraces = false) : xMetT l D xT g cI cZ A yX5_order (wm yX5_order cX5_order 5 0) { frames := 7, cells := 1, slots := 6, locals := 120 } 4 m_X5_order :=
  fun As S R0 hlen h hr => xa_metT1 (ft := FT_X5) (pt := PT_X5) (kt := KT_X5) (cs := cs_X5_order) (L := L_X5_order) hD (by decide) (by decide) hlen hr ok_X5_order fk_X5_order fa_X5 (fun p e s m args below meth c C0 hts hN hout hlk => all_get (List.forall_mem_cons.mpr ⟨xcf_VN (C := RX0) (host := "StackMarks") C0 hts hN (c_X0_has hD) (good_N kc_X0_has) (by decide +kernel) (List.mem_cons_of_mem _ kn_X0) (List.mem_cons_of_mem _ ki_X0_has) (List.mem_cons_of_mem _ ks_X0_has) rfl ⟨rfl, rfl⟩ rfl (by decide +kernel) ⟨by decide, by decide⟩ ⟨Nat.zero_le _, Nat.zero_le _⟩, List.forall_mem_cons.mpr ⟨xcf_S C0 hts hN (c_X5_isSide hD) (good_S kl_X5_103 kt_X5_isSide kn_X5 kc_X5_isSide) rfl ⟨rfl, rfl⟩ (by decide +kernel) ⟨by decide, by decide⟩ ⟨Nat.zero_le _, Nat.zero_le _⟩, List.forall_mem_cons.mpr ⟨xcf_T (C := RX5) C0 hts hN (cR_X5_demandPlaces hD) (cT_X5_demandPlaces hD hl) hout hlk (good_V kl_X5_124 ki_X5_demandPlaces ks_X5_demandPlaces kn_X5 kc_X5_demandPlaces) rfl ⟨rfl, rfl⟩ ⟨rfl, rfl⟩ rfl (by decide +kernel) ⟨by decide, by decide⟩ ⟨by decide, by decide⟩ ⟨by decide, by decide⟩, List.forall_mem_cons.mpr ⟨xcf_VN (C := RX2) (host := "StackMarks") C0 hts hN (c_X2_isOn hD) (good_N kc_X2_isOn) (by decide +kernel) (List.mem_cons_of_mem _ kn_X2) (List.mem_cons_of_mem _ ki_X2_isOn) (List.mem_cons_of_mem _ ks_X2_isOn) rfl ⟨rfl, rfl⟩ rfl (by decide +kernel) ⟨by decide, by decide⟩ ⟨Nat.zero_le _, Nat.zero_le _⟩, List.forall_mem_cons.mpr ⟨xcf_VN (C := RX2) (host := "StackMarks") C0 hts hN (c_X2_countNearer hD) (good_N kc_X2_countNearer) (by decide +kernel) (List.mem_cons_of_mem _ kn_X2) (List.mem_cons_of_mem _ ki_X2_countNearer) (List.mem_cons_of_mem _ ks_X2_countNearer) rfl ⟨rfl, rfl⟩ rfl (by decide +kernel) ⟨by decide, by decide⟩ ⟨Nat.zero_le _, Nat.zero_le _⟩, fun _ q => absurd q List.not_mem_nil⟩⟩⟩⟩⟩)) (fun p e s m args below meth c hts hN hout hlk M => s_X5_order M h)
def L_X5_meets : List CE := [(0, .aload_n 0, 1, [], 0), (1, .getfield 26, 4, [5, 2], 0), (4, .iload_n 1, 5, [], 0), (5, .invokevirtual 95, 8, [0], 0), (8, .ifCond .eq 19, 11, [27], 0), (11, .aload_n 0, 12, [], 0), (12, .getfield 26, 15, [5, 2], 0), (15, .iload_n 2, 16, [], 0), (16, .invokevirtual 95, 19, [0], 0), (19, .ifCond .eq 8, 22, [27], 0), (22, .iload_n 1, 23, [], 0), (23, .iload_n 2, 24, [], 0), (24, .if_icmp .ne 6, 27, [30], 0), (27, .ldc 59, 29, [], (-100001)), (29, .ireturn, 30, [0], 0), (30, .aload_n 0, 31, [], 0), (31, .invokevirtual 124, 34, [1], 0), (34, .aload_n 0, 35, [], 0), (35, .getfield 26, 38, [5, 2], 0), (38, .getfield 137, 41, [2, 7], 0), (41, .iload_n 1, 42, [], 0), (42, .iaload, 43, [], 0), (43, .aload_n 0, 44, [], 0), (44, .getfield 26, 47, [5, 2], 0), (47, .getfield 140, 50, [2, 8], 0), (50, .iload_n 2, 51, [], 0), (51, .iaload, 52, [], 0), (52, .if_icmp .ge 28, 55, [80], 0), (55, .aload_n 0, 56, [], 0), (56, .getfield 26, 59, [5, 2], 0), (59, .getfield 137, 62, [2, 7], 0), (62, .iload_n 2, 63, [], 0), (63, .iaload, 64, [], 0), (64, .aload_n 0, 65, [], 0), (65, .getfield 26, 68, [5, 2], 0), (68, .getfield 140, 71, [2, 8], 0), (71, .iload_n 1, 72, [], 0), (72, .iaload, 73, [], 0), (73, .if_icmp .ge 7, 76, [80], 0), (76, .iconst 1, 77, [], 1), (77, .goto 4, 80, [81], 0), (80, .iconst 0, 81, [], 0), (81, .istore_n 3, 82, [], 0), (82, .aload_n 0, 83, [], 0), (83, .getfield 26, 86, [5, 2], 0), (86, .getfield 134, 89, [2, 6], 0), (89, .iload_n 1, 90, [], 0), (90, .iaload, 91, [], 0), (91, .aload_n 0, 92, [], 0), (92, .getfield 26, 95, [5, 2], 0), (95, .getfield 134, 98, [2, 6], 0), (98, .iload_n 2, 99, [], 0), (99, .iaload, 100, [], 0), (100, .if_icmp .ne 23, 103, [123], 0), (103, .aload_n 0, 104, [], 0), (104, .getfield 26, 107, [5, 2], 0), (107, .iload_n 1, 108, [], 0), (108, .iload_n 2, 109, [], 0), (109, .invokevirtual 171, 112, [2], 0), (112, .ifCond .eq 11, 115, [123], 0), (115, .iload_n 3, 116, [], 0), (116, .ifCond .eq 7, 119, [123], 0), (119, .iconst 1, 120, [], 1), (120, .goto 4, 123, [124], 0), (123, .iconst 0, 124, [], 0), (124, .ireturn, 125, [0], 0)]
theorem ok_X5_meets : ∀ q ∈ L_X5_meets, rok cX5_meets 4 0 q = true := by decide +kernel
theorem fk_X5_meets : ∀ q ∈ L_X5_meets, fck FT_X5 PT_X5 KT_X5 q = true := by decide +kernel
noncomputable def cs_X5_meets : List CT := [(false, 95, 2, 1, 2, m_X2_has), (false, 124, 1, 0, 5, m_X5_demandPlaces), (false, 171, 3, 1, 2, m_X2_shareX)]
noncomputable def m_X5_meets : MT := fun As S => brn xT cs_X5_meets L_X5_meets [] (dsp []) 68 [] 0 (zipN 0 As) [] S
theorem s_X5_meets (M : xM p l e R s m args below meth c cells slots Q D xT g cI cZ A 4 cX5_meets RX5 0 cs_X5_meets L_X5_meets R0) {As : List AV} {S : XS} (h : m_X5_meets As S = some R0) : xG p l e R s m args below meth c cells slots Q D xT g cI cZ A 4 0 (zipN 0 As) [] S := xa_blk M (fun _ q => absurd q List.not_mem_nil) h
set_option maxRecDepth 20000 in
theorem cR_X5_meets {l : Launch} {D : va_G} {g : Nat → Nat} {cI cZ : ClassId} {A : Nat → Prop} (hD : ∀ S, va_D A (ww xT g cI cZ S)) : xMetR l D xT g cI cZ A yX5_meets (wm yX5_meets cX5_meets 4 0) { frames := 2, cells := 0, slots := 0, locals := 43 } 3 m_X5_meets :=
  fun As S R0 hlen h hr => xa_met1 (ft := FT_X5) (pt := PT_X5) (kt := KT_X5) (cs := cs_X5_meets) (L := L_X5_meets) hD (by decide) (by decide) hlen ok_X5_meets fk_X5_meets fa_X5 (fun p e s m args below meth c Q C0 hts hN => all_get (List.forall_mem_cons.mpr ⟨xcf_VN (C := RX2) (host := "StackMarks") C0 hts hN (c_X2_has hD) (good_N kc_X2_has) (by decide +kernel) (List.mem_cons_of_mem _ kn_X2) (List.mem_cons_of_mem _ ki_X2_has) (List.mem_cons_of_mem _ ks_X2_has) rfl ⟨rfl, rfl⟩ rfl (by decide +kernel) ⟨by decide, by decide⟩ ⟨Nat.zero_le _, Nat.zero_le _⟩, List.forall_mem_cons.mpr ⟨xcf_R (C := RX5) C0 hts hN (cR_X5_demandPlaces hD) hr (good_V kl_X5_124 ki_X5_demandPlaces ks_X5_demandPlaces kn_X5 kc_X5_demandPlaces) rfl ⟨rfl, rfl⟩ rfl (by decide +kernel) ⟨by decide, by decide⟩ ⟨Nat.zero_le _, Nat.zero_le _⟩, List.forall_mem_cons.mpr ⟨xcf_VN (C := RX2) (host := "StackMarks") C0 hts hN (c_X2_shareX hD) (good_N kc_X2_shareX) (by decide +kernel) (List.mem_cons_of_mem _ kn_X2) (List.mem_cons_of_mem _ ki_X2_shareX) (List.mem_cons_of_mem _ ks_X2_shareX) rfl ⟨rfl, rfl⟩ rfl (by decide +kernel) ⟨by decide, by decide⟩ ⟨Nat.zero_le _, Nat.zero_le _⟩, fun _ q => absurd q List.not_mem_nil⟩⟩⟩)) (fun p e s m args below meth c Q M => s_X5_meets M h)
set_option maxRecDepth 20000 in
theorem cT_X5_meets {l : Launch} {D : va_G} {g : Nat → Nat} {cI cZ : ClassId} {A : Nat → Prop} (hD : ∀ S, va_D A (ww xT g cI cZ S)) (hl : l.stackTraces = false) : xMetT l D xT g cI cZ A yX5_meets (wm yX5_meets cX5_meets 4 0) { frames := 7, cells := 1, slots := 6, locals := 120 } 3 m_X5_meets :=
  fun As S R0 hlen h hr => xa_metT1 (ft := FT_X5) (pt := PT_X5) (kt := KT_X5) (cs := cs_X5_meets) (L := L_X5_meets) hD (by decide) (by decide) hlen hr ok_X5_meets fk_X5_meets fa_X5 (fun p e s m args below meth c C0 hts hN hout hlk => all_get (List.forall_mem_cons.mpr ⟨xcf_VN (C := RX2) (host := "StackMarks") C0 hts hN (c_X2_has hD) (good_N kc_X2_has) (by decide +kernel) (List.mem_cons_of_mem _ kn_X2) (List.mem_cons_of_mem _ ki_X2_has) (List.mem_cons_of_mem _ ks_X2_has) rfl ⟨rfl, rfl⟩ rfl (by decide +kernel) ⟨by decide, by decide⟩ ⟨Nat.zero_le _, Nat.zero_le _⟩, List.forall_mem_cons.mpr ⟨xcf_T (C := RX5) C0 hts hN (cR_X5_demandPlaces hD) (cT_X5_demandPlaces hD hl) hout hlk (good_V kl_X5_124 ki_X5_demandPlaces ks_X5_demandPlaces kn_X5 kc_X5_demandPlaces) rfl ⟨rfl, rfl⟩ ⟨rfl, rfl⟩ rfl (by decide +kernel) ⟨by decide, by decide⟩ ⟨by decide, by decide⟩ ⟨by decide, by decide⟩, List.forall_mem_cons.mpr ⟨xcf_VN (C := RX2) (host := "StackMarks") C0 hts hN (c_X2_shareX hD) (good_N kc_X2_shareX) (by decide +kernel) (List.mem_cons_of_mem _ kn_X2) (List.mem_cons_of_mem _ ki_X2_shareX) (List.mem_cons_of_mem _ ks_X2_shareX) rfl ⟨rfl, rfl⟩ rfl (by decide +kernel) ⟨by decide, by decide⟩ ⟨Nat.zero_le _, Nat.zero_le _⟩, fun _ q => absurd q List.not_mem_nil⟩⟩⟩)) (fun p e s m args below meth c hts hN hout hlk M => s_X5_meets M h)
def L_X5_count : List CE := [(0, .iload_n 1, 1, [], 0), (1, .tableswitch 88 0 5 #[39, 47, 55, 63, 76, 82], 40, [89, 40, 48, 56, 64, 77, 83], 0), (40, .aload_n 0, 41, [], 0), (41, .getfield 10, 44, [5, 0], 0), (44, .getfield 200, 47, [0, 6], 0), (47, .ireturn, 48, [0], 0), (48, .aload_n 0, 49, [], 0), (49, .getfield 26, 52, [5, 2], 0), (52, .invokevirtual 201, 55, [0], 0), (55, .ireturn, 56, [0], 0), (56, .aload_n 0, 57, [], 0), (57, .getfield 33, 60, [5, 3], 0), (60, .getfield 106, 63, [4, 6], 0), (63, .ireturn, 64, [0], 0), (64, .aload_n 0, 65, [], 0), (65, .getfield 73, 68, [5, 9], 0), (68, .ifCond .eq 7, 71, [75], 0), (71, .iconst 1, 72, [], 1), (72, .goto 4, 75, [76], 0), (75, .iconst 0, 76, [], 0), (76, .ireturn, 77, [0], 0), (77, .aload_n 0, 78, [], 0), (78, .iconst 1, 79, [], 1), (79, .invokevirtual 204, 82, [1], 0), (82, .ireturn, 83, [0], 0), (83, .aload_n 0, 84, [], 0), (84, .iconst (-1), 85, [], (-1)), (85, .invokevirtual 204, 88, [1], 0), (88, .ireturn, 89, [0], 0), (89, .ldc 59, 91, [], (-100001)), (91, .ireturn, 92, [0], 0)]
theorem ok_X5_count : ∀ q ∈ L_X5_count, rok cX5_count 2 0 q = true := by decide +kernel
theorem fk_X5_count : ∀ q ∈ L_X5_count, fck FT_X5 PT_X5 KT_X5 q = true := by decide +kernel
noncomputable def cs_X5_count : List CT := [(false, 201, 1, 1, 2, m_X2_countThere), (false, 204, 2, 1, 5, m_X5_outermost)]
noncomputable def m_X5_count : MT := fun As S => brn xT cs_X5_count L_X5_count [] (dsp []) 33 [] 0 (zipN 0 As) [] S
theorem s_X5_count (M : xM p l e R s m args below meth c cells slots Q D xT g cI cZ A 2 cX5_count RX5 0 cs_X5_count L_X5_count R0) {As : List AV} {S : XS} (h : m_X5_count As S = some R0) : xG p l e R s m args below meth c cells slots Q D xT g cI cZ A 2 0 (zipN 0 As) [] S := xa_blk M (fun _ q => absurd q List.not_mem_nil) h
set_option maxRecDepth 20000 in
theorem cR_X5_count {l : Launch} {D : va_G} {g : Nat → Nat} {cI cZ : ClassId} {A : Nat → Prop} (hD : ∀ S, va_D A (ww xT g cI cZ S)) : xMetR l D xT g cI cZ A yX5_count (wm yX5_count cX5_count 2 0) { frames := 2, cells := 0, slots := 0, locals := 42 } 2 m_X5_count :=
  fun As S R0 hlen h hr => xa_met1 (ft := FT_X5) (pt := PT_X5) (kt := KT_X5) (cs := cs_X5_count) (L := L_X5_count) hD (by decide) (by decide) hlen ok_X5_count fk_X5_count fa_X5 (fun p e s m args below meth c Q C0 hts hN => all_get (List.forall_mem_cons.mpr ⟨xcf_VN (C := RX2) (host := "StackMarks") C0 hts hN (c_X2_countThere hD) (good_N kc_X2_countThere) (by decide +kernel) (List.mem_cons_of_mem _ kn_X2) (List.mem_cons_of_mem _ ki_X2_countThere) (List.mem_cons_of_mem _ ks_X2_countThere) rfl ⟨rfl, rfl⟩ rfl (by decide +kernel) ⟨by decide, by decide⟩ ⟨Nat.zero_le _, Nat.zero_le _⟩, List.forall_mem_cons.mpr ⟨xcf_R (C := RX5) C0 hts hN (cR_X5_outermost hD) hr (good_V kl_X5_204 ki_X5_outermost ks_X5_outermost kn_X5 kc_X5_outermost) rfl ⟨rfl, rfl⟩ rfl (by decide +kernel) ⟨by decide, by decide⟩ ⟨Nat.zero_le _, Nat.zero_le _⟩, fun _ q => absurd q List.not_mem_nil⟩⟩)) (fun p e s m args below meth c Q M => s_X5_count M h)
set_option maxRecDepth 20000 in
theorem cT_X5_count {l : Launch} {D : va_G} {g : Nat → Nat} {cI cZ : ClassId} {A : Nat → Prop} (hD : ∀ S, va_D A (ww xT g cI cZ S)) (hl : l.stackTraces = false) : xMetT l D xT g cI cZ A yX5_count (wm yX5_count cX5_count 2 0) { frames := 8, cells := 1, slots := 6, locals := 141 } 2 m_X5_count :=
  fun As S R0 hlen h hr => xa_metT1 (ft := FT_X5) (pt := PT_X5) (kt := KT_X5) (cs := cs_X5_count) (L := L_X5_count) hD (by decide) (by decide) hlen hr ok_X5_count fk_X5_count fa_X5 (fun p e s m args below meth c C0 hts hN hout hlk => all_get (List.forall_mem_cons.mpr ⟨xcf_VN (C := RX2) (host := "StackMarks") C0 hts hN (c_X2_countThere hD) (good_N kc_X2_countThere) (by decide +kernel) (List.mem_cons_of_mem _ kn_X2) (List.mem_cons_of_mem _ ki_X2_countThere) (List.mem_cons_of_mem _ ks_X2_countThere) rfl ⟨rfl, rfl⟩ rfl (by decide +kernel) ⟨by decide, by decide⟩ ⟨Nat.zero_le _, Nat.zero_le _⟩, List.forall_mem_cons.mpr ⟨xcf_T (C := RX5) C0 hts hN (cR_X5_outermost hD) (cT_X5_outermost hD hl) hout hlk (good_V kl_X5_204 ki_X5_outermost ks_X5_outermost kn_X5 kc_X5_outermost) rfl ⟨rfl, rfl⟩ ⟨rfl, rfl⟩ rfl (by decide +kernel) ⟨by decide, by decide⟩ ⟨by decide, by decide⟩ ⟨by decide, by decide⟩, fun _ q => absurd q List.not_mem_nil⟩⟩)) (fun p e s m args below meth c hts hN hout hlk M => s_X5_count M h)
end
end
section
/-! Constructors: a group 'this.f = new t[n]'. -/
def aTy (z : Bool) : ArrayType := bif z then .boolean else .int
def eTy (z : Bool) : FieldType := bif z then .boolean else .int
section XN
variable {p : Program} {l : Launch} {e : Env} {R : Room} {s : State} {m : MethodId} {args : Array Value} {below : List Frame} {meth : Method} {c : Code} {H : Heap} {locs : List Loc} {cells slots : Nat} {Q : State → Prop} {D : va_G} {A : Nat → Prop} {H0 : Heap} {cc : ByteArray} {own : String} {ls : Array Slot} {Tf : u_T} {N ci k idx pc pc1 n h0 : Nat} {v : Int32} {fs : List Value} {ws : va_W} {tys : List (ClassId × FieldType)} {cA : ClassId}
theorem xn_group (z : Bool) (hx : p.tables.exec = Jvm.exec) (hb : c.code = cc) (hown : s.vm.findClass own = some m.cls) (hin : meth.name = "<init>") (hK : va_K D vwCl tys s) (hA : ∀ q, H0.size ≤ q → A q) (hc : vwCl[ci]? = some (own, Tf, N)) (hw : ∀ w ∈ u_ws own Tf N, w.before args s = true)
    (harr : (Jvm.Cond.arrayClass (eTy z)).before args s = true) (hcA : s.vm.findClass ("[" ++ (eTy z).toString) = some cA) (hl0 : ls[0]? = some (.val (.ref h0)))
    (hP : va_P D vwCl ((h0, .inr (ci, fs)) :: ws) H) (hD : va_D A ((h0, .inr (ci, fs)) :: ws)) (hS : va_S A H0 H locs)
    (k : Nat) (hk : k < N) (hkf : k < fs.length) (hfin : (Tf k).2.2.2 = true) (hdecl : (Tf k).1 = own) (hdesc : parseFieldDescriptor (Tf k).2.2.1 = some (.array (eTy z))) (hlink : (Jvm.Cond.fieldLink own idx own (Tf k).2.1 (Tf k).2.2.1).before args s = true)
    (d0 : decode cc pc = .ok (.aload_n 0, 1)) (hpush : ∀ (st : List Value), W p l e R s m args below meth c H locs cells slots Q (F0 m pc1 ls (.int v :: st)) → W p l e R s m args below meth c H locs cells slots Q (F0 m (pc + 1) ls st))
    (dn : decode cc pc1 = .ok (.newarray (aTy z), 2)) (dp : decode cc (pc1 + 2) = .ok (.putfield idx, 3)) (hv : v.toNatClampNeg = n) (hv0 : ¬ v < 0) (hn : n ≤ 1000) (hcells : cells + 1 ≤ R.cells) (hslots : slots + n ≤ R.slots)
    (kk : ∀ (q : Nat) (H1 : Heap) (locs1 : List Loc), va_P D vwCl ((h0, .inr (ci, fs.set k (.ref q))) :: (ws ++ [(q, .inl (cA, n, .inl (fun _ => 0)))])) H1 → va_D A ((h0, .inr (ci, fs.set k (.ref q))) :: (ws ++ [(q, .inl (cA, n, .inl (fun _ => 0)))])) → va_S A H0 H1 locs1 → W p l e R s m args below meth c H1 locs1 (cells + 1) (slots + n) Q (F0 m (pc1 + 5) ls [])) :
    W p l e R s m args below meth c H locs cells slots Q (F0 m pc ls []) := by
  refine lv_aload_n hx hb d0 rfl hl0 ?_
  refine hpush _ ?_
  obtain ⟨ty0, hty, hnm⟩ := vw_known _ _ _ _ hc
  have key : ∀ (H1 : Heap), H1[H.size]? = some (arrV cA n (fun _ => .int 0)) → H1.size = H.size + 1 → (∀ q, q < H.size → H1[q]? = H[q]?) → W p l e R s m args below meth c H1 locs (cells + 1) (slots + n) Q (F0 m (pc1 + 2) ls [.ref H.size, .ref h0]) := by
    intro H1 e1 z1 o1
    have hk1 : ∀ (k : Nat) (x : Nat × va_E), ((h0, .inr (ci, fs)) :: ws)[k]? = some x → H1[x.1]? = H[x.1]? := fun k x hx => o1 x.1 ((hP k x hx).lt)
    have hP1 : va_P D vwCl (((h0, .inr (ci, fs)) :: ws) ++ [(H.size, .inl (cA, n, .inl (fun _ => 0)))]) H1 := (hP.kept hk1).app (fun k x hx => by
      have hz : k < 1 := (List.getElem?_eq_some_iff.mp hx).1
      rw [show k = 0 by omega] at hx
      cases hx
      exact e1)
    have hD1 : va_D A (((h0, .inr (ci, fs)) :: ws) ++ [(H.size, .inl (cA, n, .inl (fun _ => 0)))]) := hD.push hP rfl (hA _ hS.1)
    have hS1 : va_S A H0 H1 locs := ⟨Nat.le_trans hS.1 (by omega), fun x h1 h2 => (o1 x (Nat.lt_of_lt_of_le h1 hS.1)).trans (hS.2.1 x h1 h2), hS.2.2⟩
    exact va_putF (D := D) (ci := ci) (v := .ref H.size) (ty := .array (eTy z)) (C := own) (T := Tf) (N := N) hx hb hw (fun _ q => q) ty0 hty hnm hown hK hP1 hD1 hS1 0 rfl hc k hk hlink (fun x h => by rw [hdecl] at h; exact h) hfin hin hdecl hdesc (by cases z <;> rfl) (by cases z <;> rfl) hkf dp (fun H2 locs2 hP2 hD2 hS2 => kk H.size H2 locs2 hP2 hD2 hS2)
  cases z with
  | false =>
    have harr' : (Jvm.Cond.arrayClass (newarray.typeOf .int)).before args s = true := harr
    have dn' : decode cc pc1 = .ok (.newarray .int, 2) := dn
    have hcA' : s.vm.findClass ("[" ++ (newarray.typeOf .int).toString) = some cA := hcA
    have hby : n * componentBytes (newarray.typeOf .int) ≤ 536870912 := Nat.le_trans (Nat.mul_le_mul_right _ hn) (by decide)
    exact va_newaK (atype := .int) (g := F0 m pc1 ls [.int v, .ref h0]) (n := v) (N := n) (rest := [.ref h0]) (h := H.size) hx hb harr' rfl dn' rfl hv0 hv hby hcells hslots rfl (fun H1 cA1 e1 z1 o1 hAr hNm => by
      have e2 : cA1 = cA := Option.some.inj (hNm.symm.trans hcA')
      subst e2
      exact key H1 e1 z1 o1)
  | true =>
    have harr' : (Jvm.Cond.arrayClass (newarray.typeOf .boolean)).before args s = true := harr
    have dn' : decode cc pc1 = .ok (.newarray .boolean, 2) := dn
    have hcA' : s.vm.findClass ("[" ++ (newarray.typeOf .boolean).toString) = some cA := hcA
    have hby : n * componentBytes (newarray.typeOf .boolean) ≤ 536870912 := Nat.le_trans (Nat.mul_le_mul_right _ hn) (by decide)
    exact va_newaK (atype := .boolean) (g := F0 m pc1 ls [.int v, .ref h0]) (n := v) (N := n) (rest := [.ref h0]) (h := H.size) hx hb harr' rfl dn' rfl hv0 hv hby hcells hslots rfl (fun H1 cA1 e1 z1 o1 hAr hNm => by
      have e2 : cA1 = cA := Option.some.inj (hNm.symm.trans hcA')
      subst e2
      exact key H1 e1 z1 o1)
end XN
end
section
theorem kx_L_8 : Cond.classLink RL 8 RX5 ∈ wA := tw1 13 (by decide +kernel) (by decide +kernel)
theorem kz_X5 : Cond.instantiable RX5 10 ∈ wA := tw1 14 (by decide +kernel) (by decide +kernel)
theorem ko_X5 : Cond.methodLink RX5 1 objectInit ∈ wA := tw1 18 (by decide +kernel) (by decide +kernel)
theorem ko_i : Cond.instanceMethod objectInit ∈ wA := tw1 19 (by decide +kernel) (by decide +kernel)
theorem ko_c : Cond.code objectInit ⟨#[0xb1]⟩ 1 none ∈ wA := tw1 20 (by decide +kernel) (by decide +kernel)
theorem kx_X5_7 : Cond.classLink RX5 7 RX0 ∈ wA := tw1 21 (by decide +kernel) (by decide +kernel)
theorem kz_X0 : Cond.instantiable RX0 7 ∈ wA := tw1 22 (by decide +kernel) (by decide +kernel)
theorem ko_X0 : Cond.methodLink RX0 3 objectInit ∈ wA := tw1 26 (by decide +kernel) (by decide +kernel)
theorem ka_int : Cond.arrayClass .int ∈ wA := tw1 56 (by decide +kernel) (by decide +kernel)
theorem kx_X5_16 : Cond.classLink RX5 16 RX1 ∈ wA := tw1 57 (by decide +kernel) (by decide +kernel)
theorem kz_X1 : Cond.instantiable RX1 1 ∈ wA := tw1 58 (by decide +kernel) (by decide +kernel)
theorem ko_X1 : Cond.methodLink RX1 1 objectInit ∈ wA := tw1 62 (by decide +kernel) (by decide +kernel)
theorem kx_X5_23 : Cond.classLink RX5 23 RX2 ∈ wA := tw1 69 (by decide +kernel) (by decide +kernel)
theorem kz_X2 : Cond.instantiable RX2 12 ∈ wA := tw1 70 (by decide +kernel) (by decide +kernel)
theorem ko_X2 : Cond.methodLink RX2 3 objectInit ∈ wA := tw1 74 (by decide +kernel) (by decide +kernel)
theorem ka_boolean : Cond.arrayClass .boolean ∈ wA := tw1 124 (by decide +kernel) (by decide +kernel)
theorem kx_X5_30 : Cond.classLink RX5 30 RX4 ∈ wA := tw1 125 (by decide +kernel) (by decide +kernel)
theorem kz_X4 : Cond.instantiable RX4 7 ∈ wA := tw1 126 (by decide +kernel) (by decide +kernel)
theorem ko_X4 : Cond.methodLink RX4 3 objectInit ∈ wA := tw1 130 (by decide +kernel) (by decide +kernel)
theorem kx_X5_37 : Cond.classLink RX5 37 RX3 ∈ wA := tw1 160 (by decide +kernel) (by decide +kernel)
theorem kz_X3 : Cond.instantiable RX3 6 ∈ wA := tw1 161 (by decide +kernel) (by decide +kernel)
theorem ko_X3 : Cond.methodLink RX3 3 objectInit ∈ wA := tw1 165 (by decide +kernel) (by decide +kernel)
theorem kw_L_at : Cond.codeWith yL_at cL_at 5 (some .int) [(0, 10, 13, 13)] ∈ wA := tw2 228 (by decide +kernel) (by decide +kernel)
theorem kx_L_13 : Cond.classLink RL 13 "java/lang/IllegalStateException" ∈ wA := tw2 229 (by decide +kernel) (by decide +kernel)
theorem kx_X5_207 : Cond.classLink RX5 207 "java/lang/IllegalStateException" ∈ wA := tw2 238 (by decide +kernel) (by decide +kernel)
theorem ka_byte : Cond.arrayClass .byte ∈ wA := tw3 63 (by decide +kernel) (by decide +kernel)
theorem kw_L_slurAt : Cond.codeWith yL_slurAt cL_slurAt 5 (some .int) [(0, 10, 13, 13)] ∈ wA := tw3 66 (by decide +kernel) (by decide +kernel)
theorem kw_L_skyline : Cond.codeWith yL_skyline cL_skyline 5 (some .int) [(0, 10, 13, 13)] ∈ wA := tw3 77 (by decide +kernel) (by decide +kernel)
theorem kw_L_row : Cond.codeWith yL_row cL_row 5 (some .int) [(0, 10, 13, 13)] ∈ wA := tw3 85 (by decide +kernel) (by decide +kernel)
theorem kw_L_order : Cond.codeWith yL_order cL_order 6 (some .int) [(0, 12, 15, 13)] ∈ wA := tw3 92 (by decide +kernel) (by decide +kernel)
theorem kw_L_meets : Cond.codeWith yL_meets cL_meets 5 (some .int) [(0, 10, 13, 13)] ∈ wA := tw3 108 (by decide +kernel) (by decide +kernel)
theorem kw_L_count : Cond.codeWith yL_count cL_count 4 (some .int) [(0, 9, 12, 13)] ∈ wA := tw3 115 (by decide +kernel) (by decide +kernel)
theorem kx_L_36 : Cond.classLink RL 36 RX6 ∈ wA := tw3 128 (by decide +kernel) (by decide +kernel)
theorem kz_X6 : Cond.instantiable RX6 31 ∈ wA := tw3 129 (by decide +kernel) (by decide +kernel)
theorem ko_X6 : Cond.methodLink RX6 1 objectInit ∈ wA := tw3 133 (by decide +kernel) (by decide +kernel)
theorem ka_long : Cond.arrayClass .long ∈ wA := tw4 157 (by decide +kernel) (by decide +kernel)
end
section
abbrev iPre (D : va_G) (cI cZ : ClassId) (gs : Nat → Nat) (A : Nat → Prop) (ws : va_W) (sz : Nat) (U : State) : Prop := U.heap.size = sz ∧ va_P D vwCl ws U.heap ∧ va_K D vwCl [(cI, .int), (cZ, .boolean)] U ∧ xNw U ∧ xSt gs A U U.heap ∧ va_D (fun _ => True) ws
abbrev iQ (D : va_G) (A : Nat → Prop) (W1 : (Nat → Nat) → va_W) : Array Value → State → Outcome → State → Prop := va_Qv (fun _ : Nat → Nat => True) (fun a t => va_P D vwCl (W1 a) t.heap ∧ va_D A (W1 a)) A
theorem ww_D {A : Nat → Prop} {T : List WE} {g : Nat → Nat} {cI cZ : ClassId} {S0 : XS} (h : va_D A (ww T g cI cZ S0)) : ∀ S, va_D A (ww T g cI cZ S) := by
  have key : ∀ (S : XS) (k : Nat) (q : Nat × va_E), (ww T g cI cZ S)[k]? = some q → ∃ q0, (ww T g cI cZ S0)[k]? = some q0 ∧ q0.1 = q.1 := by
    intro S k q hq
    unfold ww at hq ⊢
    rw [List.getElem?_mapIdx] at hq ⊢
    cases e : T[k]? with
    | none => rw [e] at hq; cases hq
    | some x =>
      rw [e] at hq
      cases Option.some.inj hq
      exact ⟨_, rfl, rfl⟩
  intro S
  refine ⟨fun i j p q hp hq e => ?_, fun k q hq => ?_⟩
  · obtain ⟨p0, hp0, ep⟩ := key S i p hp
    obtain ⟨q0, hq0, eq⟩ := key S j q hq
    exact h.1 i j p0 q0 hp0 hq0 (by rw [ep, eq, e])
  · obtain ⟨q0, hq0, eq⟩ := key S k q hq
    rw [← eq]
    exact h.2 k q0 hq0
theorem xSt.narrow {gs : Nat → Nat} {A B : Nat → Prop} {s : State} {H : Heap} (h : xSt gs A s H) (hAB : ∀ q, B q → A q) : xSt gs B s H := ⟨fun o ho => ⟨(h.1 o ho).1.narrow hAB, (h.1 o ho).2.narrow hAB⟩, ⟨h.2.1.1.narrow hAB, h.2.1.2.narrow hAB⟩, h.2.2⟩
theorem xSt.re {gs gt : Nat → Nat} {A : Nat → Prop} {s : State} {H : Heap} (h : xSt gs A s H) (e0 : gt 40 = gs 40) (e1 : gt 41 = gs 41) (e2 : gt 42 = gs 42) : xSt gt A s H := by
  refine ⟨fun o ho => ?_, h.2.1, by rw [e2]; exact h.2.2⟩
  rcases ho with rfl | rfl
  · rw [e0]; exact h.1 40 (Or.inl rfl)
  · rw [e1]; exact h.1 41 (Or.inr rfl)
theorem dX0_init_0 : decode cX0_init 0 = .ok (.aload_n 0, 1) := by decide +kernel
theorem dX0_init_1 : decode cX0_init 1 = .ok (.invokespecial 3, 3) := by decide +kernel
theorem dX0_init_4 : decode cX0_init 4 = .ok (.aload_n 0, 1) := by decide +kernel
theorem dX0_init_5 : decode cX0_init 5 = .ok (.bipush 40, 2) := by decide +kernel
theorem dX0_init_7 : decode cX0_init 7 = .ok (.newarray .int, 2) := by decide +kernel
theorem dX0_init_9 : decode cX0_init 9 = .ok (.putfield 9, 3) := by decide +kernel
theorem dX0_init_12 : decode cX0_init 12 = .ok (.aload_n 0, 1) := by decide +kernel
theorem dX0_init_13 : decode cX0_init 13 = .ok (.bipush 40, 2) := by decide +kernel
theorem dX0_init_15 : decode cX0_init 15 = .ok (.newarray .int, 2) := by decide +kernel
theorem dX0_init_17 : decode cX0_init 17 = .ok (.putfield 15, 3) := by decide +kernel
theorem dX0_init_20 : decode cX0_init 20 = .ok (.aload_n 0, 1) := by decide +kernel
theorem dX0_init_21 : decode cX0_init 21 = .ok (.bipush 40, 2) := by decide +kernel
theorem dX0_init_23 : decode cX0_init 23 = .ok (.newarray .int, 2) := by decide +kernel
theorem dX0_init_25 : decode cX0_init 25 = .ok (.putfield 18, 3) := by decide +kernel
theorem dX0_init_28 : decode cX0_init 28 = .ok (.aload_n 0, 1) := by decide +kernel
theorem dX0_init_29 : decode cX0_init 29 = .ok (.bipush 40, 2) := by decide +kernel
theorem dX0_init_31 : decode cX0_init 31 = .ok (.newarray .int, 2) := by decide +kernel
theorem dX0_init_33 : decode cX0_init 33 = .ok (.putfield 21, 3) := by decide +kernel
theorem dX0_init_36 : decode cX0_init 36 = .ok (.aload_n 0, 1) := by decide +kernel
theorem dX0_init_37 : decode cX0_init 37 = .ok (.bipush 40, 2) := by decide +kernel
theorem dX0_init_39 : decode cX0_init 39 = .ok (.newarray .int, 2) := by decide +kernel
theorem dX0_init_41 : decode cX0_init 41 = .ok (.putfield 24, 3) := by decide +kernel
theorem dX0_init_44 : decode cX0_init 44 = .ok (.aload_n 0, 1) := by decide +kernel
theorem dX0_init_45 : decode cX0_init 45 = .ok (.bipush 40, 2) := by decide +kernel
theorem dX0_init_47 : decode cX0_init 47 = .ok (.newarray .int, 2) := by decide +kernel
theorem dX0_init_49 : decode cX0_init 49 = .ok (.putfield 27, 3) := by decide +kernel
theorem dX0_init_52 : decode cX0_init 52 = .ok (.return_, 1) := by decide +kernel
abbrev w0_X0 (h : Nat) : va_W := [(h, .inr (0, [.null, .null, .null, .null, .null, .null, .int 0]))]
abbrev w1_X0 (cI cZ : ClassId) (h : Nat) (a : Nat → Nat) : va_W := [(h, .inr (0, [.ref (a 0), .ref (a 1), .ref (a 2), .ref (a 3), .ref (a 4), .ref (a 5), .int 0])), (a 0, .inl (cI, 40, .inl (fun _ => 0))), (a 1, .inl (cI, 40, .inl (fun _ => 0))), (a 2, .inl (cI, 40, .inl (fun _ => 0))), (a 3, .inl (cI, 40, .inl (fun _ => 0))), (a 4, .inl (cI, 40, .inl (fun _ => 0))), (a 5, .inl (cI, 40, .inl (fun _ => 0)))]
set_option maxHeartbeats 4000000 in
set_option maxRecDepth 100000 in
theorem c_X0_init (l : Launch) (D : va_G) (cI cZ : ClassId) (gs : Nat → Nat) (h0 sz : Nat) : Met l yX0_init (wm yX0_init cX0_init 1 2) { frames := 1, cells := 6, slots := 240, locals := 12 } (va_Pc [.ref h0] (iPre D cI cZ gs (va_A (w0_X0 h0) sz) (w0_X0 h0) sz)) (iQ D (va_A (w0_X0 h0) sz) (w1_X0 cI cZ h0)) 6 240 (va_A (w0_X0 h0) sz) := by
  refine Met.ofW (cc := cX0_init) (maxL := 1) (ret := rety 2) (by decide) rfl ?_
  intro p e s m args below meth c s₁ B hml hv
  obtain ⟨rfl, hsz, hP, hK, hN, hst, hD0⟩ := hv
  have hx := B.exec
  have hb := B.bytes
  have hr := B.returns
  have hts := atoms_spec (ws := wm yX0_init cX0_init 1 2) B.pre
  have hts2 : ∀ w ∈ wA, w.before _ s = true := fun w hw => hts w (List.mem_cons_of_mem _ hw)
  have hown : s.vm.findClass RX0 = some m.cls := findClass_of_methodNamed B.named
  have hlocks := B.notSynchronized
  have hin : meth.name = "<init>" := (name_of_methodNamed B.named B.method).1
  subst hsz
  have hD := hD0.self (sz := s.heap.size)
  generalize hAe : va_A (w0_X0 h0) s.heap.size = A at hD hst ⊢
  have hA : ∀ q : Nat, s.heap.size ≤ q → A q := fun q h => by rw [← hAe]; exact Or.inr h
  have hS : va_S A s.heap s.heap [] := va_S.rf
  have hl := lv_entry ([.ref h0]) (n := 1) (Nat.le_of_ble_eq_true rfl)
  rw [lg_entry_eq]
  generalize (lg_sl ([.ref h0]) ++ List.replicate (1 - (lg_sl ([.ref h0])).length) Slot.unset).toArray = ls at hl ⊢
  have hl : lv_has ls 1 [(0, .ref h0)] := hl
  refine lv_aload_n hx hb dX0_init_0 rfl (lv_at hl 0 rfl) ?_
  refine W.objInit hx hb hown (hts2 _ ko_X0) (hts2 _ ko_i) (hts2 _ ko_c) rfl (by rw [hml]; exact hl.1) rfl dX0_init_1 (Nat.le_of_ble_eq_true rfl) (Nat.le_of_ble_eq_true rfl) ?_
  refine W.eq (g2 := F0 m 4 ls []) rfl ?_
  refine xn_group false (cA := cI) (v := 40) (n := 40) (pc1 := 7) hx hb hown hin hK hA rfl (fun w hw => hts2 w (iw_X0 w hw)) (hts2 _ ka_int) (hK.2 0 _ rfl).2 (lv_at hl 0 rfl) hP hD hS 0 (by decide) (Nat.le_of_ble_eq_true rfl) rfl rfl (by decide +kernel) (hts2 _ kf_X0_9) dX0_init_4 (fun st k => lv_bipush hx hb dX0_init_5 (by decide) k) dX0_init_7 dX0_init_9 (by decide) (by decide) (by decide) (Nat.le_of_ble_eq_true rfl) (Nat.le_of_ble_eq_true rfl) (fun q0 H0 locs0 hP0 hD0 hS0 => ?_)
  clear hP hD hS
  have hP : va_P D vwCl [(h0, .inr (0, [.ref q0, .null, .null, .null, .null, .null, .int 0])), (q0, .inl (cI, 40, .inl (fun _ => 0)))] H0 := hP0
  have hD : va_D A [(h0, .inr (0, [.ref q0, .null, .null, .null, .null, .null, .int 0])), (q0, .inl (cI, 40, .inl (fun _ => 0)))] := hD0
  have hS : va_S A s.heap H0 locs0 := hS0
  clear hP0 hD0 hS0
  refine xn_group false (cA := cI) (v := 40) (n := 40) (pc1 := 15) hx hb hown hin hK hA rfl (fun w hw => hts2 w (iw_X0 w hw)) (hts2 _ ka_int) (hK.2 0 _ rfl).2 (lv_at hl 0 rfl) hP hD hS 1 (by decide) (Nat.le_of_ble_eq_true rfl) rfl rfl (by decide +kernel) (hts2 _ kf_X0_15) dX0_init_12 (fun st k => lv_bipush hx hb dX0_init_13 (by decide) k) dX0_init_15 dX0_init_17 (by decide) (by decide) (by decide) (Nat.le_of_ble_eq_true rfl) (Nat.le_of_ble_eq_true rfl) (fun q1 H1 locs1 hP1 hD1 hS1 => ?_)
  clear hP hD hS
  have hP : va_P D vwCl [(h0, .inr (0, [.ref q0, .ref q1, .null, .null, .null, .null, .int 0])), (q0, .inl (cI, 40, .inl (fun _ => 0))), (q1, .inl (cI, 40, .inl (fun _ => 0)))] H1 := hP1
  have hD : va_D A [(h0, .inr (0, [.ref q0, .ref q1, .null, .null, .null, .null, .int 0])), (q0, .inl (cI, 40, .inl (fun _ => 0))), (q1, .inl (cI, 40, .inl (fun _ => 0)))] := hD1
  have hS : va_S A s.heap H1 locs1 := hS1
  clear hP1 hD1 hS1
  refine xn_group false (cA := cI) (v := 40) (n := 40) (pc1 := 23) hx hb hown hin hK hA rfl (fun w hw => hts2 w (iw_X0 w hw)) (hts2 _ ka_int) (hK.2 0 _ rfl).2 (lv_at hl 0 rfl) hP hD hS 2 (by decide) (Nat.le_of_ble_eq_true rfl) rfl rfl (by decide +kernel) (hts2 _ kf_X0_18) dX0_init_20 (fun st k => lv_bipush hx hb dX0_init_21 (by decide) k) dX0_init_23 dX0_init_25 (by decide) (by decide) (by decide) (Nat.le_of_ble_eq_true rfl) (Nat.le_of_ble_eq_true rfl) (fun q2 H2 locs2 hP2 hD2 hS2 => ?_)
  clear hP hD hS
  have hP : va_P D vwCl [(h0, .inr (0, [.ref q0, .ref q1, .ref q2, .null, .null, .null, .int 0])), (q0, .inl (cI, 40, .inl (fun _ => 0))), (q1, .inl (cI, 40, .inl (fun _ => 0))), (q2, .inl (cI, 40, .inl (fun _ => 0)))] H2 := hP2
  have hD : va_D A [(h0, .inr (0, [.ref q0, .ref q1, .ref q2, .null, .null, .null, .int 0])), (q0, .inl (cI, 40, .inl (fun _ => 0))), (q1, .inl (cI, 40, .inl (fun _ => 0))), (q2, .inl (cI, 40, .inl (fun _ => 0)))] := hD2
  have hS : va_S A s.heap H2 locs2 := hS2
  clear hP2 hD2 hS2
  refine xn_group false (cA := cI) (v := 40) (n := 40) (pc1 := 31) hx hb hown hin hK hA rfl (fun w hw => hts2 w (iw_X0 w hw)) (hts2 _ ka_int) (hK.2 0 _ rfl).2 (lv_at hl 0 rfl) hP hD hS 3 (by decide) (Nat.le_of_ble_eq_true rfl) rfl rfl (by decide +kernel) (hts2 _ kf_X0_21) dX0_init_28 (fun st k => lv_bipush hx hb dX0_init_29 (by decide) k) dX0_init_31 dX0_init_33 (by decide) (by decide) (by decide) (Nat.le_of_ble_eq_true rfl) (Nat.le_of_ble_eq_true rfl) (fun q3 H3 locs3 hP3 hD3 hS3 => ?_)
  clear hP hD hS
  have hP : va_P D vwCl [(h0, .inr (0, [.ref q0, .ref q1, .ref q2, .ref q3, .null, .null, .int 0])), (q0, .inl (cI, 40, .inl (fun _ => 0))), (q1, .inl (cI, 40, .inl (fun _ => 0))), (q2, .inl (cI, 40, .inl (fun _ => 0))), (q3, .inl (cI, 40, .inl (fun _ => 0)))] H3 := hP3
  have hD : va_D A [(h0, .inr (0, [.ref q0, .ref q1, .ref q2, .ref q3, .null, .null, .int 0])), (q0, .inl (cI, 40, .inl (fun _ => 0))), (q1, .inl (cI, 40, .inl (fun _ => 0))), (q2, .inl (cI, 40, .inl (fun _ => 0))), (q3, .inl (cI, 40, .inl (fun _ => 0)))] := hD3
  have hS : va_S A s.heap H3 locs3 := hS3
  clear hP3 hD3 hS3
  refine xn_group false (cA := cI) (v := 40) (n := 40) (pc1 := 39) hx hb hown hin hK hA rfl (fun w hw => hts2 w (iw_X0 w hw)) (hts2 _ ka_int) (hK.2 0 _ rfl).2 (lv_at hl 0 rfl) hP hD hS 4 (by decide) (Nat.le_of_ble_eq_true rfl) rfl rfl (by decide +kernel) (hts2 _ kf_X0_24) dX0_init_36 (fun st k => lv_bipush hx hb dX0_init_37 (by decide) k) dX0_init_39 dX0_init_41 (by decide) (by decide) (by decide) (Nat.le_of_ble_eq_true rfl) (Nat.le_of_ble_eq_true rfl) (fun q4 H4 locs4 hP4 hD4 hS4 => ?_)
  clear hP hD hS
  have hP : va_P D vwCl [(h0, .inr (0, [.ref q0, .ref q1, .ref q2, .ref q3, .ref q4, .null, .int 0])), (q0, .inl (cI, 40, .inl (fun _ => 0))), (q1, .inl (cI, 40, .inl (fun _ => 0))), (q2, .inl (cI, 40, .inl (fun _ => 0))), (q3, .inl (cI, 40, .inl (fun _ => 0))), (q4, .inl (cI, 40, .inl (fun _ => 0)))] H4 := hP4
  have hD : va_D A [(h0, .inr (0, [.ref q0, .ref q1, .ref q2, .ref q3, .ref q4, .null, .int 0])), (q0, .inl (cI, 40, .inl (fun _ => 0))), (q1, .inl (cI, 40, .inl (fun _ => 0))), (q2, .inl (cI, 40, .inl (fun _ => 0))), (q3, .inl (cI, 40, .inl (fun _ => 0))), (q4, .inl (cI, 40, .inl (fun _ => 0)))] := hD4
  have hS : va_S A s.heap H4 locs4 := hS4
  clear hP4 hD4 hS4
  refine xn_group false (cA := cI) (v := 40) (n := 40) (pc1 := 47) hx hb hown hin hK hA rfl (fun w hw => hts2 w (iw_X0 w hw)) (hts2 _ ka_int) (hK.2 0 _ rfl).2 (lv_at hl 0 rfl) hP hD hS 5 (by decide) (Nat.le_of_ble_eq_true rfl) rfl rfl (by decide +kernel) (hts2 _ kf_X0_27) dX0_init_44 (fun st k => lv_bipush hx hb dX0_init_45 (by decide) k) dX0_init_47 dX0_init_49 (by decide) (by decide) (by decide) (Nat.le_of_ble_eq_true rfl) (Nat.le_of_ble_eq_true rfl) (fun q5 H5 locs5 hP5 hD5 hS5 => ?_)
  clear hP hD hS
  have hP : va_P D vwCl [(h0, .inr (0, [.ref q0, .ref q1, .ref q2, .ref q3, .ref q4, .ref q5, .int 0])), (q0, .inl (cI, 40, .inl (fun _ => 0))), (q1, .inl (cI, 40, .inl (fun _ => 0))), (q2, .inl (cI, 40, .inl (fun _ => 0))), (q3, .inl (cI, 40, .inl (fun _ => 0))), (q4, .inl (cI, 40, .inl (fun _ => 0))), (q5, .inl (cI, 40, .inl (fun _ => 0)))] H5 := hP5
  have hD : va_D A [(h0, .inr (0, [.ref q0, .ref q1, .ref q2, .ref q3, .ref q4, .ref q5, .int 0])), (q0, .inl (cI, 40, .inl (fun _ => 0))), (q1, .inl (cI, 40, .inl (fun _ => 0))), (q2, .inl (cI, 40, .inl (fun _ => 0))), (q3, .inl (cI, 40, .inl (fun _ => 0))), (q4, .inl (cI, 40, .inl (fun _ => 0))), (q5, .inl (cI, 40, .inl (fun _ => 0)))] := hD5
  have hS : va_S A s.heap H5 locs5 := hS5
  clear hP5 hD5 hS5
  refine W.widen (k := 6) (n := 240) (Nat.le_of_ble_eq_true rfl) (Nat.le_of_ble_eq_true rfl) ?_
  exact W.vret hx hb hr (fun t ht hW => ⟨⟨(fun k => [q0, q1, q2, q3, q4, q5].getD k 0), rfl, trivial, by rw [ht]; exact hP, hD⟩, hS.F ht⟩) hS.2.2 dX0_init_52
theorem dX2_init_0 : decode cX2_init 0 = .ok (.aload_n 0, 1) := by decide +kernel
theorem dX2_init_1 : decode cX2_init 1 = .ok (.invokespecial 3, 3) := by decide +kernel
theorem dX2_init_4 : decode cX2_init 4 = .ok (.aload_n 0, 1) := by decide +kernel
theorem dX2_init_5 : decode cX2_init 5 = .ok (.bipush 80, 2) := by decide +kernel
theorem dX2_init_7 : decode cX2_init 7 = .ok (.newarray .int, 2) := by decide +kernel
theorem dX2_init_9 : decode cX2_init 9 = .ok (.putfield 9, 3) := by decide +kernel
theorem dX2_init_12 : decode cX2_init 12 = .ok (.aload_n 0, 1) := by decide +kernel
theorem dX2_init_13 : decode cX2_init 13 = .ok (.bipush 80, 2) := by decide +kernel
theorem dX2_init_15 : decode cX2_init 15 = .ok (.newarray .int, 2) := by decide +kernel
theorem dX2_init_17 : decode cX2_init 17 = .ok (.putfield 15, 3) := by decide +kernel
theorem dX2_init_20 : decode cX2_init 20 = .ok (.aload_n 0, 1) := by decide +kernel
theorem dX2_init_21 : decode cX2_init 21 = .ok (.bipush 80, 2) := by decide +kernel
theorem dX2_init_23 : decode cX2_init 23 = .ok (.newarray .int, 2) := by decide +kernel
theorem dX2_init_25 : decode cX2_init 25 = .ok (.putfield 18, 3) := by decide +kernel
theorem dX2_init_28 : decode cX2_init 28 = .ok (.aload_n 0, 1) := by decide +kernel
theorem dX2_init_29 : decode cX2_init 29 = .ok (.bipush 80, 2) := by decide +kernel
theorem dX2_init_31 : decode cX2_init 31 = .ok (.newarray .int, 2) := by decide +kernel
theorem dX2_init_33 : decode cX2_init 33 = .ok (.putfield 21, 3) := by decide +kernel
theorem dX2_init_36 : decode cX2_init 36 = .ok (.aload_n 0, 1) := by decide +kernel
theorem dX2_init_37 : decode cX2_init 37 = .ok (.bipush 80, 2) := by decide +kernel
theorem dX2_init_39 : decode cX2_init 39 = .ok (.newarray .boolean, 2) := by decide +kernel
theorem dX2_init_41 : decode cX2_init 41 = .ok (.putfield 24, 3) := by decide +kernel
theorem dX2_init_44 : decode cX2_init 44 = .ok (.aload_n 0, 1) := by decide +kernel
theorem dX2_init_45 : decode cX2_init 45 = .ok (.bipush 80, 2) := by decide +kernel
theorem dX2_init_47 : decode cX2_init 47 = .ok (.newarray .int, 2) := by decide +kernel
theorem dX2_init_49 : decode cX2_init 49 = .ok (.putfield 28, 3) := by decide +kernel
theorem dX2_init_52 : decode cX2_init 52 = .ok (.aload_n 0, 1) := by decide +kernel
theorem dX2_init_53 : decode cX2_init 53 = .ok (.bipush 80, 2) := by decide +kernel
theorem dX2_init_55 : decode cX2_init 55 = .ok (.newarray .int, 2) := by decide +kernel
theorem dX2_init_57 : decode cX2_init 57 = .ok (.putfield 31, 3) := by decide +kernel
theorem dX2_init_60 : decode cX2_init 60 = .ok (.aload_n 0, 1) := by decide +kernel
theorem dX2_init_61 : decode cX2_init 61 = .ok (.bipush 80, 2) := by decide +kernel
theorem dX2_init_63 : decode cX2_init 63 = .ok (.newarray .int, 2) := by decide +kernel
theorem dX2_init_65 : decode cX2_init 65 = .ok (.putfield 34, 3) := by decide +kernel
theorem dX2_init_68 : decode cX2_init 68 = .ok (.aload_n 0, 1) := by decide +kernel
theorem dX2_init_69 : decode cX2_init 69 = .ok (.bipush 80, 2) := by decide +kernel
theorem dX2_init_71 : decode cX2_init 71 = .ok (.newarray .int, 2) := by decide +kernel
theorem dX2_init_73 : decode cX2_init 73 = .ok (.putfield 37, 3) := by decide +kernel
theorem dX2_init_76 : decode cX2_init 76 = .ok (.aload_n 0, 1) := by decide +kernel
theorem dX2_init_77 : decode cX2_init 77 = .ok (.bipush 80, 2) := by decide +kernel
theorem dX2_init_79 : decode cX2_init 79 = .ok (.newarray .boolean, 2) := by decide +kernel
theorem dX2_init_81 : decode cX2_init 81 = .ok (.putfield 40, 3) := by decide +kernel
theorem dX2_init_84 : decode cX2_init 84 = .ok (.aload_n 0, 1) := by decide +kernel
theorem dX2_init_85 : decode cX2_init 85 = .ok (.bipush 80, 2) := by decide +kernel
theorem dX2_init_87 : decode cX2_init 87 = .ok (.newarray .int, 2) := by decide +kernel
theorem dX2_init_89 : decode cX2_init 89 = .ok (.putfield 43, 3) := by decide +kernel
theorem dX2_init_92 : decode cX2_init 92 = .ok (.return_, 1) := by decide +kernel
abbrev w0_X2 (h : Nat) : va_W := [(h, .inr (2, [.null, .null, .null, .null, .null, .null, .null, .null, .null, .null, .null, .int 0]))]
abbrev w1_X2 (cI cZ : ClassId) (h : Nat) (a : Nat → Nat) : va_W := [(h, .inr (2, [.ref (a 0), .ref (a 1), .ref (a 2), .ref (a 3), .ref (a 4), .ref (a 5), .ref (a 6), .ref (a 7), .ref (a 8), .ref (a 9), .ref (a 10), .int 0])), (a 0, .inl (cI, 80, .inl (fun _ => 0))), (a 1, .inl (cI, 80, .inl (fun _ => 0))), (a 2, .inl (cI, 80, .inl (fun _ => 0))), (a 3, .inl (cI, 80, .inl (fun _ => 0))), (a 4, .inl (cZ, 80, .inl (fun _ => 0))), (a 5, .inl (cI, 80, .inl (fun _ => 0))), (a 6, .inl (cI, 80, .inl (fun _ => 0))), (a 7, .inl (cI, 80, .inl (fun _ => 0))), (a 8, .inl (cI, 80, .inl (fun _ => 0))), (a 9, .inl (cZ, 80, .inl (fun _ => 0))), (a 10, .inl (cI, 80, .inl (fun _ => 0)))]
set_option maxHeartbeats 4000000 in
set_option maxRecDepth 100000 in
theorem c_X2_init (l : Launch) (D : va_G) (cI cZ : ClassId) (gs : Nat → Nat) (h0 sz : Nat) : Met l yX2_init (wm yX2_init cX2_init 1 2) { frames := 1, cells := 11, slots := 880, locals := 12 } (va_Pc [.ref h0] (iPre D cI cZ gs (va_A (w0_X2 h0) sz) (w0_X2 h0) sz)) (iQ D (va_A (w0_X2 h0) sz) (w1_X2 cI cZ h0)) 11 880 (va_A (w0_X2 h0) sz) := by
  refine Met.ofW (cc := cX2_init) (maxL := 1) (ret := rety 2) (by decide) rfl ?_
  intro p e s m args below meth c s₁ B hml hv
  obtain ⟨rfl, hsz, hP, hK, hN, hst, hD0⟩ := hv
  have hx := B.exec
  have hb := B.bytes
  have hr := B.returns
  have hts := atoms_spec (ws := wm yX2_init cX2_init 1 2) B.pre
  have hts2 : ∀ w ∈ wA, w.before _ s = true := fun w hw => hts w (List.mem_cons_of_mem _ hw)
  have hown : s.vm.findClass RX2 = some m.cls := findClass_of_methodNamed B.named
  have hlocks := B.notSynchronized
  have hin : meth.name = "<init>" := (name_of_methodNamed B.named B.method).1
  subst hsz
  have hD := hD0.self (sz := s.heap.size)
  generalize hAe : va_A (w0_X2 h0) s.heap.size = A at hD hst ⊢
  have hA : ∀ q : Nat, s.heap.size ≤ q → A q := fun q h => by rw [← hAe]; exact Or.inr h
  have hS : va_S A s.heap s.heap [] := va_S.rf
  have hl := lv_entry ([.ref h0]) (n := 1) (Nat.le_of_ble_eq_true rfl)
  rw [lg_entry_eq]
  generalize (lg_sl ([.ref h0]) ++ List.replicate (1 - (lg_sl ([.ref h0])).length) Slot.unset).toArray = ls at hl ⊢
  have hl : lv_has ls 1 [(0, .ref h0)] := hl
  refine lv_aload_n hx hb dX2_init_0 rfl (lv_at hl 0 rfl) ?_
  refine W.objInit hx hb hown (hts2 _ ko_X2) (hts2 _ ko_i) (hts2 _ ko_c) rfl (by rw [hml]; exact hl.1) rfl dX2_init_1 (Nat.le_of_ble_eq_true rfl) (Nat.le_of_ble_eq_true rfl) ?_
  refine W.eq (g2 := F0 m 4 ls []) rfl ?_
  refine xn_group false (cA := cI) (v := 80) (n := 80) (pc1 := 7) hx hb hown hin hK hA rfl (fun w hw => hts2 w (iw_X2 w hw)) (hts2 _ ka_int) (hK.2 0 _ rfl).2 (lv_at hl 0 rfl) hP hD hS 0 (by decide) (Nat.le_of_ble_eq_true rfl) rfl rfl (by decide +kernel) (hts2 _ kf_X2_9) dX2_init_4 (fun st k => lv_bipush hx hb dX2_init_5 (by decide) k) dX2_init_7 dX2_init_9 (by decide) (by decide) (by decide) (Nat.le_of_ble_eq_true rfl) (Nat.le_of_ble_eq_true rfl) (fun q0 H0 locs0 hP0 hD0 hS0 => ?_)
  clear hP hD hS
  have hP : va_P D vwCl [(h0, .inr (2, [.ref q0, .null, .null, .null, .null, .null, .null, .null, .null, .null, .null, .int 0])), (q0, .inl (cI, 80, .inl (fun _ => 0)))] H0 := hP0
  have hD : va_D A [(h0, .inr (2, [.ref q0, .null, .null, .null, .null, .null, .null, .null, .null, .null, .null, .int 0])), (q0, .inl (cI, 80, .inl (fun _ => 0)))] := hD0
  have hS : va_S A s.heap H0 locs0 := hS0
  clear hP0 hD0 hS0
  refine xn_group false (cA := cI) (v := 80) (n := 80) (pc1 := 15) hx hb hown hin hK hA rfl (fun w hw => hts2 w (iw_X2 w hw)) (hts2 _ ka_int) (hK.2 0 _ rfl).2 (lv_at hl 0 rfl) hP hD hS 1 (by decide) (Nat.le_of_ble_eq_true rfl) rfl rfl (by decide +kernel) (hts2 _ kf_X2_15) dX2_init_12 (fun st k => lv_bipush hx hb dX2_init_13 (by decide) k) dX2_init_15 dX2_init_17 (by decide) (by decide) (by decide) (Nat.le_of_ble_eq_true rfl) (Nat.le_of_ble_eq_true rfl) (fun q1 H1 locs1 hP1 hD1 hS1 => ?_)
  clear hP hD hS
  have hP : va_P D vwCl [(h0, .inr (2, [.ref q0, .ref q1, .null, .null, .null, .null, .null, .null, .null, .null, .null, .int 0])), (q0, .inl (cI, 80, .inl (fun _ => 0))), (q1, .inl (cI, 80, .inl (fun _ => 0)))] H1 := hP1
  have hD : va_D A [(h0, .inr (2, [.ref q0, .ref q1, .null, .null, .null, .null, .null, .null, .null, .null, .null, .int 0])), (q0, .inl (cI, 80, .inl (fun _ => 0))), (q1, .inl (cI, 80, .inl (fun _ => 0)))] := hD1
  have hS : va_S A s.heap H1 locs1 := hS1
  clear hP1 hD1 hS1
  refine xn_group false (cA := cI) (v := 80) (n := 80) (pc1 := 23) hx hb hown hin hK hA rfl (fun w hw => hts2 w (iw_X2 w hw)) (hts2 _ ka_int) (hK.2 0 _ rfl).2 (lv_at hl 0 rfl) hP hD hS 2 (by decide) (Nat.le_of_ble_eq_true rfl) rfl rfl (by decide +kernel) (hts2 _ kf_X2_18) dX2_init_20 (fun st k => lv_bipush hx hb dX2_init_21 (by decide) k) dX2_init_23 dX2_init_25 (by decide) (by decide) (by decide) (Nat.le_of_ble_eq_true rfl) (Nat.le_of_ble_eq_true rfl) (fun q2 H2 locs2 hP2 hD2 hS2 => ?_)
  clear hP hD hS
  have hP : va_P D vwCl [(h0, .inr (2, [.ref q0, .ref q1, .ref q2, .null, .null, .null, .null, .null, .null, .null, .null, .int 0])), (q0, .inl (cI, 80, .inl (fun _ => 0))), (q1, .inl (cI, 80, .inl (fun _ => 0))), (q2, .inl (cI, 80, .inl (fun _ => 0)))] H2 := hP2
  have hD : va_D A [(h0, .inr (2, [.ref q0, .ref q1, .ref q2, .null, .null, .null, .null, .null, .null, .null, .null, .int 0])), (q0, .inl (cI, 80, .inl (fun _ => 0))), (q1, .inl (cI, 80, .inl (fun _ => 0))), (q2, .inl (cI, 80, .inl (fun _ => 0)))] := hD2
  have hS : va_S A s.heap H2 locs2 := hS2
  clear hP2 hD2 hS2
  refine xn_group false (cA := cI) (v := 80) (n := 80) (pc1 := 31) hx hb hown hin hK hA rfl (fun w hw => hts2 w (iw_X2 w hw)) (hts2 _ ka_int) (hK.2 0 _ rfl).2 (lv_at hl 0 rfl) hP hD hS 3 (by decide) (Nat.le_of_ble_eq_true rfl) rfl rfl (by decide +kernel) (hts2 _ kf_X2_21) dX2_init_28 (fun st k => lv_bipush hx hb dX2_init_29 (by decide) k) dX2_init_31 dX2_init_33 (by decide) (by decide) (by decide) (Nat.le_of_ble_eq_true rfl) (Nat.le_of_ble_eq_true rfl) (fun q3 H3 locs3 hP3 hD3 hS3 => ?_)
  clear hP hD hS
  have hP : va_P D vwCl [(h0, .inr (2, [.ref q0, .ref q1, .ref q2, .ref q3, .null, .null, .null, .null, .null, .null, .null, .int 0])), (q0, .inl (cI, 80, .inl (fun _ => 0))), (q1, .inl (cI, 80, .inl (fun _ => 0))), (q2, .inl (cI, 80, .inl (fun _ => 0))), (q3, .inl (cI, 80, .inl (fun _ => 0)))] H3 := hP3
  have hD : va_D A [(h0, .inr (2, [.ref q0, .ref q1, .ref q2, .ref q3, .null, .null, .null, .null, .null, .null, .null, .int 0])), (q0, .inl (cI, 80, .inl (fun _ => 0))), (q1, .inl (cI, 80, .inl (fun _ => 0))), (q2, .inl (cI, 80, .inl (fun _ => 0))), (q3, .inl (cI, 80, .inl (fun _ => 0)))] := hD3
  have hS : va_S A s.heap H3 locs3 := hS3
  clear hP3 hD3 hS3
  refine xn_group true (cA := cZ) (v := 80) (n := 80) (pc1 := 39) hx hb hown hin hK hA rfl (fun w hw => hts2 w (iw_X2 w hw)) (hts2 _ ka_boolean) (hK.2 1 _ rfl).2 (lv_at hl 0 rfl) hP hD hS 4 (by decide) (Nat.le_of_ble_eq_true rfl) rfl rfl (by decide +kernel) (hts2 _ kf_X2_24) dX2_init_36 (fun st k => lv_bipush hx hb dX2_init_37 (by decide) k) dX2_init_39 dX2_init_41 (by decide) (by decide) (by decide) (Nat.le_of_ble_eq_true rfl) (Nat.le_of_ble_eq_true rfl) (fun q4 H4 locs4 hP4 hD4 hS4 => ?_)
  clear hP hD hS
  have hP : va_P D vwCl [(h0, .inr (2, [.ref q0, .ref q1, .ref q2, .ref q3, .ref q4, .null, .null, .null, .null, .null, .null, .int 0])), (q0, .inl (cI, 80, .inl (fun _ => 0))), (q1, .inl (cI, 80, .inl (fun _ => 0))), (q2, .inl (cI, 80, .inl (fun _ => 0))), (q3, .inl (cI, 80, .inl (fun _ => 0))), (q4, .inl (cZ, 80, .inl (fun _ => 0)))] H4 := hP4
  have hD : va_D A [(h0, .inr (2, [.ref q0, .ref q1, .ref q2, .ref q3, .ref q4, .null, .null, .null, .null, .null, .null, .int 0])), (q0, .inl (cI, 80, .inl (fun _ => 0))), (q1, .inl (cI, 80, .inl (fun _ => 0))), (q2, .inl (cI, 80, .inl (fun _ => 0))), (q3, .inl (cI, 80, .inl (fun _ => 0))), (q4, .inl (cZ, 80, .inl (fun _ => 0)))] := hD4
  have hS : va_S A s.heap H4 locs4 := hS4
  clear hP4 hD4 hS4
  refine xn_group false (cA := cI) (v := 80) (n := 80) (pc1 := 47) hx hb hown hin hK hA rfl (fun w hw => hts2 w (iw_X2 w hw)) (hts2 _ ka_int) (hK.2 0 _ rfl).2 (lv_at hl 0 rfl) hP hD hS 5 (by decide) (Nat.le_of_ble_eq_true rfl) rfl rfl (by decide +kernel) (hts2 _ kf_X2_28) dX2_init_44 (fun st k => lv_bipush hx hb dX2_init_45 (by decide) k) dX2_init_47 dX2_init_49 (by decide) (by decide) (by decide) (Nat.le_of_ble_eq_true rfl) (Nat.le_of_ble_eq_true rfl) (fun q5 H5 locs5 hP5 hD5 hS5 => ?_)
  clear hP hD hS
  have hP : va_P D vwCl [(h0, .inr (2, [.ref q0, .ref q1, .ref q2, .ref q3, .ref q4, .ref q5, .null, .null, .null, .null, .null, .int 0])), (q0, .inl (cI, 80, .inl (fun _ => 0))), (q1, .inl (cI, 80, .inl (fun _ => 0))), (q2, .inl (cI, 80, .inl (fun _ => 0))), (q3, .inl (cI, 80, .inl (fun _ => 0))), (q4, .inl (cZ, 80, .inl (fun _ => 0))), (q5, .inl (cI, 80, .inl (fun _ => 0)))] H5 := hP5
  have hD : va_D A [(h0, .inr (2, [.ref q0, .ref q1, .ref q2, .ref q3, .ref q4, .ref q5, .null, .null, .null, .null, .null, .int 0])), (q0, .inl (cI, 80, .inl (fun _ => 0))), (q1, .inl (cI, 80, .inl (fun _ => 0))), (q2, .inl (cI, 80, .inl (fun _ => 0))), (q3, .inl (cI, 80, .inl (fun _ => 0))), (q4, .inl (cZ, 80, .inl (fun _ => 0))), (q5, .inl (cI, 80, .inl (fun _ => 0)))] := hD5
  have hS : va_S A s.heap H5 locs5 := hS5
  clear hP5 hD5 hS5
  refine xn_group false (cA := cI) (v := 80) (n := 80) (pc1 := 55) hx hb hown hin hK hA rfl (fun w hw => hts2 w (iw_X2 w hw)) (hts2 _ ka_int) (hK.2 0 _ rfl).2 (lv_at hl 0 rfl) hP hD hS 6 (by decide) (Nat.le_of_ble_eq_true rfl) rfl rfl (by decide +kernel) (hts2 _ kf_X2_31) dX2_init_52 (fun st k => lv_bipush hx hb dX2_init_53 (by decide) k) dX2_init_55 dX2_init_57 (by decide) (by decide) (by decide) (Nat.le_of_ble_eq_true rfl) (Nat.le_of_ble_eq_true rfl) (fun q6 H6 locs6 hP6 hD6 hS6 => ?_)
  clear hP hD hS
  have hP : va_P D vwCl [(h0, .inr (2, [.ref q0, .ref q1, .ref q2, .ref q3, .ref q4, .ref q5, .ref q6, .null, .null, .null, .null, .int 0])), (q0, .inl (cI, 80, .inl (fun _ => 0))), (q1, .inl (cI, 80, .inl (fun _ => 0))), (q2, .inl (cI, 80, .inl (fun _ => 0))), (q3, .inl (cI, 80, .inl (fun _ => 0))), (q4, .inl (cZ, 80, .inl (fun _ => 0))), (q5, .inl (cI, 80, .inl (fun _ => 0))), (q6, .inl (cI, 80, .inl (fun _ => 0)))] H6 := hP6
  have hD : va_D A [(h0, .inr (2, [.ref q0, .ref q1, .ref q2, .ref q3, .ref q4, .ref q5, .ref q6, .null, .null, .null, .null, .int 0])), (q0, .inl (cI, 80, .inl (fun _ => 0))), (q1, .inl (cI, 80, .inl (fun _ => 0))), (q2, .inl (cI, 80, .inl (fun _ => 0))), (q3, .inl (cI, 80, .inl (fun _ => 0))), (q4, .inl (cZ, 80, .inl (fun _ => 0))), (q5, .inl (cI, 80, .inl (fun _ => 0))), (q6, .inl (cI, 80, .inl (fun _ => 0)))] := hD6
  have hS : va_S A s.heap H6 locs6 := hS6
  clear hP6 hD6 hS6
  refine xn_group false (cA := cI) (v := 80) (n := 80) (pc1 := 63) hx hb hown hin hK hA rfl (fun w hw => hts2 w (iw_X2 w hw)) (hts2 _ ka_int) (hK.2 0 _ rfl).2 (lv_at hl 0 rfl) hP hD hS 7 (by decide) (Nat.le_of_ble_eq_true rfl) rfl rfl (by decide +kernel) (hts2 _ kf_X2_34) dX2_init_60 (fun st k => lv_bipush hx hb dX2_init_61 (by decide) k) dX2_init_63 dX2_init_65 (by decide) (by decide) (by decide) (Nat.le_of_ble_eq_true rfl) (Nat.le_of_ble_eq_true rfl) (fun q7 H7 locs7 hP7 hD7 hS7 => ?_)
  clear hP hD hS
  have hP : va_P D vwCl [(h0, .inr (2, [.ref q0, .ref q1, .ref q2, .ref q3, .ref q4, .ref q5, .ref q6, .ref q7, .null, .null, .null, .int 0])), (q0, .inl (cI, 80, .inl (fun _ => 0))), (q1, .inl (cI, 80, .inl (fun _ => 0))), (q2, .inl (cI, 80, .inl (fun _ => 0))), (q3, .inl (cI, 80, .inl (fun _ => 0))), (q4, .inl (cZ, 80, .inl (fun _ => 0))), (q5, .inl (cI, 80, .inl (fun _ => 0))), (q6, .inl (cI, 80, .inl (fun _ => 0))), (q7, .inl (cI, 80, .inl (fun _ => 0)))] H7 := hP7
  have hD : va_D A [(h0, .inr (2, [.ref q0, .ref q1, .ref q2, .ref q3, .ref q4, .ref q5, .ref q6, .ref q7, .null, .null, .null, .int 0])), (q0, .inl (cI, 80, .inl (fun _ => 0))), (q1, .inl (cI, 80, .inl (fun _ => 0))), (q2, .inl (cI, 80, .inl (fun _ => 0))), (q3, .inl (cI, 80, .inl (fun _ => 0))), (q4, .inl (cZ, 80, .inl (fun _ => 0))), (q5, .inl (cI, 80, .inl (fun _ => 0))), (q6, .inl (cI, 80, .inl (fun _ => 0))), (q7, .inl (cI, 80, .inl (fun _ => 0)))] := hD7
  have hS : va_S A s.heap H7 locs7 := hS7
  clear hP7 hD7 hS7
  refine xn_group false (cA := cI) (v := 80) (n := 80) (pc1 := 71) hx hb hown hin hK hA rfl (fun w hw => hts2 w (iw_X2 w hw)) (hts2 _ ka_int) (hK.2 0 _ rfl).2 (lv_at hl 0 rfl) hP hD hS 8 (by decide) (Nat.le_of_ble_eq_true rfl) rfl rfl (by decide +kernel) (hts2 _ kf_X2_37) dX2_init_68 (fun st k => lv_bipush hx hb dX2_init_69 (by decide) k) dX2_init_71 dX2_init_73 (by decide) (by decide) (by decide) (Nat.le_of_ble_eq_true rfl) (Nat.le_of_ble_eq_true rfl) (fun q8 H8 locs8 hP8 hD8 hS8 => ?_)
  clear hP hD hS
  have hP : va_P D vwCl [(h0, .inr (2, [.ref q0, .ref q1, .ref q2, .ref q3, .ref q4, .ref q5, .ref q6, .ref q7, .ref q8, .null, .null, .int 0])), (q0, .inl (cI, 80, .inl (fun _ => 0))), (q1, .inl (cI, 80, .inl (fun _ => 0))), (q2, .inl (cI, 80, .inl (fun _ => 0))), (q3, .inl (cI, 80, .inl (fun _ => 0))), (q4, .inl (cZ, 80, .inl (fun _ => 0))), (q5, .inl (cI, 80, .inl (fun _ => 0))), (q6, .inl (cI, 80, .inl (fun _ => 0))), (q7, .inl (cI, 80, .inl (fun _ => 0))), (q8, .inl (cI, 80, .inl (fun _ => 0)))] H8 := hP8
  have hD : va_D A [(h0, .inr (2, [.ref q0, .ref q1, .ref q2, .ref q3, .ref q4, .ref q5, .ref q6, .ref q7, .ref q8, .null, .null, .int 0])), (q0, .inl (cI, 80, .inl (fun _ => 0))), (q1, .inl (cI, 80, .inl (fun _ => 0))), (q2, .inl (cI, 80, .inl (fun _ => 0))), (q3, .inl (cI, 80, .inl (fun _ => 0))), (q4, .inl (cZ, 80, .inl (fun _ => 0))), (q5, .inl (cI, 80, .inl (fun _ => 0))), (q6, .inl (cI, 80, .inl (fun _ => 0))), (q7, .inl (cI, 80, .inl (fun _ => 0))), (q8, .inl (cI, 80, .inl (fun _ => 0)))] := hD8
  have hS : va_S A s.heap H8 locs8 := hS8
  clear hP8 hD8 hS8
  refine xn_group true (cA := cZ) (v := 80) (n := 80) (pc1 := 79) hx hb hown hin hK hA rfl (fun w hw => hts2 w (iw_X2 w hw)) (hts2 _ ka_boolean) (hK.2 1 _ rfl).2 (lv_at hl 0 rfl) hP hD hS 9 (by decide) (Nat.le_of_ble_eq_true rfl) rfl rfl (by decide +kernel) (hts2 _ kf_X2_40) dX2_init_76 (fun st k => lv_bipush hx hb dX2_init_77 (by decide) k) dX2_init_79 dX2_init_81 (by decide) (by decide) (by decide) (Nat.le_of_ble_eq_true rfl) (Nat.le_of_ble_eq_true rfl) (fun q9 H9 locs9 hP9 hD9 hS9 => ?_)
  clear hP hD hS
  have hP : va_P D vwCl [(h0, .inr (2, [.ref q0, .ref q1, .ref q2, .ref q3, .ref q4, .ref q5, .ref q6, .ref q7, .ref q8, .ref q9, .null, .int 0])), (q0, .inl (cI, 80, .inl (fun _ => 0))), (q1, .inl (cI, 80, .inl (fun _ => 0))), (q2, .inl (cI, 80, .inl (fun _ => 0))), (q3, .inl (cI, 80, .inl (fun _ => 0))), (q4, .inl (cZ, 80, .inl (fun _ => 0))), (q5, .inl (cI, 80, .inl (fun _ => 0))), (q6, .inl (cI, 80, .inl (fun _ => 0))), (q7, .inl (cI, 80, .inl (fun _ => 0))), (q8, .inl (cI, 80, .inl (fun _ => 0))), (q9, .inl (cZ, 80, .inl (fun _ => 0)))] H9 := hP9
  have hD : va_D A [(h0, .inr (2, [.ref q0, .ref q1, .ref q2, .ref q3, .ref q4, .ref q5, .ref q6, .ref q7, .ref q8, .ref q9, .null, .int 0])), (q0, .inl (cI, 80, .inl (fun _ => 0))), (q1, .inl (cI, 80, .inl (fun _ => 0))), (q2, .inl (cI, 80, .inl (fun _ => 0))), (q3, .inl (cI, 80, .inl (fun _ => 0))), (q4, .inl (cZ, 80, .inl (fun _ => 0))), (q5, .inl (cI, 80, .inl (fun _ => 0))), (q6, .inl (cI, 80, .inl (fun _ => 0))), (q7, .inl (cI, 80, .inl (fun _ => 0))), (q8, .inl (cI, 80, .inl (fun _ => 0))), (q9, .inl (cZ, 80, .inl (fun _ => 0)))] := hD9
  have hS : va_S A s.heap H9 locs9 := hS9
  clear hP9 hD9 hS9
  refine xn_group false (cA := cI) (v := 80) (n := 80) (pc1 := 87) hx hb hown hin hK hA rfl (fun w hw => hts2 w (iw_X2 w hw)) (hts2 _ ka_int) (hK.2 0 _ rfl).2 (lv_at hl 0 rfl) hP hD hS 10 (by decide) (Nat.le_of_ble_eq_true rfl) rfl rfl (by decide +kernel) (hts2 _ kf_X2_43) dX2_init_84 (fun st k => lv_bipush hx hb dX2_init_85 (by decide) k) dX2_init_87 dX2_init_89 (by decide) (by decide) (by decide) (Nat.le_of_ble_eq_true rfl) (Nat.le_of_ble_eq_true rfl) (fun q10 H10 locs10 hP10 hD10 hS10 => ?_)
  clear hP hD hS
  have hP : va_P D vwCl [(h0, .inr (2, [.ref q0, .ref q1, .ref q2, .ref q3, .ref q4, .ref q5, .ref q6, .ref q7, .ref q8, .ref q9, .ref q10, .int 0])), (q0, .inl (cI, 80, .inl (fun _ => 0))), (q1, .inl (cI, 80, .inl (fun _ => 0))), (q2, .inl (cI, 80, .inl (fun _ => 0))), (q3, .inl (cI, 80, .inl (fun _ => 0))), (q4, .inl (cZ, 80, .inl (fun _ => 0))), (q5, .inl (cI, 80, .inl (fun _ => 0))), (q6, .inl (cI, 80, .inl (fun _ => 0))), (q7, .inl (cI, 80, .inl (fun _ => 0))), (q8, .inl (cI, 80, .inl (fun _ => 0))), (q9, .inl (cZ, 80, .inl (fun _ => 0))), (q10, .inl (cI, 80, .inl (fun _ => 0)))] H10 := hP10
  have hD : va_D A [(h0, .inr (2, [.ref q0, .ref q1, .ref q2, .ref q3, .ref q4, .ref q5, .ref q6, .ref q7, .ref q8, .ref q9, .ref q10, .int 0])), (q0, .inl (cI, 80, .inl (fun _ => 0))), (q1, .inl (cI, 80, .inl (fun _ => 0))), (q2, .inl (cI, 80, .inl (fun _ => 0))), (q3, .inl (cI, 80, .inl (fun _ => 0))), (q4, .inl (cZ, 80, .inl (fun _ => 0))), (q5, .inl (cI, 80, .inl (fun _ => 0))), (q6, .inl (cI, 80, .inl (fun _ => 0))), (q7, .inl (cI, 80, .inl (fun _ => 0))), (q8, .inl (cI, 80, .inl (fun _ => 0))), (q9, .inl (cZ, 80, .inl (fun _ => 0))), (q10, .inl (cI, 80, .inl (fun _ => 0)))] := hD10
  have hS : va_S A s.heap H10 locs10 := hS10
  clear hP10 hD10 hS10
  refine W.widen (k := 11) (n := 880) (Nat.le_of_ble_eq_true rfl) (Nat.le_of_ble_eq_true rfl) ?_
  exact W.vret hx hb hr (fun t ht hW => ⟨⟨(fun k => [q0, q1, q2, q3, q4, q5, q6, q7, q8, q9, q10].getD k 0), rfl, trivial, by rw [ht]; exact hP, hD⟩, hS.F ht⟩) hS.2.2 dX2_init_92
theorem dX3_init_0 : decode cX3_init 0 = .ok (.aload_n 0, 1) := by decide +kernel
theorem dX3_init_1 : decode cX3_init 1 = .ok (.invokespecial 3, 3) := by decide +kernel
theorem dX3_init_4 : decode cX3_init 4 = .ok (.aload_n 0, 1) := by decide +kernel
theorem dX3_init_5 : decode cX3_init 5 = .ok (.sipush 170, 3) := by decide +kernel
theorem dX3_init_8 : decode cX3_init 8 = .ok (.newarray .int, 2) := by decide +kernel
theorem dX3_init_10 : decode cX3_init 10 = .ok (.putfield 11, 3) := by decide +kernel
theorem dX3_init_13 : decode cX3_init 13 = .ok (.aload_n 0, 1) := by decide +kernel
theorem dX3_init_14 : decode cX3_init 14 = .ok (.sipush 170, 3) := by decide +kernel
theorem dX3_init_17 : decode cX3_init 17 = .ok (.newarray .int, 2) := by decide +kernel
theorem dX3_init_19 : decode cX3_init 19 = .ok (.putfield 15, 3) := by decide +kernel
theorem dX3_init_22 : decode cX3_init 22 = .ok (.aload_n 0, 1) := by decide +kernel
theorem dX3_init_23 : decode cX3_init 23 = .ok (.sipush 170, 3) := by decide +kernel
theorem dX3_init_26 : decode cX3_init 26 = .ok (.newarray .int, 2) := by decide +kernel
theorem dX3_init_28 : decode cX3_init 28 = .ok (.putfield 18, 3) := by decide +kernel
theorem dX3_init_31 : decode cX3_init 31 = .ok (.aload_n 0, 1) := by decide +kernel
theorem dX3_init_32 : decode cX3_init 32 = .ok (.bipush 10, 2) := by decide +kernel
theorem dX3_init_34 : decode cX3_init 34 = .ok (.newarray .int, 2) := by decide +kernel
theorem dX3_init_36 : decode cX3_init 36 = .ok (.putfield 23, 3) := by decide +kernel
theorem dX3_init_39 : decode cX3_init 39 = .ok (.return_, 1) := by decide +kernel
abbrev w0_X3 (h : Nat) : va_W := [(h, .inr (3, [.null, .null, .null, .null, .int 0, .int 0]))]
abbrev w1_X3 (cI cZ : ClassId) (h : Nat) (a : Nat → Nat) : va_W := [(h, .inr (3, [.ref (a 0), .ref (a 1), .ref (a 2), .ref (a 3), .int 0, .int 0])), (a 0, .inl (cI, 170, .inl (fun _ => 0))), (a 1, .inl (cI, 170, .inl (fun _ => 0))), (a 2, .inl (cI, 170, .inl (fun _ => 0))), (a 3, .inl (cI, 10, .inl (fun _ => 0)))]
set_option maxHeartbeats 4000000 in
set_option maxRecDepth 100000 in
theorem c_X3_init (l : Launch) (D : va_G) (cI cZ : ClassId) (gs : Nat → Nat) (h0 sz : Nat) : Met l yX3_init (wm yX3_init cX3_init 1 2) { frames := 1, cells := 4, slots := 520, locals := 12 } (va_Pc [.ref h0] (iPre D cI cZ gs (va_A (w0_X3 h0) sz) (w0_X3 h0) sz)) (iQ D (va_A (w0_X3 h0) sz) (w1_X3 cI cZ h0)) 4 520 (va_A (w0_X3 h0) sz) := by
  refine Met.ofW (cc := cX3_init) (maxL := 1) (ret := rety 2) (by decide) rfl ?_
  intro p e s m args below meth c s₁ B hml hv
  obtain ⟨rfl, hsz, hP, hK, hN, hst, hD0⟩ := hv
  have hx := B.exec
  have hb := B.bytes
  have hr := B.returns
  have hts := atoms_spec (ws := wm yX3_init cX3_init 1 2) B.pre
  have hts2 : ∀ w ∈ wA, w.before _ s = true := fun w hw => hts w (List.mem_cons_of_mem _ hw)
  have hown : s.vm.findClass RX3 = some m.cls := findClass_of_methodNamed B.named
  have hlocks := B.notSynchronized
  have hin : meth.name = "<init>" := (name_of_methodNamed B.named B.method).1
  subst hsz
  have hD := hD0.self (sz := s.heap.size)
  generalize hAe : va_A (w0_X3 h0) s.heap.size = A at hD hst ⊢
  have hA : ∀ q : Nat, s.heap.size ≤ q → A q := fun q h => by rw [← hAe]; exact Or.inr h
  have hS : va_S A s.heap s.heap [] := va_S.rf
  have hl := lv_entry ([.ref h0]) (n := 1) (Nat.le_of_ble_eq_true rfl)
  rw [lg_entry_eq]
  generalize (lg_sl ([.ref h0]) ++ List.replicate (1 - (lg_sl ([.ref h0])).length) Slot.unset).toArray = ls at hl ⊢
  have hl : lv_has ls 1 [(0, .ref h0)] := hl
  refine lv_aload_n hx hb dX3_init_0 rfl (lv_at hl 0 rfl) ?_
  refine W.objInit hx hb hown (hts2 _ ko_X3) (hts2 _ ko_i) (hts2 _ ko_c) rfl (by rw [hml]; exact hl.1) rfl dX3_init_1 (Nat.le_of_ble_eq_true rfl) (Nat.le_of_ble_eq_true rfl) ?_
  refine W.eq (g2 := F0 m 4 ls []) rfl ?_
  refine xn_group false (cA := cI) (v := 170) (n := 170) (pc1 := 8) hx hb hown hin hK hA rfl (fun w hw => hts2 w (iw_X3 w hw)) (hts2 _ ka_int) (hK.2 0 _ rfl).2 (lv_at hl 0 rfl) hP hD hS 0 (by decide) (Nat.le_of_ble_eq_true rfl) rfl rfl (by decide +kernel) (hts2 _ kf_X3_11) dX3_init_4 (fun st k => lv_sipush hx hb dX3_init_5 (by decide) k) dX3_init_8 dX3_init_10 (by decide) (by decide) (by decide) (Nat.le_of_ble_eq_true rfl) (Nat.le_of_ble_eq_true rfl) (fun q0 H0 locs0 hP0 hD0 hS0 => ?_)
  clear hP hD hS
  have hP : va_P D vwCl [(h0, .inr (3, [.ref q0, .null, .null, .null, .int 0, .int 0])), (q0, .inl (cI, 170, .inl (fun _ => 0)))] H0 := hP0
  have hD : va_D A [(h0, .inr (3, [.ref q0, .null, .null, .null, .int 0, .int 0])), (q0, .inl (cI, 170, .inl (fun _ => 0)))] := hD0
  have hS : va_S A s.heap H0 locs0 := hS0
  clear hP0 hD0 hS0
  refine xn_group false (cA := cI) (v := 170) (n := 170) (pc1 := 17) hx hb hown hin hK hA rfl (fun w hw => hts2 w (iw_X3 w hw)) (hts2 _ ka_int) (hK.2 0 _ rfl).2 (lv_at hl 0 rfl) hP hD hS 1 (by decide) (Nat.le_of_ble_eq_true rfl) rfl rfl (by decide +kernel) (hts2 _ kf_X3_15) dX3_init_13 (fun st k => lv_sipush hx hb dX3_init_14 (by decide) k) dX3_init_17 dX3_init_19 (by decide) (by decide) (by decide) (Nat.le_of_ble_eq_true rfl) (Nat.le_of_ble_eq_true rfl) (fun q1 H1 locs1 hP1 hD1 hS1 => ?_)
  clear hP hD hS
  have hP : va_P D vwCl [(h0, .inr (3, [.ref q0, .ref q1, .null, .null, .int 0, .int 0])), (q0, .inl (cI, 170, .inl (fun _ => 0))), (q1, .inl (cI, 170, .inl (fun _ => 0)))] H1 := hP1
  have hD : va_D A [(h0, .inr (3, [.ref q0, .ref q1, .null, .null, .int 0, .int 0])), (q0, .inl (cI, 170, .inl (fun _ => 0))), (q1, .inl (cI, 170, .inl (fun _ => 0)))] := hD1
  have hS : va_S A s.heap H1 locs1 := hS1
  clear hP1 hD1 hS1
  refine xn_group false (cA := cI) (v := 170) (n := 170) (pc1 := 26) hx hb hown hin hK hA rfl (fun w hw => hts2 w (iw_X3 w hw)) (hts2 _ ka_int) (hK.2 0 _ rfl).2 (lv_at hl 0 rfl) hP hD hS 2 (by decide) (Nat.le_of_ble_eq_true rfl) rfl rfl (by decide +kernel) (hts2 _ kf_X3_18) dX3_init_22 (fun st k => lv_sipush hx hb dX3_init_23 (by decide) k) dX3_init_26 dX3_init_28 (by decide) (by decide) (by decide) (Nat.le_of_ble_eq_true rfl) (Nat.le_of_ble_eq_true rfl) (fun q2 H2 locs2 hP2 hD2 hS2 => ?_)
  clear hP hD hS
  have hP : va_P D vwCl [(h0, .inr (3, [.ref q0, .ref q1, .ref q2, .null, .int 0, .int 0])), (q0, .inl (cI, 170, .inl (fun _ => 0))), (q1, .inl (cI, 170, .inl (fun _ => 0))), (q2, .inl (cI, 170, .inl (fun _ => 0)))] H2 := hP2
  have hD : va_D A [(h0, .inr (3, [.ref q0, .ref q1, .ref q2, .null, .int 0, .int 0])), (q0, .inl (cI, 170, .inl (fun _ => 0))), (q1, .inl (cI, 170, .inl (fun _ => 0))), (q2, .inl (cI, 170, .inl (fun _ => 0)))] := hD2
  have hS : va_S A s.heap H2 locs2 := hS2
  clear hP2 hD2 hS2
  refine xn_group false (cA := cI) (v := 10) (n := 10) (pc1 := 34) hx hb hown hin hK hA rfl (fun w hw => hts2 w (iw_X3 w hw)) (hts2 _ ka_int) (hK.2 0 _ rfl).2 (lv_at hl 0 rfl) hP hD hS 3 (by decide) (Nat.le_of_ble_eq_true rfl) rfl rfl (by decide +kernel) (hts2 _ kf_X3_23) dX3_init_31 (fun st k => lv_bipush hx hb dX3_init_32 (by decide) k) dX3_init_34 dX3_init_36 (by decide) (by decide) (by decide) (Nat.le_of_ble_eq_true rfl) (Nat.le_of_ble_eq_true rfl) (fun q3 H3 locs3 hP3 hD3 hS3 => ?_)
  clear hP hD hS
  have hP : va_P D vwCl [(h0, .inr (3, [.ref q0, .ref q1, .ref q2, .ref q3, .int 0, .int 0])), (q0, .inl (cI, 170, .inl (fun _ => 0))), (q1, .inl (cI, 170, .inl (fun _ => 0))), (q2, .inl (cI, 170, .inl (fun _ => 0))), (q3, .inl (cI, 10, .inl (fun _ => 0)))] H3 := hP3
  have hD : va_D A [(h0, .inr (3, [.ref q0, .ref q1, .ref q2, .ref q3, .int 0, .int 0])), (q0, .inl (cI, 170, .inl (fun _ => 0))), (q1, .inl (cI, 170, .inl (fun _ => 0))), (q2, .inl (cI, 170, .inl (fun _ => 0))), (q3, .inl (cI, 10, .inl (fun _ => 0)))] := hD3
  have hS : va_S A s.heap H3 locs3 := hS3
  clear hP3 hD3 hS3
  refine W.widen (k := 4) (n := 520) (Nat.le_of_ble_eq_true rfl) (Nat.le_of_ble_eq_true rfl) ?_
  exact W.vret hx hb hr (fun t ht hW => ⟨⟨(fun k => [q0, q1, q2, q3].getD k 0), rfl, trivial, by rw [ht]; exact hP, hD⟩, hS.F ht⟩) hS.2.2 dX3_init_39
theorem dX4_init_0 : decode cX4_init 0 = .ok (.aload_n 0, 1) := by decide +kernel
theorem dX4_init_1 : decode cX4_init 1 = .ok (.invokespecial 3, 3) := by decide +kernel
theorem dX4_init_4 : decode cX4_init 4 = .ok (.aload_n 0, 1) := by decide +kernel
theorem dX4_init_5 : decode cX4_init 5 = .ok (.bipush 10, 2) := by decide +kernel
theorem dX4_init_7 : decode cX4_init 7 = .ok (.newarray .int, 2) := by decide +kernel
theorem dX4_init_9 : decode cX4_init 9 = .ok (.putfield 9, 3) := by decide +kernel
theorem dX4_init_12 : decode cX4_init 12 = .ok (.aload_n 0, 1) := by decide +kernel
theorem dX4_init_13 : decode cX4_init 13 = .ok (.bipush 10, 2) := by decide +kernel
theorem dX4_init_15 : decode cX4_init 15 = .ok (.newarray .int, 2) := by decide +kernel
theorem dX4_init_17 : decode cX4_init 17 = .ok (.putfield 15, 3) := by decide +kernel
theorem dX4_init_20 : decode cX4_init 20 = .ok (.aload_n 0, 1) := by decide +kernel
theorem dX4_init_21 : decode cX4_init 21 = .ok (.bipush 10, 2) := by decide +kernel
theorem dX4_init_23 : decode cX4_init 23 = .ok (.newarray .int, 2) := by decide +kernel
theorem dX4_init_25 : decode cX4_init 25 = .ok (.putfield 18, 3) := by decide +kernel
theorem dX4_init_28 : decode cX4_init 28 = .ok (.aload_n 0, 1) := by decide +kernel
theorem dX4_init_29 : decode cX4_init 29 = .ok (.bipush 10, 2) := by decide +kernel
theorem dX4_init_31 : decode cX4_init 31 = .ok (.newarray .int, 2) := by decide +kernel
theorem dX4_init_33 : decode cX4_init 33 = .ok (.putfield 21, 3) := by decide +kernel
theorem dX4_init_36 : decode cX4_init 36 = .ok (.aload_n 0, 1) := by decide +kernel
theorem dX4_init_37 : decode cX4_init 37 = .ok (.bipush 10, 2) := by decide +kernel
theorem dX4_init_39 : decode cX4_init 39 = .ok (.newarray .int, 2) := by decide +kernel
theorem dX4_init_41 : decode cX4_init 41 = .ok (.putfield 24, 3) := by decide +kernel
theorem dX4_init_44 : decode cX4_init 44 = .ok (.aload_n 0, 1) := by decide +kernel
theorem dX4_init_45 : decode cX4_init 45 = .ok (.bipush 10, 2) := by decide +kernel
theorem dX4_init_47 : decode cX4_init 47 = .ok (.newarray .int, 2) := by decide +kernel
theorem dX4_init_49 : decode cX4_init 49 = .ok (.putfield 27, 3) := by decide +kernel
theorem dX4_init_52 : decode cX4_init 52 = .ok (.return_, 1) := by decide +kernel
abbrev w0_X4 (h : Nat) : va_W := [(h, .inr (4, [.null, .null, .null, .null, .null, .null, .int 0]))]
abbrev w1_X4 (cI cZ : ClassId) (h : Nat) (a : Nat → Nat) : va_W := [(h, .inr (4, [.ref (a 0), .ref (a 1), .ref (a 2), .ref (a 3), .ref (a 4), .ref (a 5), .int 0])), (a 0, .inl (cI, 10, .inl (fun _ => 0))), (a 1, .inl (cI, 10, .inl (fun _ => 0))), (a 2, .inl (cI, 10, .inl (fun _ => 0))), (a 3, .inl (cI, 10, .inl (fun _ => 0))), (a 4, .inl (cI, 10, .inl (fun _ => 0))), (a 5, .inl (cI, 10, .inl (fun _ => 0)))]
set_option maxHeartbeats 4000000 in
set_option maxRecDepth 100000 in
theorem c_X4_init (l : Launch) (D : va_G) (cI cZ : ClassId) (gs : Nat → Nat) (h0 sz : Nat) : Met l yX4_init (wm yX4_init cX4_init 1 2) { frames := 1, cells := 6, slots := 60, locals := 12 } (va_Pc [.ref h0] (iPre D cI cZ gs (va_A (w0_X4 h0) sz) (w0_X4 h0) sz)) (iQ D (va_A (w0_X4 h0) sz) (w1_X4 cI cZ h0)) 6 60 (va_A (w0_X4 h0) sz) := by
  refine Met.ofW (cc := cX4_init) (maxL := 1) (ret := rety 2) (by decide) rfl ?_
  intro p e s m args below meth c s₁ B hml hv
  obtain ⟨rfl, hsz, hP, hK, hN, hst, hD0⟩ := hv
  have hx := B.exec
  have hb := B.bytes
  have hr := B.returns
  have hts := atoms_spec (ws := wm yX4_init cX4_init 1 2) B.pre
  have hts2 : ∀ w ∈ wA, w.before _ s = true := fun w hw => hts w (List.mem_cons_of_mem _ hw)
  have hown : s.vm.findClass RX4 = some m.cls := findClass_of_methodNamed B.named
  have hlocks := B.notSynchronized
  have hin : meth.name = "<init>" := (name_of_methodNamed B.named B.method).1
  subst hsz
  have hD := hD0.self (sz := s.heap.size)
  generalize hAe : va_A (w0_X4 h0) s.heap.size = A at hD hst ⊢
  have hA : ∀ q : Nat, s.heap.size ≤ q → A q := fun q h => by rw [← hAe]; exact Or.inr h
  have hS : va_S A s.heap s.heap [] := va_S.rf
  have hl := lv_entry ([.ref h0]) (n := 1) (Nat.le_of_ble_eq_true rfl)
  rw [lg_entry_eq]
  generalize (lg_sl ([.ref h0]) ++ List.replicate (1 - (lg_sl ([.ref h0])).length) Slot.unset).toArray = ls at hl ⊢
  have hl : lv_has ls 1 [(0, .ref h0)] := hl
  refine lv_aload_n hx hb dX4_init_0 rfl (lv_at hl 0 rfl) ?_
  refine W.objInit hx hb hown (hts2 _ ko_X4) (hts2 _ ko_i) (hts2 _ ko_c) rfl (by rw [hml]; exact hl.1) rfl dX4_init_1 (Nat.le_of_ble_eq_true rfl) (Nat.le_of_ble_eq_true rfl) ?_
  refine W.eq (g2 := F0 m 4 ls []) rfl ?_
  refine xn_group false (cA := cI) (v := 10) (n := 10) (pc1 := 7) hx hb hown hin hK hA rfl (fun w hw => hts2 w (iw_X4 w hw)) (hts2 _ ka_int) (hK.2 0 _ rfl).2 (lv_at hl 0 rfl) hP hD hS 0 (by decide) (Nat.le_of_ble_eq_true rfl) rfl rfl (by decide +kernel) (hts2 _ kf_X4_9) dX4_init_4 (fun st k => lv_bipush hx hb dX4_init_5 (by decide) k) dX4_init_7 dX4_init_9 (by decide) (by decide) (by decide) (Nat.le_of_ble_eq_true rfl) (Nat.le_of_ble_eq_true rfl) (fun q0 H0 locs0 hP0 hD0 hS0 => ?_)
  clear hP hD hS
  have hP : va_P D vwCl [(h0, .inr (4, [.ref q0, .null, .null, .null, .null, .null, .int 0])), (q0, .inl (cI, 10, .inl (fun _ => 0)))] H0 := hP0
  have hD : va_D A [(h0, .inr (4, [.ref q0, .null, .null, .null, .null, .null, .int 0])), (q0, .inl (cI, 10, .inl (fun _ => 0)))] := hD0
  have hS : va_S A s.heap H0 locs0 := hS0
  clear hP0 hD0 hS0
  refine xn_group false (cA := cI) (v := 10) (n := 10) (pc1 := 15) hx hb hown hin hK hA rfl (fun w hw => hts2 w (iw_X4 w hw)) (hts2 _ ka_int) (hK.2 0 _ rfl).2 (lv_at hl 0 rfl) hP hD hS 1 (by decide) (Nat.le_of_ble_eq_true rfl) rfl rfl (by decide +kernel) (hts2 _ kf_X4_15) dX4_init_12 (fun st k => lv_bipush hx hb dX4_init_13 (by decide) k) dX4_init_15 dX4_init_17 (by decide) (by decide) (by decide) (Nat.le_of_ble_eq_true rfl) (Nat.le_of_ble_eq_true rfl) (fun q1 H1 locs1 hP1 hD1 hS1 => ?_)
  clear hP hD hS
  have hP : va_P D vwCl [(h0, .inr (4, [.ref q0, .ref q1, .null, .null, .null, .null, .int 0])), (q0, .inl (cI, 10, .inl (fun _ => 0))), (q1, .inl (cI, 10, .inl (fun _ => 0)))] H1 := hP1
  have hD : va_D A [(h0, .inr (4, [.ref q0, .ref q1, .null, .null, .null, .null, .int 0])), (q0, .inl (cI, 10, .inl (fun _ => 0))), (q1, .inl (cI, 10, .inl (fun _ => 0)))] := hD1
  have hS : va_S A s.heap H1 locs1 := hS1
  clear hP1 hD1 hS1
  refine xn_group false (cA := cI) (v := 10) (n := 10) (pc1 := 23) hx hb hown hin hK hA rfl (fun w hw => hts2 w (iw_X4 w hw)) (hts2 _ ka_int) (hK.2 0 _ rfl).2 (lv_at hl 0 rfl) hP hD hS 2 (by decide) (Nat.le_of_ble_eq_true rfl) rfl rfl (by decide +kernel) (hts2 _ kf_X4_18) dX4_init_20 (fun st k => lv_bipush hx hb dX4_init_21 (by decide) k) dX4_init_23 dX4_init_25 (by decide) (by decide) (by decide) (Nat.le_of_ble_eq_true rfl) (Nat.le_of_ble_eq_true rfl) (fun q2 H2 locs2 hP2 hD2 hS2 => ?_)
  clear hP hD hS
  have hP : va_P D vwCl [(h0, .inr (4, [.ref q0, .ref q1, .ref q2, .null, .null, .null, .int 0])), (q0, .inl (cI, 10, .inl (fun _ => 0))), (q1, .inl (cI, 10, .inl (fun _ => 0))), (q2, .inl (cI, 10, .inl (fun _ => 0)))] H2 := hP2
  have hD : va_D A [(h0, .inr (4, [.ref q0, .ref q1, .ref q2, .null, .null, .null, .int 0])), (q0, .inl (cI, 10, .inl (fun _ => 0))), (q1, .inl (cI, 10, .inl (fun _ => 0))), (q2, .inl (cI, 10, .inl (fun _ => 0)))] := hD2
  have hS : va_S A s.heap H2 locs2 := hS2
  clear hP2 hD2 hS2
  refine xn_group false (cA := cI) (v := 10) (n := 10) (pc1 := 31) hx hb hown hin hK hA rfl (fun w hw => hts2 w (iw_X4 w hw)) (hts2 _ ka_int) (hK.2 0 _ rfl).2 (lv_at hl 0 rfl) hP hD hS 3 (by decide) (Nat.le_of_ble_eq_true rfl) rfl rfl (by decide +kernel) (hts2 _ kf_X4_21) dX4_init_28 (fun st k => lv_bipush hx hb dX4_init_29 (by decide) k) dX4_init_31 dX4_init_33 (by decide) (by decide) (by decide) (Nat.le_of_ble_eq_true rfl) (Nat.le_of_ble_eq_true rfl) (fun q3 H3 locs3 hP3 hD3 hS3 => ?_)
  clear hP hD hS
  have hP : va_P D vwCl [(h0, .inr (4, [.ref q0, .ref q1, .ref q2, .ref q3, .null, .null, .int 0])), (q0, .inl (cI, 10, .inl (fun _ => 0))), (q1, .inl (cI, 10, .inl (fun _ => 0))), (q2, .inl (cI, 10, .inl (fun _ => 0))), (q3, .inl (cI, 10, .inl (fun _ => 0)))] H3 := hP3
  have hD : va_D A [(h0, .inr (4, [.ref q0, .ref q1, .ref q2, .ref q3, .null, .null, .int 0])), (q0, .inl (cI, 10, .inl (fun _ => 0))), (q1, .inl (cI, 10, .inl (fun _ => 0))), (q2, .inl (cI, 10, .inl (fun _ => 0))), (q3, .inl (cI, 10, .inl (fun _ => 0)))] := hD3
  have hS : va_S A s.heap H3 locs3 := hS3
  clear hP3 hD3 hS3
  refine xn_group false (cA := cI) (v := 10) (n := 10) (pc1 := 39) hx hb hown hin hK hA rfl (fun w hw => hts2 w (iw_X4 w hw)) (hts2 _ ka_int) (hK.2 0 _ rfl).2 (lv_at hl 0 rfl) hP hD hS 4 (by decide) (Nat.le_of_ble_eq_true rfl) rfl rfl (by decide +kernel) (hts2 _ kf_X4_24) dX4_init_36 (fun st k => lv_bipush hx hb dX4_init_37 (by decide) k) dX4_init_39 dX4_init_41 (by decide) (by decide) (by decide) (Nat.le_of_ble_eq_true rfl) (Nat.le_of_ble_eq_true rfl) (fun q4 H4 locs4 hP4 hD4 hS4 => ?_)
  clear hP hD hS
  have hP : va_P D vwCl [(h0, .inr (4, [.ref q0, .ref q1, .ref q2, .ref q3, .ref q4, .null, .int 0])), (q0, .inl (cI, 10, .inl (fun _ => 0))), (q1, .inl (cI, 10, .inl (fun _ => 0))), (q2, .inl (cI, 10, .inl (fun _ => 0))), (q3, .inl (cI, 10, .inl (fun _ => 0))), (q4, .inl (cI, 10, .inl (fun _ => 0)))] H4 := hP4
  have hD : va_D A [(h0, .inr (4, [.ref q0, .ref q1, .ref q2, .ref q3, .ref q4, .null, .int 0])), (q0, .inl (cI, 10, .inl (fun _ => 0))), (q1, .inl (cI, 10, .inl (fun _ => 0))), (q2, .inl (cI, 10, .inl (fun _ => 0))), (q3, .inl (cI, 10, .inl (fun _ => 0))), (q4, .inl (cI, 10, .inl (fun _ => 0)))] := hD4
  have hS : va_S A s.heap H4 locs4 := hS4
  clear hP4 hD4 hS4
  refine xn_group false (cA := cI) (v := 10) (n := 10) (pc1 := 47) hx hb hown hin hK hA rfl (fun w hw => hts2 w (iw_X4 w hw)) (hts2 _ ka_int) (hK.2 0 _ rfl).2 (lv_at hl 0 rfl) hP hD hS 5 (by decide) (Nat.le_of_ble_eq_true rfl) rfl rfl (by decide +kernel) (hts2 _ kf_X4_27) dX4_init_44 (fun st k => lv_bipush hx hb dX4_init_45 (by decide) k) dX4_init_47 dX4_init_49 (by decide) (by decide) (by decide) (Nat.le_of_ble_eq_true rfl) (Nat.le_of_ble_eq_true rfl) (fun q5 H5 locs5 hP5 hD5 hS5 => ?_)
  clear hP hD hS
  have hP : va_P D vwCl [(h0, .inr (4, [.ref q0, .ref q1, .ref q2, .ref q3, .ref q4, .ref q5, .int 0])), (q0, .inl (cI, 10, .inl (fun _ => 0))), (q1, .inl (cI, 10, .inl (fun _ => 0))), (q2, .inl (cI, 10, .inl (fun _ => 0))), (q3, .inl (cI, 10, .inl (fun _ => 0))), (q4, .inl (cI, 10, .inl (fun _ => 0))), (q5, .inl (cI, 10, .inl (fun _ => 0)))] H5 := hP5
  have hD : va_D A [(h0, .inr (4, [.ref q0, .ref q1, .ref q2, .ref q3, .ref q4, .ref q5, .int 0])), (q0, .inl (cI, 10, .inl (fun _ => 0))), (q1, .inl (cI, 10, .inl (fun _ => 0))), (q2, .inl (cI, 10, .inl (fun _ => 0))), (q3, .inl (cI, 10, .inl (fun _ => 0))), (q4, .inl (cI, 10, .inl (fun _ => 0))), (q5, .inl (cI, 10, .inl (fun _ => 0)))] := hD5
  have hS : va_S A s.heap H5 locs5 := hS5
  clear hP5 hD5 hS5
  refine W.widen (k := 6) (n := 60) (Nat.le_of_ble_eq_true rfl) (Nat.le_of_ble_eq_true rfl) ?_
  exact W.vret hx hb hr (fun t ht hW => ⟨⟨(fun k => [q0, q1, q2, q3, q4, q5].getD k 0), rfl, trivial, by rw [ht]; exact hP, hD⟩, hS.F ht⟩) hS.2.2 dX4_init_52
end
section
def kT : List WE := [.inr (1, [some 1]), .inl (false, 60)]
def FT_X1i : List (Nat × Nat × Nat) := (13, 9, 41) :: FT_X1
theorem fa_X1i : ∀ (s : State) (args : Array Value), (∀ w ∈ wA, w.before args s = true) → xNw s → (∀ q ∈ FT_X1i, xFt s args RX1 q) ∧ (∀ q ∈ PT_X1, xPt s args RX1 q) ∧ ∀ q ∈ KT_X1, (Jvm.Cond.constant RX1 q.1 q.2).before args s = true :=
  fun s args hts hN => ⟨List.forall_mem_cons.mpr ⟨(⟨by decide, hts _ kf_X1_13⟩ : (_ ∧ _)), (fa_X1 s args hts hN).1⟩, (fa_X1 s args hts hN).2⟩
section
variable {p : Program} {l : Launch} {e : Env} {R : Room} {s : State} {m : MethodId} {args : Array Value} {below : List Frame} {meth : Method} {c : Code} {cells slots : Nat} {Q : State → Prop} {D : va_G} {g : Nat → Nat} {cI cZ : ClassId} {A : Nat → Prop} {R0 : RS}
def L_X1_tail : List CE := [(12, .iconst 0, 13, [], 0), (13, .istore_n 1, 14, [], 0), (14, .iload_n 1, 15, [], 0), (15, .bipush 10, 17, [], 10), (17, .if_icmp .ge 47, 20, [64], 0), (20, .iconst 0, 21, [], 0), (21, .istore_n 2, 22, [], 0), (22, .iload_n 2, 23, [], 0), (23, .bipush 6, 25, [], 6), (25, .if_icmp .ge 33, 28, [58], 0), (28, .aload_n 0, 29, [], 0), (29, .getfield 9, 32, [1, 0], 0), (32, .iload_n 1, 33, [], 0), (33, .bipush 6, 35, [], 6), (35, .imul, 36, [], 0), (36, .iload_n 2, 37, [], 0), (37, .iadd, 38, [], 0), (38, .iload_n 2, 39, [], 0), (39, .ifCond .ne 7, 42, [46], 0), (42, .iload_n 1, 43, [], 0), (43, .goto 8, 46, [51], 0), (46, .getstatic 13, 49, [41], 0), (49, .iload_n 2, 50, [], 0), (50, .iaload, 51, [], 0), (51, .iastore, 52, [], 0), (52, .iinc 2 1, 55, [], 1), (55, .goto (-33), 58, [22], 0), (58, .iinc 1 1, 61, [], 1), (61, .goto (-47), 64, [14], 0), (64, .return_, 65, [], 0)]
theorem ok_X1_tail : ∀ q ∈ L_X1_tail, rok cX1_init 3 2 q = true := by decide +kernel
theorem fk_X1_tail : ∀ q ∈ L_X1_tail, fck FT_X1i PT_X1 KT_X1 q = true := by decide +kernel
noncomputable def cs_X1_tail : List CT := []
noncomputable def b_X1_tail_22 (k14 : BT) : Nat → BT
  | 0 => fun _ _ _ => none
  | n + 1 => fun lv st S => brn kT cs_X1_tail L_X1_tail [14, 22] (dsp [(14, [0, 1], k14), (22, [0, 1, 2], b_X1_tail_22 k14 n)]) 32 [] 22 lv st S
theorem s_X1_tail_22 (M : xM p l e R s m args below meth c cells slots Q D kT g cI cZ A 3 cX1_init RX1 2 cs_X1_tail L_X1_tail R0) {k14 : BT} (hk14 : ∀ lv st S, k14 lv st S = some R0 → xG p l e R s m args below meth c cells slots Q D kT g cI cZ A 3 14 lv st S) : ∀ n lv st S, b_X1_tail_22 k14 n lv st S = some R0 → xG p l e R s m args below meth c cells slots Q D kT g cI cZ A 3 22 lv st S := by
  intro n
  induction n with
  | zero => intro lv st S h; cases h
  | succ n ih => intro lv st S h; exact xa_blk M (List.forall_mem_cons.mpr ⟨fun lv st S h => (hk14) lv st S h, List.forall_mem_cons.mpr ⟨fun lv st S h => (ih) lv st S h, fun _ q => absurd q List.not_mem_nil⟩⟩) h
noncomputable def b_X1_tail_14 : Nat → BT
  | 0 => fun _ _ _ => none
  | n + 1 => fun lv st S => brn kT cs_X1_tail L_X1_tail [14, 22] (dsp [(22, [0, 1, 2], b_X1_tail_22 (b_X1_tail_14 n) fu)]) 32 [] 14 lv st S
theorem s_X1_tail_14 (M : xM p l e R s m args below meth c cells slots Q D kT g cI cZ A 3 cX1_init RX1 2 cs_X1_tail L_X1_tail R0) : ∀ n lv st S, b_X1_tail_14 n lv st S = some R0 → xG p l e R s m args below meth c cells slots Q D kT g cI cZ A 3 14 lv st S := by
  intro n
  induction n with
  | zero => intro lv st S h; cases h
  | succ n ih => intro lv st S h; exact xa_blk M (List.forall_mem_cons.mpr ⟨fun lv st S h => (s_X1_tail_22 M ih fu) lv st S h, fun _ q => absurd q List.not_mem_nil⟩) h
noncomputable def m_X1_tail : MT := fun As S => brn kT cs_X1_tail L_X1_tail [14, 22] (dsp [(14, [0, 1], b_X1_tail_14 fu)]) 32 [] 12 (zipN 0 As) [] S
theorem s_X1_tail (M : xM p l e R s m args below meth c cells slots Q D kT g cI cZ A 3 cX1_init RX1 2 cs_X1_tail L_X1_tail R0) {As : List AV} {S : XS} (h : m_X1_tail As S = some R0) : xG p l e R s m args below meth c cells slots Q D kT g cI cZ A 3 12 (zipN 0 As) [] S := xa_blk M (List.forall_mem_cons.mpr ⟨fun lv st S h => (s_X1_tail_14 M fu) lv st S h, fun _ q => absurd q List.not_mem_nil⟩) h
def L_X6_tail : List CE := [(196, .iconst 0, 197, [], 0), (197, .istore_n 1, 198, [], 0), (198, .iload_n 1, 199, [], 0), (199, .bipush 10, 201, [], 10), (201, .if_icmp .ge 43, 204, [244], 0), (204, .aload_n 0, 205, [], 0), (205, .getfield 29, 208, [6, 8], 0), (208, .bipush 6, 210, [], 6), (210, .iload_n 1, 211, [], 0), (211, .imul, 212, [], 0), (212, .iload_n 1, 213, [], 0), (213, .iastore, 214, [], 0), (214, .aload_n 0, 215, [], 0), (215, .getfield 29, 218, [6, 8], 0), (218, .bipush 6, 220, [], 6), (220, .iload_n 1, 221, [], 0), (221, .imul, 222, [], 0), (222, .iconst 1, 223, [], 1), (223, .iadd, 224, [], 0), (224, .iconst 1, 225, [], 1), (225, .iastore, 226, [], 0), (226, .aload_n 0, 227, [], 0), (227, .getfield 29, 230, [6, 8], 0), (230, .bipush 6, 232, [], 6), (232, .iload_n 1, 233, [], 0), (233, .imul, 234, [], 0), (234, .iconst 3, 235, [], 3), (235, .iadd, 236, [], 0), (236, .iconst 2, 237, [], 2), (237, .iastore, 238, [], 0), (238, .iinc 1 1, 241, [], 1), (241, .goto (-43), 244, [198], 0), (244, .return_, 245, [], 0)]
theorem ok_X6_tail : ∀ q ∈ L_X6_tail, rok cX6_init 2 2 q = true := by decide +kernel
theorem fk_X6_tail : ∀ q ∈ L_X6_tail, fck FT_X6 PT_X6 KT_X6 q = true := by decide +kernel
noncomputable def cs_X6_tail : List CT := []
noncomputable def b_X6_tail_198 : Nat → BT
  | 0 => fun _ _ _ => none
  | n + 1 => fun lv st S => brn mT cs_X6_tail L_X6_tail [198] (dsp [(198, [0, 1], b_X6_tail_198 n)]) 35 [] 198 lv st S
theorem s_X6_tail_198 (M : xM p l e R s m args below meth c cells slots Q D mT g cI cZ A 2 cX6_init RX6 2 cs_X6_tail L_X6_tail R0) : ∀ n lv st S, b_X6_tail_198 n lv st S = some R0 → xG p l e R s m args below meth c cells slots Q D mT g cI cZ A 2 198 lv st S := by
  intro n
  induction n with
  | zero => intro lv st S h; cases h
  | succ n ih => intro lv st S h; exact xa_blk M (List.forall_mem_cons.mpr ⟨fun lv st S h => (ih) lv st S h, fun _ q => absurd q List.not_mem_nil⟩) h
noncomputable def m_X6_tail : MT := fun As S => brn mT cs_X6_tail L_X6_tail [198] (dsp [(198, [0, 1], b_X6_tail_198 fu)]) 35 [] 196 (zipN 0 As) [] S
theorem s_X6_tail (M : xM p l e R s m args below meth c cells slots Q D mT g cI cZ A 2 cX6_init RX6 2 cs_X6_tail L_X6_tail R0) {As : List AV} {S : XS} (h : m_X6_tail As S = some R0) : xG p l e R s m args below meth c cells slots Q D mT g cI cZ A 2 196 (zipN 0 As) [] S := xa_blk M (List.forall_mem_cons.mpr ⟨fun lv st S h => (s_X6_tail_198 M fu) lv st S h, fun _ q => absurd q List.not_mem_nil⟩) h
end
theorem dX1_init_0 : decode cX1_init 0 = .ok (.aload_n 0, 1) := by decide +kernel
theorem dX1_init_1 : decode cX1_init 1 = .ok (.invokespecial 1, 3) := by decide +kernel
theorem dX1_init_4 : decode cX1_init 4 = .ok (.aload_n 0, 1) := by decide +kernel
theorem dX1_init_5 : decode cX1_init 5 = .ok (.bipush 60, 2) := by decide +kernel
theorem dX1_init_7 : decode cX1_init 7 = .ok (.newarray .int, 2) := by decide +kernel
theorem dX1_init_9 : decode cX1_init 9 = .ok (.putfield 9, 3) := by decide +kernel
theorem dX1_init_12 : decode cX1_init 12 = .ok (.iconst 0, 1) := by decide +kernel
theorem dX1_init_13 : decode cX1_init 13 = .ok (.istore_n 1, 1) := by decide +kernel
theorem dX1_init_14 : decode cX1_init 14 = .ok (.iload_n 1, 1) := by decide +kernel
theorem dX1_init_15 : decode cX1_init 15 = .ok (.bipush 10, 2) := by decide +kernel
theorem dX1_init_17 : decode cX1_init 17 = .ok (.if_icmp .ge 47, 3) := by decide +kernel
theorem dX1_init_20 : decode cX1_init 20 = .ok (.iconst 0, 1) := by decide +kernel
theorem dX1_init_21 : decode cX1_init 21 = .ok (.istore_n 2, 1) := by decide +kernel
theorem dX1_init_22 : decode cX1_init 22 = .ok (.iload_n 2, 1) := by decide +kernel
theorem dX1_init_23 : decode cX1_init 23 = .ok (.bipush 6, 2) := by decide +kernel
theorem dX1_init_25 : decode cX1_init 25 = .ok (.if_icmp .ge 33, 3) := by decide +kernel
theorem dX1_init_28 : decode cX1_init 28 = .ok (.aload_n 0, 1) := by decide +kernel
theorem dX1_init_29 : decode cX1_init 29 = .ok (.getfield 9, 3) := by decide +kernel
theorem dX1_init_32 : decode cX1_init 32 = .ok (.iload_n 1, 1) := by decide +kernel
theorem dX1_init_33 : decode cX1_init 33 = .ok (.bipush 6, 2) := by decide +kernel
theorem dX1_init_35 : decode cX1_init 35 = .ok (.imul, 1) := by decide +kernel
theorem dX1_init_36 : decode cX1_init 36 = .ok (.iload_n 2, 1) := by decide +kernel
theorem dX1_init_37 : decode cX1_init 37 = .ok (.iadd, 1) := by decide +kernel
theorem dX1_init_38 : decode cX1_init 38 = .ok (.iload_n 2, 1) := by decide +kernel
theorem dX1_init_39 : decode cX1_init 39 = .ok (.ifCond .ne 7, 3) := by decide +kernel
theorem dX1_init_42 : decode cX1_init 42 = .ok (.iload_n 1, 1) := by decide +kernel
theorem dX1_init_43 : decode cX1_init 43 = .ok (.goto 8, 3) := by decide +kernel
theorem dX1_init_46 : decode cX1_init 46 = .ok (.getstatic 13, 3) := by decide +kernel
theorem dX1_init_49 : decode cX1_init 49 = .ok (.iload_n 2, 1) := by decide +kernel
theorem dX1_init_50 : decode cX1_init 50 = .ok (.iaload, 1) := by decide +kernel
theorem dX1_init_51 : decode cX1_init 51 = .ok (.iastore, 1) := by decide +kernel
theorem dX1_init_52 : decode cX1_init 52 = .ok (.iinc 2 1, 3) := by decide +kernel
theorem dX1_init_55 : decode cX1_init 55 = .ok (.goto (-33), 3) := by decide +kernel
theorem dX1_init_58 : decode cX1_init 58 = .ok (.iinc 1 1, 3) := by decide +kernel
theorem dX1_init_61 : decode cX1_init 61 = .ok (.goto (-47), 3) := by decide +kernel
theorem dX1_init_64 : decode cX1_init 64 = .ok (.return_, 1) := by decide +kernel
abbrev w0_X1 (h : Nat) : va_W := [(h, .inr (1, [.null]))]
abbrev w1_X1 (cI cZ : ClassId) (f : Nat → Int32) (h : Nat) (a : Nat → Nat) : va_W := [(h, .inr (1, [.ref (a 0)])), (a 0, .inl (cI, 60, .inl (f)))]
set_option maxHeartbeats 4000000 in
set_option maxRecDepth 100000 in
theorem c_X1_init (l : Launch) (D : va_G) (cI cZ : ClassId) (gs : Nat → Nat) (h0 sz : Nat) {R0 : RS} (htl : m_X1_tail [.inr 0] (fun _ _ => 0) = some R0) (hR0 : R0.2 = some none) : Met l yX1_init (wm yX1_init cX1_init 3 2) { frames := 1, cells := 1, slots := 60, locals := 12 } (va_Pc [.ref h0] (iPre D cI cZ gs (va_A (w0_X1 h0) sz) (w0_X1 h0) sz)) (iQ D (va_A (w0_X1 h0) sz) (w1_X1 cI cZ (R0.1 1) h0)) 1 60 (va_A (w0_X1 h0) sz) := by
  refine Met.ofW (cc := cX1_init) (maxL := 3) (ret := rety 2) (by decide) rfl ?_
  intro p e s m args below meth c s₁ B hml hv
  obtain ⟨rfl, hsz, hP, hK, hN, hst, hD0⟩ := hv
  have hx := B.exec
  have hb := B.bytes
  have hr := B.returns
  have hts := atoms_spec (ws := wm yX1_init cX1_init 3 2) B.pre
  have hts2 : ∀ w ∈ wA, w.before _ s = true := fun w hw => hts w (List.mem_cons_of_mem _ hw)
  have hown : s.vm.findClass RX1 = some m.cls := findClass_of_methodNamed B.named
  have hlocks := B.notSynchronized
  have hin : meth.name = "<init>" := (name_of_methodNamed B.named B.method).1
  subst hsz
  have hD := hD0.self (sz := s.heap.size)
  generalize hAe : va_A (w0_X1 h0) s.heap.size = A at hD hst ⊢
  have hA : ∀ q : Nat, s.heap.size ≤ q → A q := fun q h => by rw [← hAe]; exact Or.inr h
  have hS : va_S A s.heap s.heap [] := va_S.rf
  have hl := lv_entry ([.ref h0]) (n := 3) (Nat.le_of_ble_eq_true rfl)
  rw [lg_entry_eq]
  generalize (lg_sl ([.ref h0]) ++ List.replicate (3 - (lg_sl ([.ref h0])).length) Slot.unset).toArray = ls at hl ⊢
  have hl : lv_has ls 3 [(0, .ref h0)] := hl
  refine lv_aload_n hx hb dX1_init_0 rfl (lv_at hl 0 rfl) ?_
  refine W.objInit hx hb hown (hts2 _ ko_X1) (hts2 _ ko_i) (hts2 _ ko_c) rfl (by rw [hml]; exact hl.1) rfl dX1_init_1 (Nat.le_of_ble_eq_true rfl) (Nat.le_of_ble_eq_true rfl) ?_
  refine W.eq (g2 := F0 m 4 ls []) rfl ?_
  refine xn_group false (cA := cI) (v := 60) (n := 60) (pc1 := 7) hx hb hown hin hK hA rfl (fun w hw => hts2 w (iw_X1 w hw)) (hts2 _ ka_int) (hK.2 0 _ rfl).2 (lv_at hl 0 rfl) hP hD hS 0 (by decide) (Nat.le_of_ble_eq_true rfl) rfl rfl (by decide +kernel) (hts2 _ kf_X1_9) dX1_init_4 (fun st k => lv_bipush hx hb dX1_init_5 (by decide) k) dX1_init_7 dX1_init_9 (by decide) (by decide) (by decide) (Nat.le_of_ble_eq_true rfl) (Nat.le_of_ble_eq_true rfl) (fun q0 H0 locs0 hP0 hD0 hS0 => ?_)
  clear hP hD hS
  have hP : va_P D vwCl [(h0, .inr (1, [.ref q0])), (q0, .inl (cI, 60, .inl (fun _ => 0)))] H0 := hP0
  have hD : va_D A [(h0, .inr (1, [.ref q0])), (q0, .inl (cI, 60, .inl (fun _ => 0)))] := hD0
  have hS : va_S A s.heap H0 locs0 := hS0
  clear hP0 hD0 hS0
  obtain ⟨gt, hgt⟩ : ∃ gt : Nat → Nat, gt = (fun k => if k = 0 then h0 else if k = 1 then q0 else gs k) := ⟨_, rfl⟩
  have hP : va_P D vwCl (ww kT gt cI cZ (fun _ _ => 0)) H0 := by rw [hgt]; exact hP
  have hD : va_D A (ww kT gt cI cZ (fun _ _ => 0)) := by rw [hgt]; exact hD
  have hst2 : xSt gt A s s.heap := hst.re (by rw [hgt]; rfl) (by rw [hgt]; rfl) (by rw [hgt]; rfl)
  have C0 : xC p s m c D kT gt cI cZ A 3 cX1_init RX1 := ⟨hx, hb, hml, hown, hK, ww_D hD, hst2⟩
  obtain ⟨f1, f2, f3⟩ := fa_X1i s _ hts2 hN
  refine W.widen (k := 1) (n := 60) (Nat.le_of_ble_eq_true rfl) (Nat.le_of_ble_eq_true rfl) ?_
  refine s_X1_tail (As := [.inr 0]) (R0 := R0) ⟨C0, all_get (fun _ q => absurd q List.not_mem_nil), ?_, ok_X1_tail, fun q hq => xF_of f1 f2 f3 (fk_X1_tail q hq)⟩ htl _ _ ls hP hS (by rw [hgt]; exact hl)
  intro pc S v H locs ls e0 hP hS hd
  subst e0
  cases v with
  | none =>
    obtain ⟨hd, -⟩ := hd
    exact W.vret hx hb hr (fun t ht hW => ⟨⟨(fun k => [q0].getD k 0), rfl, trivial, by rw [ht]; rw [hgt] at hP; exact hP, by rw [hgt] at hD; exact hD⟩, hS.F ht⟩) hS.2.2 hd
  | some v =>
    cases v with
    | inl x => exact absurd hd.2.1 (by decide)
    | inr x => exact absurd hd.2 (by decide)
end
